def R_law : String := "CallBookLaw"
def lw_P (b : Addr) (xs : List Int32) (args : Array Value) (s : State) : Prop := args = #[.ref b] ∧ s.IntsAt b xs ∧ xs.length ≤ 3584 ∧ (Jvm.Cond.and given_1 narrow_1).before args s = true
def lw_Q (_ : Array Value) (s : State) (o : Outcome) (t : State) : Prop := o = .returned (some (.int 1)) ∧ Framed s o t [] 601024 7293034
def lw_Z (below : List Frame) (a : Array Value) (s : State) : State → Prop := fun t => ∃ o, t.status = .running ∧ Ended t below o ∧ lw_Q a s o t
/-- the law's own end, with 1 on the stack, nothing written that was there before, its room as the claim has it -/
theorem lw_ret {p : Program} {l : Launch} {e : Env} {s : State} {m : MethodId} {below : List Frame} {meth : Method} {c : Code} {b : Nat} (hx : p.tables.exec = Jvm.exec) (hb : c.code = code) (hr : meth.sig.returnType = ret) (hlocks : meth.locks = false) {pc : Nat} {H : Heap} {ls : Array Slot} (hdg : decode code pc = .ok (.ireturn, 1)) : W p l e room_1 s m #[Value.ref b] below meth c H [] 601024 7293034 (lw_Z below #[Value.ref b] s) (F0 m pc ls [.int 1]) := by
  intro T hT X
  obtain ⟨fs, hret, hrun, hended, hW, hframe⟩ := X.leave (v := some (.int 1)) (hlocks := hlocks) (fun h => by rw [hr] at h; cases h)
  have hmeth' : T.vm.method? m = some meth := X.method'
  refine ⟨T.setFrames fs, ?_, .returned (some (.int 1)), hrun, hended, rfl, ⟨_, rfl⟩, hW, hframe⟩
  jvm_step X.here [X.here.top, hx, hb, hdg, hmeth', hr, ret, narrow_b1]
  (try refine ⟨rfl, ?_⟩); (try refine ⟨rfl, ?_⟩)
  first | (intro acts; rw [hret _ acts rfl rfl rfl]) | rw [hret _ _ rfl rfl rfl]
  exact Steps.refl _
/-- what holds at the law's entry: the machine, the code, the tables' words (any of lw_tbl by 'hts w (by decide +kernel)'), the script of L ints xs at the cell b, what the Statement gives of the start (any of its parts by flat_of_before) -/
def lw_At (p : Program) (s : State) (m : MethodId) (meth : Method) (c : Code) (b L : Nat) (xs : Nat → Int32) : Prop :=
  p.tables.exec = Jvm.exec ∧ c.code = code ∧ meth.sig.returnType = ret ∧ c.maxLocals = 8 ∧ s.vm.findClass R_law = some m.cls ∧ (∀ w ∈ lw_tbl, w.before #[Value.ref b] s = true) ∧ va_X b L xs s s.heap ∧ b < s.heap.size ∧ meth.locks = false ∧ (Jvm.Cond.and given_1 narrow_1).before #[Value.ref b] s = true
/-! The law's walk: what stands between two calls -/
abbrev LB : String := "CallBookLaw"
def LSt (γ : mG) (M : mMap) (β : BK) (μ : RK) (a k t : Nat) : Prop := ∃ (oa cp : Nat → Nat) (L : Nat → List Nat) (σ : St) (ε : RE) (f : Nat → Int64), CB γ M β oa cp L σ ∧ RM γ M μ σ ε ∧ M a = some (ouc γ f) ∧ RIN σ k ∧ LN σ L ∧ cp 3 = cAt (stn σ) ∧ (∀ j, j ≠ 3 → cp j ≤ 373) ∧ stn σ = t
theorem LSt.of {γ : mG} {M1 M2 : mMap} {β : BK} {μ : RK} {a k : Nat} {oa cp : Nat → Nat} {L : Nat → List Nat} {σ σ' : St} {ε ε' : RE} {f : Nat → Int64} (hC : CB γ M1 β oa cp L σ') (hR : RM γ M1 μ σ ε) (ha : M1 a = some (ouc γ f)) (hq : RQ γ M1 M2 μ σ' ε') (hI : RIN σ' k) (hL : LN σ' L) (hcp : cp 3 = cAt (stn σ')) (hcpl : ∀ j, j ≠ 3 → cp j ≤ 373) : LSt γ M2 β μ a k (stn σ') :=
  ⟨oa, cp, L, σ', ε', f, hC.frB (hq.2.B hR), hq.1, hq.2.out hR ha, hI, hL, hcp, hcpl, rfl⟩
theorem mW.preXS {γ : mG} {M : mMap} {s : State} {H : Heap} {locs : List Loc} (hw : mW γ M s H locs) (hx : EXg γ s) {As : List Value} : PreS s H (mPcX γ M As) As := ⟨mPcX.blind, fun U hU hW => ⟨rfl, (hw.pre (As := []) U hU hW).2, hw.exg hx hU hW⟩⟩
theorem come_tn {g : Bool} {σ : St} {o : Nat} : stn σ ≤ stn (xCome g σ o) := by
  unfold xCome
  split
  · rw [tail_tn]
    split
    · exact Nat.le_refl _
    · exact meet_tn
  · exact Nat.le_refl _
theorem cAt_le : ∀ t, cAt t ≤ 2 * t + 10 := by
  intro t
  induction t with
  | zero => decide
  | succ t ih =>
    unfold cAt
    split
    · rename_i h
      unfold cgr
      split
      · omega
      · have : cAt t / 2 ≤ cAt t := Nat.div_le_self _ _; omega
    · omega
theorem kS_le : ∀ t, kS t ≤ 4 * t + 4 * cAt t := by
  intro t
  induction t with
  | zero => decide
  | succ t ih =>
    show kS t + (4 + sN (cAt t) t) ≤ 4 * (t + 1) + 4 * (if t = cAt t then cgr (cAt t) else cAt t)
    unfold sN
    by_cases h : t = cAt t
    · rw [if_pos h, if_pos h]
      have : cAt t ≤ 3 * (cAt t / 2) ∨ cAt t = 0 ∨ cAt t = 1 := by omega
      have hne : cAt t ≠ 1 := fun z => by
        have h1 := cAt_ge t
        rw [z] at h
        subst h
        exact absurd z (by decide)
      unfold cgr
      by_cases h0 : cAt t = 0
      · rw [if_pos h0]; omega
      · rw [if_neg h0]; omega
    · rw [if_neg h, if_neg h]; omega
theorem room_ok {t k c s : Nat} (ht : t ≤ 30000) (hk : k ≤ 513) (hc : c ≤ 100 + kC t + 3 * k) (hs : s ≤ 127000 + kS t + 756 * k) : c ≤ room_1.cells ∧ s ≤ room_1.slots := by
  have h1 := kC_le t
  have h2 := kS_le t
  have h3 := cAt_le t
  show c ≤ 601024 ∧ s ≤ 7293034
  omega
section LROWS
variable {γ : mG} {M : mMap} {p : Program} {l : Launch} {e : Env} {R : Room} {s : State} {m : MethodId} {args : Array Value} {below : List Frame} {meth : Method} {c : Code} {H : Heap} {locs : List Loc} {cells slots pc nL : Nat} {Q : State → Prop} {ls : Array Slot} {rest : List Value} {cc : ByteArray} {c0 : Cond} {own : String} {b n : Nat} {xs : Nat → Int32}
theorem m_scr (S : CallFix p m c cc nL s args (c0 :: GG) own) (hX : va_X b n xs s s.heap) (hb : b < gz γ) (hn : n ≤ 3584) (hw : mW γ M s H locs) {j : Nat} {x : Int32} (hx : x = nI j) (hj : j < n) (hdg : decode cc pc = .ok (.iaload, 1))
    (kk : W p l e R s m args below meth c H locs cells slots Q (F0 m (pc + 1) ls (.int (xs j) :: rest))) : W p l e R s m args below meth c H locs cells slots Q (F0 m pc ls (.int x :: .ref b :: rest)) := by
  subst hx
  refine va_sld (A := mA (gz γ)) S.1 S.2.1 hX (Nat.lt_of_lt_of_le hb hw.1) (fun z => absurd hb (Nat.not_lt.mpr z)) hw.2.1 (vp_in_nI hj (by omega)) hdg ?_
  rw [nI_clamp (by omega)]
  exact kk
theorem m_slen (S : CallFix p m c cc nL s args (c0 :: GG) own) (hX : va_X b n xs s s.heap) (hb : b < gz γ) (hw : mW γ M s H locs) (hdg : decode cc pc = .ok (.arraylength, 1))
    (kk : W p l e R s m args below meth c H locs cells slots Q (F0 m (pc + 1) ls (.int (nI n) :: rest))) : W p l e R s m args below meth c H locs cells slots Q (F0 m pc ls (.ref b :: rest)) :=
  va_slen (A := mA (gz γ)) S.1 S.2.1 hX (Nat.lt_of_lt_of_le hb hw.1) (fun z => absurd hb (Nat.not_lt.mpr z)) hw.2.1 hdg kk
end LROWS
theorem nI_p {a b : Nat} : nI a + nI b = nI (a + b) := by
  unfold nI
  exact (Int32.ofNat_add a b).symm
/-- where the walk goes on behind a call -/
def Kon (γ : mG) (p : Program) (l : Launch) (e : Env) (s : State) (m : MethodId) (below : List Frame) (meth : Method) (c : Code) (b : Nat) (β : BK) (μ : RK) (a k : Nat) : Prop :=
  ∀ (M : mMap) (t : Nat) (H : Heap) (locs : List Loc) (ls : Array Slot) (cells slots : Nat), LSt γ M β μ a (k + 1) t → cells ≤ 100 + kC t + 3 * (k + 1) → slots ≤ 127000 + kS t + 756 * (k + 1) → lv_has ls 8 [(4, .int (nI (7 * k))), (3, .ref a), (2, .ref (rx μ)), (1, .ref (bx β)), (0, .ref b)] → mW γ M s H locs →
    W p l e room_1 s m #[.ref b] below meth c H locs cells slots (lw_Z below #[.ref b] s) (F0 m 932 ls [])
/-- the law's fixed things -/
def LX (γ : mG) (p : Program) (s : State) (m : MethodId) (c : Code) (b n : Nat) (xs : Nat → Int32) : Prop := CallFix p m c code 8 s #[.ref b] (Cond.tt :: GG) LB ∧ EXg γ s ∧ va_X b n xs s s.heap ∧ b < gz γ ∧ n ≤ 3584
