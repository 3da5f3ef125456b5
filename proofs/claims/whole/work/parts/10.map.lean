/-! The heap as a map: one world for every method. M says what lies where; z is the heap's size at the law's start. -/
abbrev mMap : Type := Nat → Option va_E
def mU (M : mMap) (a : Nat) (e : va_E) : mMap := fun q => if q = a then some e else M q
theorem mU_eq (M : mMap) (a : Nat) (e : va_E) : mU M a e a = some e := if_pos rfl
theorem mU_ne {M : mMap} {a b : Nat} {e : va_E} (h : b ≠ a) : mU M a e b = M b := if_neg h
theorem mU_to {M : mMap} {a b : Nat} {e : va_E} {x : Option va_E} (h : b ≠ a) (hb : M b = x) : mU M a e b = x := (mU_ne h).trans hb
theorem mU_uu (M : mMap) (a : Nat) (e1 e2 : va_E) : mU (mU M a e1) a e2 = mU M a e2 := by
  funext q
  unfold mU
  by_cases h : q = a
  · rw [if_pos h, if_pos h]
  · rw [if_neg h, if_neg h, if_neg h]
def mA (z : Nat) : Nat → Prop := fun q => z ≤ q
def mIn (M : mMap) (ws : va_W) : Prop := ∀ (a : Nat) (e : va_E), M a = some e → ∃ k : Nat, ws[k]? = some (a, e)
theorem mIn.set {M : mMap} {ws : va_W} {q0 a : Nat} {e0 e : va_E} (hm : mIn M ws) (he : ws[q0]? = some (a, e0)) : mIn (mU M a e) (ws.set q0 (a, e)) := by
  intro b x hx
  have hlt : q0 < ws.length := (List.getElem?_eq_some_iff.mp he).1
  by_cases hb : b = a
  · subst hb
    rw [mU_eq] at hx
    cases hx
    exact ⟨q0, by simp [hlt]⟩
  · rw [mU_ne hb] at hx
    obtain ⟨k, hk⟩ := hm b x hx
    refine ⟨k, ?_⟩
    have hne : q0 ≠ k := fun h => by
      subst h
      rw [he] at hk
      cases hk
      exact hb rfl
    rw [List.getElem?_set_ne hne]
    exact hk
theorem mIn.push {M : mMap} {ws : va_W} {q : Nat} {e : va_E} (hm : mIn M ws) : mIn (mU M q e) (ws ++ [(q, e)]) := by
  intro b x hx
  by_cases hb : b = q
  · subst hb
    rw [mU_eq] at hx
    cases hx
    exact ⟨ws.length, by rw [List.getElem?_append_right (Nat.le_refl _), Nat.sub_self]; rfl⟩
  · rw [mU_ne hb] at hx
    obtain ⟨k, hk⟩ := hm b x hx
    exact ⟨k, by rw [List.getElem?_append_left ((List.getElem?_eq_some_iff.mp hk).1)]; exact hk⟩
theorem mIn.fresh {M : mMap} {ws : va_W} {q : Nat} {e : va_E} {A : Nat → Prop} (hm : mIn M ws) (hD : va_D A (ws ++ [(q, e)])) : M q = none := by
  cases h : M q with
  | none => rfl
  | some x =>
    obtain ⟨k, hk⟩ := hm q x h
    have hl := (List.getElem?_eq_some_iff.mp hk).1
    have h1 : (ws ++ [(q, e)])[k]? = some (q, x) := by rw [List.getElem?_append_left hl]; exact hk
    have h2 : (ws ++ [(q, e)])[ws.length]? = some (q, e) := by rw [List.getElem?_append_right (Nat.le_refl _), Nat.sub_self]; rfl
    have := hD.1 _ _ _ _ h1 h2 rfl
    omega
theorem mIn.apart {M : mMap} {ws : va_W} {q : Nat} {e : va_E} {A : Nat → Prop} (hm : mIn M ws) (hD : va_D A ws) {b : Nat} {x : va_E} (h : M b = some x) : A b := by
  obtain ⟨k, hk⟩ := hm b x h
  exact hD.2 k _ hk
/-- the parameters: classes and slots, the classes of arrays, the heap's size at the start, the empty list's array, the mirror of Object[] -/
abbrev mG : Type := va_G × (Nat → ClassId) × Nat × Nat × Nat
abbrev gz (γ : mG) : Nat := γ.2.2.1
abbrev ge (γ : mG) : Nat := γ.2.2.2.1
abbrev gm (γ : mG) : Nat := γ.2.2.2.2
abbrev gA (γ : mG) (k : Nat) : ClassId := γ.2.1 k
abbrev mT (γ : mG) : List (ClassId × FieldType) := [(gA γ 0, .int), (gA γ 1, .boolean), (gA γ 2, .long), (gA γ 3, .object "java/lang/Object")]
/-- what old cells and tables say that no row of ours changes -/
def mX (γ : mG) (U : State) (H : Heap) : Prop :=
  va_Z "java/util/ArrayList" "DEFAULTCAPACITY_EMPTY_ELEMENTDATA" "[Ljava/lang/Object;" (.ref (ge γ)) (mA (gz γ)) U H ∧
  va_T (.object "java/lang/Object") (ge γ) 0 (fun _ => .null) (mA (gz γ)) U H ∧
  va_AO "java/lang/Object" U ∧ va_Mi "[Ljava/lang/Object;" (gm γ) U ∧ va_Dc U ∧
  va_Nw (.castable "CallBook$Order" "java/lang/Object") U ∧ va_Nw (.castable "CallBook$Trade" "java/lang/Object") U
theorem va_Nw.cast {C D : String} {u U : State} (hvm : u.vm.Alike U.vm) (h : va_Nw (.castable C D) u) : va_Nw (.castable C D) U := va_tabs rfl (rfl : (u.setVm U.vm).vm = U.vm) (by rw [Cond.castable_setVm hvm]; exact h)
theorem mX.moved {γ : mG} {u U : State} {H H1 : Heap} (hvm : u.vm.Alike U.vm) (hq : ∀ a : Nat, a < H.size → ¬ mA (gz γ) a → H1[a]? = H[a]?) (h : mX γ u H) : mX γ U H1 := by
  obtain ⟨h1, h2, h3, h4, h5, h6, h7⟩ := h
  exact ⟨(h1.moved hvm).kept hq, (h2.moved hvm).kept hq, h3.moved hvm, h4.moved hvm, h5.moved hvm, h6.cast hvm, h7.cast hvm⟩
def mK (γ : mG) (U : State) (H : Heap) : Prop := va_K γ.1 vwCl (mT γ) U ∧ mX γ U H
theorem mK.moved {γ : mG} {u U : State} {H H1 : Heap} (hvm : u.vm.Alike U.vm) (hq : ∀ a : Nat, a < H.size → ¬ mA (gz γ) a → H1[a]? = H[a]?) (h : mK γ u H) : mK γ U H1 := ⟨h.1.moved hvm, h.2.moved hvm hq⟩
/-- the heap holds the map -/
def mH (γ : mG) (M : mMap) (H : Heap) : Prop := gz γ ≤ H.size ∧ ∃ ws : va_W, mIn M ws ∧ va_P γ.1 vwCl ws H ∧ va_D (mA (gz γ)) ws
/-- the world in the midst of a method that began at s -/
def mW (γ : mG) (M : mMap) (s : State) (H : Heap) (locs : List Loc) : Prop := gz γ ≤ s.heap.size ∧ va_S (mA (gz γ)) s.heap H locs ∧ mK γ s s.heap ∧ ∃ ws : va_W, mIn M ws ∧ va_P γ.1 vwCl ws H ∧ va_D (mA (gz γ)) ws
theorem mW.toH {γ : mG} {M : mMap} {s : State} {H : Heap} {locs : List Loc} (h : mW γ M s H locs) : mH γ M H := ⟨Nat.le_trans h.1 h.2.1.1, h.2.2.2⟩
theorem mW.K {γ : mG} {M : mMap} {s U : State} {H H1 : Heap} {locs : List Loc} (h : mW γ M s H locs) (hvm : s.vm.Alike U.vm) (e : H1 = H) : mK γ U H1 := by
  subst e
  exact h.2.2.1.moved hvm h.2.1.2.1
theorem mW.of {γ : mG} {M : mMap} {s : State} (h : mH γ M s.heap) (hk : mK γ s s.heap) : mW γ M s s.heap [] := ⟨h.1, va_S.rf, hk, h.2⟩
theorem mW.big {γ : mG} {M : mMap} {s : State} {H : Heap} {locs : List Loc} (h : mW γ M s H locs) {a : Nat} {e : va_E} (he : M a = some e) : gz γ ≤ a := by
  obtain ⟨-, -, -, ws, hm, -, hD⟩ := h
  obtain ⟨k, hk⟩ := hm a e he
  exact hD.2 k _ hk
theorem mW.sub {γ : mG} {M M' : mMap} {s : State} {H : Heap} {locs : List Loc} (h : mW γ M s H locs) (hs : ∀ a e, M' a = some e → M a = some e) : mW γ M' s H locs := by
  obtain ⟨h1, h2, h3, ws, hm, hP, hD⟩ := h
  exact ⟨h1, h2, h3, ws, fun a e he => hm a e (hs a e he), hP, hD⟩
/-- a method's start and ends -/
def mPc (γ : mG) (M : mMap) (As : List Value) : Array Value → State → Prop := va_Pc As (fun U => mH γ M U.heap ∧ mK γ U U.heap)
abbrev mB (γ : mG) : mMap → State → Prop := fun M t => mH γ M t.heap ∧ mK γ t t.heap
def mQi (γ : mG) (post : Int32 → mMap → Prop) : Array Value → State → Outcome → State → Prop := va_Qi post (mB γ) (mA (gz γ))
def mQl (γ : mG) (post : Int64 → mMap → Prop) : Array Value → State → Outcome → State → Prop := va_Ql post (mB γ) (mA (gz γ))
def mQv (γ : mG) (post : mMap → Prop) : Array Value → State → Outcome → State → Prop := va_Qv post (mB γ) (mA (gz γ))
def mQq (γ : mG) (post : Option Nat → mMap → Prop) : Array Value → State → Outcome → State → Prop := va_Qq post (mB γ) (mA (gz γ))
theorem mPc.blind {γ : mG} {M : mMap} {As : List Value} : FrameBlind (mPc γ M As) := by
  intro a U g mk h
  obtain ⟨h1, h2, h3⟩ := h
  exact ⟨h1, h2, mK.moved (u := U) (U := U.calling g mk a) (Vm.Alike.refl U.vm) (fun _ _ _ => rfl) h3⟩
/-- what the tables say of a class whose objects we hold -/
def mC (ci : Nat) (C : String) (T : u_T) (N : Nat) (ty : Nat → FieldType) : Prop := vwCl[ci]? = some (C, T, N) ∧ (∀ w ∈ u_ws C T N, w ∈ GG) ∧ (∀ k, k < N → parseFieldDescriptor (T k).2.2.1 = some (ty k)) ∧ ∀ a, a < N → ∀ b, b < N → a ≠ b → (T a).2.1 ≠ (T b).2.1
theorem cl_AL : mC 0 "java/util/ArrayList" T_AL 3 t_AL := ⟨rfl, uw_AL, tk_AL, n_AL⟩
theorem cl_A : mC 1 "CallBook$Auction" T_A 3 t_A := ⟨rfl, uw_A, tk_A, n_A⟩
theorem cl_O : mC 2 "CallBook$Order" T_O 10 t_O := ⟨rfl, uw_O, tk_O, n_O⟩
theorem cl_S : mC 3 "CallBook$Side" T_S 1 t_S := ⟨rfl, uw_S, tk_S, n_S⟩
theorem cl_R : mC 4 "CallBook$Trade" T_R 4 t_R := ⟨rfl, uw_R, tk_R, n_R⟩
theorem cl_G : mC 5 "CallBook$TradeLog" T_G 2 t_G := ⟨rfl, uw_G, tk_G, n_G⟩
theorem cl_B : mC 6 "CallBook" T_B 9 t_B := ⟨rfl, uw_B, tk_B, n_B⟩
theorem cl_M : mC 7 "CallBookModel" T_M 26 t_M := ⟨rfl, uw_M, tk_M, n_M⟩
theorem gc {c0 w : Cond} (h : w ∈ GG) : w ∈ c0 :: GG := List.mem_cons_of_mem _ h
theorem gg {c0 c1 : Cond} (h : c1 ∈ GG) : GoodIn (c0 :: GG) (c1 :: GG) := by
  have good : ∀ w, w ∈ GG → (w.onTables && w.keeps) = true ∨ ∃ ty, w = .arrayClass ty := fun w hw => good_of_word (List.mem_filter.mp hw).2
  intro w hw
  rcases List.mem_cons.mp hw with e | e
  · subst e; exact ⟨gc h, good _ h⟩
  · exact ⟨gc e, good _ e⟩
theorem ggs {c0 : Cond} {ws : List Cond} (h : ∀ w ∈ ws, w ∈ GG) : GoodIn (c0 :: GG) ws := fun w hw => ⟨gc (h w hw), good_of_word (List.mem_filter.mp (h w hw)).2⟩
theorem gga {c0 : Cond} {a b : List Cond} (ha : GoodIn (c0 :: GG) a) (hb : GoodIn (c0 :: GG) b) : GoodIn (c0 :: GG) (a ++ b) := fun w h => (List.mem_append.mp h).elim (ha w) (hb w)
section MROWS
variable {p : Program} {l : Launch} {e : Env} {R : Room} {s : State} {m : MethodId} {args : Array Value} {below : List Frame} {meth : Method} {c : Code} {H : Heap} {locs : List Loc} {cells slots : Nat} {Q : State → Prop}
variable {cc : ByteArray} {pc nL : Nat} {ls : Array Slot} {rest st0 : List Value} {γ : mG} {M : mMap} {a : Nat} {c0 : Cond} {own : String}
theorem m_get (S : CallFix p m c cc nL s args (c0 :: GG) own) (hw : mW γ M s H locs) {ref C : String} {T : u_T} {N ci index : Nat} {ty0 : Nat → FieldType} {fs : List Value} (hc : mC ci C T N ty0) (he : M a = some (.inr (ci, fs))) (k : Nat) (hk : k < N) (hl : Cond.fieldLink own index ref (T k).2.1 (T k).2.2.1 ∈ GG) (hsame : ∀ x, s.fieldFound? (T k).1 (T k).2.1 (T k).2.2.1 = some x → s.fieldFound? ref (T k).2.1 (T k).2.2.1 = some x) {v : Value} (hv : fs[k]? = some v) (hdg : decode cc pc = .ok (.getfield index, 3))
    (kk : W p l e R s m args below meth c H locs cells slots Q (F0 m (pc + 3) ls (v :: rest))) : W p l e R s m args below meth c H locs cells slots Q (F0 m pc ls (.ref a :: rest)) := by
  obtain ⟨-, -, hK, ws, hm, hP, -⟩ := hw
  obtain ⟨q0, hq⟩ := hm _ _ he
  exact va_get S.1 S.2.1 S.2.2.2.2 (fun w h => gc (hc.2.1 w h)) S.2.2.2.1 hK.1 hP q0 hq hc.1 k hk (S.2.2.2.2 _ (gc hl)) hsame hv hdg kk
theorem m_put (S : CallFix p m c cc nL s args (c0 :: GG) own) (hw : mW γ M s H locs) {ref C : String} {T : u_T} {N ci index : Nat} {ty0 : Nat → FieldType} {fs : List Value} (hc : mC ci C T N ty0) (he : M a = some (.inr (ci, fs))) (k : Nat) (hk : k < N) (hl : Cond.fieldLink own index ref (T k).2.1 (T k).2.2.1 ∈ GG) (hsame : ∀ x, s.fieldFound? (T k).1 (T k).2.1 (T k).2.2.1 = some x → s.fieldFound? ref (T k).2.1 (T k).2.2.1 = some x)
    (hfin : (T k).2.2.2 = false) {v : Value} (hn : narrow (ty0 k) v = v) (hfit : fits (ty0 k) v = true) (hlen : k < fs.length) (hdg : decode cc pc = .ok (.putfield index, 3))
    (kk : ∀ (H1 : Heap) (locs1 : List Loc), mW γ (mU M a (.inr (ci, fs.set k v))) s H1 locs1 → W p l e R s m args below meth c H1 locs1 cells slots Q (F0 m (pc + 3) ls rest)) : W p l e R s m args below meth c H locs cells slots Q (F0 m pc ls (v :: .ref a :: rest)) := by
  obtain ⟨h0, hS, hK, ws, hm, hP, hD⟩ := hw
  obtain ⟨q0, hq⟩ := hm _ _ he
  exact va_put S.1 S.2.1 S.2.2.2.2 (fun w h => gc (hc.2.1 w h)) ty0 hc.2.2.1 hc.2.2.2 S.2.2.2.1 hK.1 hP hD hS q0 hq hc.1 k hk (S.2.2.2.2 _ (gc hl)) hsame hfin (hc.2.2.1 k hk) hn hfit hlen hdg (fun H1 locs1 hP1 hD1 hS1 => kk H1 locs1 ⟨h0, hS1, hK, _, hm.set hq, hP1, hD1⟩)
theorem m_putF (S : CallFix p m c cc nL s args (c0 :: GG) own) (hw : mW γ M s H locs) {ref C : String} {T : u_T} {N ci index : Nat} {ty0 : Nat → FieldType} {fs : List Value} (hc : mC ci C T N ty0) (he : M a = some (.inr (ci, fs))) (k : Nat) (hk : k < N) (hl : Cond.fieldLink own index ref (T k).2.1 (T k).2.2.1 ∈ GG) (hsame : ∀ x, s.fieldFound? (T k).1 (T k).2.1 (T k).2.2.1 = some x → s.fieldFound? ref (T k).2.1 (T k).2.2.1 = some x)
    (hfin : (T k).2.2.2 = true) (hin2 : meth.name = "<init>") (hdecl : (T k).1 = own) {v : Value} (hn : narrow (ty0 k) v = v) (hfit : fits (ty0 k) v = true) (hlen : k < fs.length) (hdg : decode cc pc = .ok (.putfield index, 3))
    (kk : ∀ (H1 : Heap) (locs1 : List Loc), mW γ (mU M a (.inr (ci, fs.set k v))) s H1 locs1 → W p l e R s m args below meth c H1 locs1 cells slots Q (F0 m (pc + 3) ls rest)) : W p l e R s m args below meth c H locs cells slots Q (F0 m pc ls (v :: .ref a :: rest)) := by
  obtain ⟨h0, hS, hK, ws, hm, hP, hD⟩ := hw
  obtain ⟨q0, hq⟩ := hm _ _ he
  exact va_putF S.1 S.2.1 S.2.2.2.2 (fun w h => gc (hc.2.1 w h)) ty0 hc.2.2.1 hc.2.2.2 S.2.2.2.1 hK.1 hP hD hS q0 hq hc.1 k hk (S.2.2.2.2 _ (gc hl)) hsame hfin hin2 hdecl (hc.2.2.1 k hk) hn hfit hlen hdg (fun H1 locs1 hP1 hD1 hS1 => kk H1 locs1 ⟨h0, hS1, hK, _, hm.set hq, hP1, hD1⟩)
theorem m_new (S : CallFix p m c cc nL s args (c0 :: GG) own) (hw : mW γ M s H locs) {C : String} {T : u_T} {N ci index : Nat} {ty : Nat → FieldType} (hc : mC ci C T N ty) (hcl : Cond.classLink own index C ∈ GG) (hinst : Cond.instantiable C N ∈ GG) (hini : Cond.initialized C ∈ GG) {fs : List Value} (hfs : ∀ j, j < N → defaultValue (ty j) = vp_V fs j) (hcells : cells + 1 ≤ R.cells) (hslots : slots + N ≤ R.slots) (hdg : decode cc pc = .ok (.new index, 3))
    (kk : ∀ (q : Nat) (H1 : Heap), M q = none → gz γ ≤ q → mW γ (mU M q (.inr (ci, fs))) s H1 locs → W p l e R s m args below meth c H1 locs (cells + 1) (slots + N) Q (F0 m (pc + 3) ls (.ref q :: rest))) : W p l e R s m args below meth c H locs cells slots Q (F0 m pc ls rest) := by
  obtain ⟨h0, hS, hK, ws, hm, hP, hD⟩ := hw
  refine va_new S.1 S.2.1 S.2.2.2.2 (fun w h => gc (hc.2.1 w h)) ty hc.2.2.1 S.2.2.2.1 (S.2.2.2.2 _ (gc hcl)) (S.2.2.2.2 _ (gc hinst)) (S.2.2.2.2 _ (gc hini)) hK.1 hP hD hS (fun q h => Nat.le_trans h0 h) hc.1 hfs hcells hslots hdg (fun q H1 hP1 hD1 hS1 => ?_)
  have hb : gz γ ≤ q := hD1.2 ws.length (q, _) (by rw [List.getElem?_append_right (Nat.le_refl _), Nat.sub_self]; rfl)
  exact kk q H1 (hm.fresh hD1) hb ⟨h0, hS1, hK, _, hm.push, hP1, hD1⟩
theorem m_iald (S : CallFix p m c cc nL s args (c0 :: GG) own) (hw : mW γ M s H locs) {n : Nat} {f : Nat → Int32} (he : M a = some (.inl (gA γ 0, n, .inl f))) {i : Int32} (hin : vp_in i n) (hdg : decode cc pc = .ok (.iaload, 1))
    (kk : W p l e R s m args below meth c H locs cells slots Q (F0 m (pc + 1) ls (.int (f i.toNatClampNeg) :: rest))) : W p l e R s m args below meth c H locs cells slots Q (F0 m pc ls (.int i :: .ref a :: rest)) := by
  obtain ⟨-, -, hK, ws, hm, hP, -⟩ := hw
  obtain ⟨q0, hq⟩ := hm _ _ he
  exact va_iald S.1 S.2.1 hK.1 hP q0 0 hq rfl hin hdg kk
theorem m_zald (S : CallFix p m c cc nL s args (c0 :: GG) own) (hw : mW γ M s H locs) {n : Nat} {f : Nat → Int32} (he : M a = some (.inl (gA γ 1, n, .inl f))) {i : Int32} (hin : vp_in i n) (hdg : decode cc pc = .ok (.baload, 1))
    (kk : W p l e R s m args below meth c H locs cells slots Q (F0 m (pc + 1) ls (.int (f i.toNatClampNeg) :: rest))) : W p l e R s m args below meth c H locs cells slots Q (F0 m pc ls (.int i :: .ref a :: rest)) := by
  obtain ⟨-, -, hK, ws, hm, hP, -⟩ := hw
  obtain ⟨q0, hq⟩ := hm _ _ he
  exact va_zald S.1 S.2.1 hK.1 hP q0 1 hq rfl hin hdg kk
theorem m_lald (S : CallFix p m c cc nL s args (c0 :: GG) own) (hw : mW γ M s H locs) {n : Nat} {f : Nat → Int64} (he : M a = some (.inl (gA γ 2, n, .inr (.inl f)))) {i : Int32} (hin : vp_in i n) (hdg : decode cc pc = .ok (.laload, 1))
    (kk : W p l e R s m args below meth c H locs cells slots Q (F0 m (pc + 1) ls (.long (f i.toNatClampNeg) :: rest))) : W p l e R s m args below meth c H locs cells slots Q (F0 m pc ls (.int i :: .ref a :: rest)) := by
  obtain ⟨-, -, hK, ws, hm, hP, -⟩ := hw
  obtain ⟨q0, hq⟩ := hm _ _ he
  exact va_lald S.1 S.2.1 hK.1 hP q0 2 hq rfl hin hdg kk
theorem m_aald (S : CallFix p m c cc nL s args (c0 :: GG) own) (hw : mW γ M s H locs) {n : Nat} {f : Nat → Option Nat} (he : M a = some (.inl (gA γ 3, n, .inr (.inr (.inr (.inr f)))))) {i : Int32} (hin : vp_in i n) (hdg : decode cc pc = .ok (.aaload, 1))
    (kk : W p l e R s m args below meth c H locs cells slots Q (F0 m (pc + 1) ls (va_rf (f i.toNatClampNeg) :: rest))) : W p l e R s m args below meth c H locs cells slots Q (F0 m pc ls (.int i :: .ref a :: rest)) := by
  obtain ⟨-, -, hK, ws, hm, hP, -⟩ := hw
  obtain ⟨q0, hq⟩ := hm _ _ he
  exact va_aldq S.1 S.2.1 hK.1 hP q0 3 hq rfl hin hdg kk
theorem m_iast (S : CallFix p m c cc nL s args (c0 :: GG) own) (hw : mW γ M s H locs) {n : Nat} {f : Nat → Int32} (he : M a = some (.inl (gA γ 0, n, .inl f))) {i x : Int32} (hin : vp_in i n) (hdg : decode cc pc = .ok (.iastore, 1))
    (kk : ∀ (H1 : Heap) (locs1 : List Loc), mW γ (mU M a (.inl (gA γ 0, n, .inl (upd f i.toNatClampNeg x)))) s H1 locs1 → W p l e R s m args below meth c H1 locs1 cells slots Q (F0 m (pc + 1) ls rest)) : W p l e R s m args below meth c H locs cells slots Q (F0 m pc ls (.int x :: .int i :: .ref a :: rest)) := by
  obtain ⟨h0, hS, hK, ws, hm, hP, hD⟩ := hw
  obtain ⟨q0, hq⟩ := hm _ _ he
  exact va_iast S.1 S.2.1 hK.1 hP hD hS q0 0 hq rfl hin hdg (fun H1 locs1 hP1 hD1 hS1 => kk H1 locs1 ⟨h0, hS1, hK, _, hm.set hq, hP1, hD1⟩)
theorem m_zast (S : CallFix p m c cc nL s args (c0 :: GG) own) (hw : mW γ M s H locs) {n : Nat} {f : Nat → Int32} (he : M a = some (.inl (gA γ 1, n, .inl f))) {i x : Int32} (hin : vp_in i n) (hdg : decode cc pc = .ok (.bastore, 1))
    (kk : ∀ (H1 : Heap) (locs1 : List Loc), mW γ (mU M a (.inl (gA γ 1, n, .inl (upd f i.toNatClampNeg (vp_nar .boolean x))))) s H1 locs1 → W p l e R s m args below meth c H1 locs1 cells slots Q (F0 m (pc + 1) ls rest)) : W p l e R s m args below meth c H locs cells slots Q (F0 m pc ls (.int x :: .int i :: .ref a :: rest)) := by
  obtain ⟨h0, hS, hK, ws, hm, hP, hD⟩ := hw
  obtain ⟨q0, hq⟩ := hm _ _ he
  exact va_zast S.1 S.2.1 hK.1 hP hD hS q0 1 hq rfl hin hdg (fun H1 locs1 hP1 hD1 hS1 => kk H1 locs1 ⟨h0, hS1, hK, _, hm.set hq, hP1, hD1⟩)
theorem m_last (S : CallFix p m c cc nL s args (c0 :: GG) own) (hw : mW γ M s H locs) {n : Nat} {f : Nat → Int64} (he : M a = some (.inl (gA γ 2, n, .inr (.inl f)))) {i : Int32} {x : Int64} (hin : vp_in i n) (hdg : decode cc pc = .ok (.lastore, 1))
    (kk : ∀ (H1 : Heap) (locs1 : List Loc), mW γ (mU M a (.inl (gA γ 2, n, .inr (.inl (vp_updL f i.toNatClampNeg x))))) s H1 locs1 → W p l e R s m args below meth c H1 locs1 cells slots Q (F0 m (pc + 1) ls rest)) : W p l e R s m args below meth c H locs cells slots Q (F0 m pc ls (.long x :: .int i :: .ref a :: rest)) := by
  obtain ⟨h0, hS, hK, ws, hm, hP, hD⟩ := hw
  obtain ⟨q0, hq⟩ := hm _ _ he
  exact va_last S.1 S.2.1 hK.1 hP hD hS q0 2 hq rfl hin hdg (fun H1 locs1 hP1 hD1 hS1 => kk H1 locs1 ⟨h0, hS1, hK, _, hm.set hq, hP1, hD1⟩)
theorem m_aast (S : CallFix p m c cc nL s args (c0 :: GG) own) (hw : mW γ M s H locs) {n v ci : Nat} {r : vw_C} {vs : List Value} {f : Nat → Option Nat} (he : M a = some (.inl (gA γ 3, n, .inr (.inr (.inr (.inr f)))))) (hv : M v = some (.inr (ci, vs))) (hc : vwCl[ci]? = some r) (hca : va_Nw (.castable r.1 "java/lang/Object") s) {i : Int32} (hin : vp_in i n) (hdg : decode cc pc = .ok (.aastore, 1))
    (kk : ∀ (H1 : Heap) (locs1 : List Loc), mW γ (mU M a (.inl (gA γ 3, n, .inr (.inr (.inr (.inr (va_up f i.toNatClampNeg (some v)))))))) s H1 locs1 → W p l e R s m args below meth c H1 locs1 cells slots Q (F0 m (pc + 1) ls rest)) : W p l e R s m args below meth c H locs cells slots Q (F0 m pc ls (.ref v :: .int i :: .ref a :: rest)) := by
  obtain ⟨h0, hS, hK, ws, hm, hP, hD⟩ := hw
  obtain ⟨q0, hq⟩ := hm _ _ he
  obtain ⟨q1, hq1⟩ := hm _ _ hv
  exact va_astqO S.1 S.2.1 hK.1 hP hD hS q0 3 q1 ci hq rfl hca hq1 hc hin hdg (fun H1 locs1 hP1 hD1 hS1 => kk H1 locs1 ⟨h0, hS1, hK, _, hm.set hq, hP1, hD1⟩)
theorem m_aastN (S : CallFix p m c cc nL s args (c0 :: GG) own) (hw : mW γ M s H locs) {n : Nat} {f : Nat → Option Nat} (he : M a = some (.inl (gA γ 3, n, .inr (.inr (.inr (.inr f)))))) {i : Int32} (hin : vp_in i n) (hdg : decode cc pc = .ok (.aastore, 1))
    (kk : ∀ (H1 : Heap) (locs1 : List Loc), mW γ (mU M a (.inl (gA γ 3, n, .inr (.inr (.inr (.inr (va_up f i.toNatClampNeg none))))))) s H1 locs1 → W p l e R s m args below meth c H1 locs1 cells slots Q (F0 m (pc + 1) ls rest)) : W p l e R s m args below meth c H locs cells slots Q (F0 m pc ls (.null :: .int i :: .ref a :: rest)) := by
  obtain ⟨h0, hS, hK, ws, hm, hP, hD⟩ := hw
  obtain ⟨q0, hq⟩ := hm _ _ he
  exact va_astqN S.1 S.2.1 hK.1 hP hD hS q0 3 hq rfl hin hdg (fun H1 locs1 hP1 hD1 hS1 => kk H1 locs1 ⟨h0, hS1, hK, _, hm.set hq, hP1, hD1⟩)
theorem m_alen (S : CallFix p m c cc nL s args (c0 :: GG) own) (hw : mW γ M s H locs) (t0 : Nat) {cA : ClassId} {x : vp_A} (he : M a = some (.inl (cA, x))) {ty : FieldType} (ht : (mT γ)[t0]? = some (cA, ty)) {v : Int32} (hv : Int32.ofNat x.1 = v) (hdg : decode cc pc = .ok (.arraylength, 1))
    (kk : W p l e R s m args below meth c H locs cells slots Q (F0 m (pc + 1) ls (.int v :: rest))) : W p l e R s m args below meth c H locs cells slots Q (F0 m pc ls (.ref a :: rest)) := by
  obtain ⟨-, -, hK, ws, hm, hP, -⟩ := hw
  obtain ⟨q0, hq⟩ := hm _ _ he
  exact va_alen S.1 S.2.1 hK.1 hP q0 t0 hq ht hv hdg kk
/-- two classes of arrays of one kind are one -/
theorem mK.arr {γ : mG} {U : State} {cA cB : ClassId} {ty : FieldType} (h1 : va_RA U cA ty) (h2 : va_RA U cB ty) : cA = cB := by
  cases ty with
  | object C =>
    obtain ⟨_, _, -, -, -, g1⟩ := h1
    obtain ⟨_, _, -, -, -, g2⟩ := h2
    exact Option.some.inj (g1.symm.trans g2)
  | _ => exact Option.some.inj (h1.symm.trans h2)
theorem m_newa (S : CallFix p m c cc nL s args (c0 :: GG) own) (hw : mW γ M s H locs) {atype : ArrayType} (harr : Cond.arrayClass (newarray.typeOf atype) ∈ GG) (t0 : Nat) {cT : ClassId} (ht : (mT γ)[t0]? = some (cT, newarray.typeOf atype)) {n : Int32} {N' : Nat} {a0 : vp_A} (ha : ∀ cA : ClassId, vp_cell cA a0 = arrV cA N' (fun _ => defaultValue (newarray.typeOf atype))) (hn : ¬ n < 0) (hN : n.toNatClampNeg = N') (hbytes : N' * componentBytes (newarray.typeOf atype) ≤ 536870912) (hcells : cells + 1 ≤ R.cells) (hslots : slots + N' ≤ R.slots) (hdg : decode cc pc = .ok (.newarray atype, 2))
    (kk : ∀ (q : Nat) (H1 : Heap), M q = none → gz γ ≤ q → mW γ (mU M q (.inl (cT, a0))) s H1 locs → W p l e R s m args below meth c H1 locs (cells + 1) (slots + N') Q (F0 m (pc + 2) ls (.ref q :: rest))) : W p l e R s m args below meth c H locs cells slots Q (F0 m pc ls (.int n :: rest)) := by
  obtain ⟨h0, hS, hK, ws, hm, hP, hD⟩ := hw
  refine va_newa S.1 S.2.1 (S.2.2.2.2 _ (gc harr)) rfl hK.1 hP hD hS (fun q h => Nat.le_trans h0 h) ha hn hN hbytes hcells hslots hdg (fun q cA H1 hK1 hP1 hD1 hS1 => ?_)
  have hb : gz γ ≤ q := hD1.2 ws.length (q, _) (by rw [List.getElem?_append_right (Nat.le_refl _), Nat.sub_self]; rfl)
  have hcA : cA = cT := mK.arr (γ := γ) (hK1.2 (mT γ).length (cA, _) (by rw [List.getElem?_append_right (Nat.le_refl _), Nat.sub_self]; rfl)).2 (hK.1.2 t0 _ ht).2
  subst hcA
  exact kk q H1 (hm.fresh hD1) hb ⟨h0, hS1, hK, _, hm.push, hP1, hD1⟩
theorem m_newq (S : CallFix p m c cc nL s args (c0 :: GG) own) (hw : mW γ M s H locs) {index : Nat} (hcl : Cond.classLink own index "java/lang/Object" ∈ GG) {n : Int32} {N' : Nat} (hn : ¬ n < 0) (hN : n.toNatClampNeg = N') (hbytes : N' * 4 ≤ 536870912) (hcells : cells + 1 ≤ R.cells) (hslots : slots + N' ≤ R.slots) (hdg : decode cc pc = .ok (.anewarray index, 3))
    (kk : ∀ (q : Nat) (H1 : Heap), M q = none → gz γ ≤ q → mW γ (mU M q (.inl (gA γ 3, N', .inr (.inr (.inr (.inr (fun _ => none))))))) s H1 locs → W p l e R s m args below meth c H1 locs (cells + 1) (slots + N') Q (F0 m (pc + 3) ls (.ref q :: rest))) : W p l e R s m args below meth c H locs cells slots Q (F0 m pc ls (.int n :: rest)) := by
  obtain ⟨h0, hS, hK, ws, hm, hP, hD⟩ := hw
  refine va_newq S.1 S.2.1 S.2.2.2.1 (S.2.2.2.2 _ (gc hcl)) hK.2.2.2.1 hK.1 hP hD hS (fun q h => Nat.le_trans h0 h) hn hN hbytes hcells hslots hdg (fun q cA H1 hK1 hP1 hD1 hS1 => ?_)
  have hb : gz γ ≤ q := hD1.2 ws.length (q, _) (by rw [List.getElem?_append_right (Nat.le_refl _), Nat.sub_self]; rfl)
  have hcA : cA = gA γ 3 := mK.arr (γ := γ) (hK1.2 (mT γ).length (cA, _) (by rw [List.getElem?_append_right (Nat.le_refl _), Nat.sub_self]; rfl)).2 (hK.1.2 3 _ rfl).2
  subst hcA
  exact kk q H1 (hm.fresh hD1) hb ⟨h0, hS1, hK, _, hm.push, hP1, hD1⟩
/-- the receiver of a call, as the rows of calls want it -/
theorem mW.recv (hw : mW γ M s H locs) {ci : Nat} {r : vw_C} {fs : List Value} (he : M a = some (.inr (ci, fs))) (hc : vwCl[ci]? = some r) : ∃ cell : Cell, H[a]? = some cell ∧ cell.vm.isStatics = false ∧ s.vm.findClass r.1 = some cell.cls := by
  obtain ⟨-, -, hK, ws, hm, hP, -⟩ := hw
  obtain ⟨q0, hq⟩ := hm _ _ he
  exact va_recv hK.1 hP hc hq
theorem mW.pre (hw : mW γ M s H locs) {As : List Value} : ∀ U : State, U.heap = H → s.WarmedH U.vm → mPc γ M As As.toArray U := fun U hU hW => ⟨rfl, by rw [hU]; exact hw.toH, hw.K hW.alike hU⟩
theorem mW.preV (hw : mW γ M s H locs) {ci : Nat} {r : vw_C} {fs As : List Value} (he : M a = some (.inr (ci, fs))) (hc : vwCl[ci]? = some r) : PreV s H r.1 a (mPc γ M (.ref a :: As)) As := ⟨mPc.blind, hw.recv he hc, hw.pre⟩
theorem mW.preS (hw : mW γ M s H locs) {As : List Value} : PreS s H (mPc γ M As) As := ⟨mPc.blind, hw.pre⟩
/-- behind a call -/
theorem mW.after (hw : mW γ M s H locs) {M1 : mMap} {t : State} {H1 : Heap} {locs1 : List Loc} (ht : t.heap = H1) (hB : mB γ M1 t) (hS : va_S (mA (gz γ)) s.heap H1 locs1) : mW γ M1 s H1 locs1 := by
  subst ht
  exact ⟨hw.1, hS, hw.2.2.1, hB.1.2⟩
variable {mc ms : Nat} {aa : Array Value}
theorem m_ci {post : Int32 → mMap → Prop} (hw : mW γ M s H locs) (hr : va_Run p l e R s m args below meth c H locs cells slots mc ms (F0 m pc ls st0) rest (mQi γ post aa) (mA (gz γ)))
    (kk : ∀ (r : Int32) (M1 : mMap) (H1 : Heap) (locs1 : List Loc), post r M1 → mW γ M1 s H1 locs1 → W p l e R s m args below meth c H1 locs1 (cells + mc) (slots + ms) Q (F0 m (pc + 3) ls (.int r :: rest))) : W p l e R s m args below meth c H locs cells slots Q (F0 m pc ls st0) :=
  va_calli hr hw.2.1 (fun _ _ h => h) (fun _ h => h) (fun r u t H1 locs1 ht _ hp hB _ _ hS => kk r u H1 locs1 hp (hw.after ht hB hS))
theorem m_cl {post : Int64 → mMap → Prop} (hw : mW γ M s H locs) (hr : va_Run p l e R s m args below meth c H locs cells slots mc ms (F0 m pc ls st0) rest (mQl γ post aa) (mA (gz γ)))
    (kk : ∀ (r : Int64) (M1 : mMap) (H1 : Heap) (locs1 : List Loc), post r M1 → mW γ M1 s H1 locs1 → W p l e R s m args below meth c H1 locs1 (cells + mc) (slots + ms) Q (F0 m (pc + 3) ls (.long r :: rest))) : W p l e R s m args below meth c H locs cells slots Q (F0 m pc ls st0) :=
  va_calll hr hw.2.1 (fun _ _ h => h) (fun _ h => h) (fun r u t H1 locs1 ht _ hp hB _ _ hS => kk r u H1 locs1 hp (hw.after ht hB hS))
theorem m_cv {post : mMap → Prop} (hw : mW γ M s H locs) (hr : va_Run p l e R s m args below meth c H locs cells slots mc ms (F0 m pc ls st0) rest (mQv γ post aa) (mA (gz γ)))
    (kk : ∀ (M1 : mMap) (H1 : Heap) (locs1 : List Loc), post M1 → mW γ M1 s H1 locs1 → W p l e R s m args below meth c H1 locs1 (cells + mc) (slots + ms) Q (F0 m (pc + 3) ls rest)) : W p l e R s m args below meth c H locs cells slots Q (F0 m pc ls st0) :=
  va_callv hr hw.2.1 (fun _ _ h => h) (fun _ h => h) (fun u t H1 locs1 ht _ hp hB _ _ hS => kk u H1 locs1 hp (hw.after ht hB hS))
theorem m_cq {post : Option Nat → mMap → Prop} (hw : mW γ M s H locs) (hr : va_Run p l e R s m args below meth c H locs cells slots mc ms (F0 m pc ls st0) rest (mQq γ post aa) (mA (gz γ)))
    (kk : ∀ (r : Option Nat) (M1 : mMap) (H1 : Heap) (locs1 : List Loc), post r M1 → mW γ M1 s H1 locs1 → W p l e R s m args below meth c H1 locs1 (cells + mc) (slots + ms) Q (F0 m (pc + 3) ls (va_rf r :: rest))) : W p l e R s m args below meth c H locs cells slots Q (F0 m pc ls st0) :=
  va_callq hr hw.2.1 (fun _ _ h => h) (fun _ h => h) (fun r u t H1 locs1 ht _ hp hB _ _ hS => kk r u H1 locs1 hp (hw.after ht hB hS))
/-- ends -/
theorem m_vret {post : mMap → Prop} (S : CallFix p m c cc nL s args (c0 :: GG) own) (hlocks : meth.locks = false) (hr : meth.sig.returnType = none) (hw : mW γ M s H locs) (hp : post M) (hc : cells ≤ mc) (hs : slots ≤ ms) (hdg : decode cc pc = .ok (.return_, 1)) :
    W p l e R s m args below meth c H locs cells slots (MQ below (mQv γ post) args s mc ms (mA (gz γ))) (F0 m pc ls []) := by
  refine W.widen hc hs ?_
  exact W.vret S.1 S.2.1 hr (fun t ht hW => ⟨⟨M, rfl, hp, by rw [ht]; exact hw.toH, hw.K hW.alike ht⟩, hw.2.1.F ht⟩) hw.2.1.2.2 hdg
theorem m_iret {post : Int32 → mMap → Prop} {v : Int32} {ty : FieldType} (S : CallFix p m c cc nL s args (c0 :: GG) own) (hlocks : meth.locks = false) (hr : meth.sig.returnType = some ty) (hn : narrow ty (.int v) = .int v) (hw : mW γ M s H locs) (hp : post v M) (hc : cells ≤ mc) (hs : slots ≤ ms) (hdg : decode cc pc = .ok (.ireturn, 1)) :
    W p l e R s m args below meth c H locs cells slots (MQ below (mQi γ post) args s mc ms (mA (gz γ))) (F0 m pc ls [.int v]) := by
  refine W.widen hc hs ?_
  exact W.zret S.1 S.2.1 hr hn (fun t ht hW => ⟨⟨v, M, rfl, hp, by rw [ht]; exact hw.toH, hw.K hW.alike ht⟩, hw.2.1.F ht⟩) hw.2.1.2.2 hdg
theorem m_lret {post : Int64 → mMap → Prop} {v : Int64} (S : CallFix p m c cc nL s args (c0 :: GG) own) (hlocks : meth.locks = false) (hr : meth.sig.returnType = some .long) (hw : mW γ M s H locs) (hp : post v M) (hc : cells ≤ mc) (hs : slots ≤ ms) (hdg : decode cc pc = .ok (.lreturn, 1)) :
    W p l e R s m args below meth c H locs cells slots (MQ below (mQl γ post) args s mc ms (mA (gz γ))) (F0 m pc ls [.long v]) := by
  refine W.widen hc hs ?_
  exact W.lret S.1 S.2.1 hr (fun t ht hW => ⟨⟨v, M, rfl, hp, by rw [ht]; exact hw.toH, hw.K hW.alike ht⟩, hw.2.1.F ht⟩) hw.2.1.2.2 hdg
theorem m_aret {post : Option Nat → mMap → Prop} {r : Option Nat} {rt : FieldType} (S : CallFix p m c cc nL s args (c0 :: GG) own) (hlocks : meth.locks = false) (hr : meth.sig.returnType = some rt) (hrt : (∃ n, rt = .object n) ∨ ∃ t, rt = .array t) (hw : mW γ M s H locs) (hp : post r M) (hc : cells ≤ mc) (hs : slots ≤ ms) (hdg : decode cc pc = .ok (.areturn, 1)) :
    W p l e R s m args below meth c H locs cells slots (MQ below (mQq γ post) args s mc ms (mA (gz γ))) (F0 m pc ls [va_rf r]) := by
  refine W.widen hc hs ?_
  exact W.aret S.1 S.2.1 hr hrt (va_rf_or r) (fun t ht hW => ⟨⟨r, M, rfl, hp, by rw [ht]; exact hw.toH, hw.K hW.alike ht⟩, hw.2.1.F ht⟩) hw.2.1.2.2 hdg
end MROWS
/-- into a method -/
theorem m_enter {l : Launch} {γ : mG} {M : mMap} {As : List Value} {y : MethodName} {rm : Room} {Qc : Array Value → State → Outcome → State → Prop} {mc ms : Nat} {free : Addr → Prop} {cc : ByteArray} {maxL : Nat} {ret : Option FieldType}
    (hy : plainName y.cls = true) (hn : (lg_sl As).length ≤ maxL)
    (body : ∀ (p : Program) (e : Env) (s : State) (m : MethodId) (below : List Frame) (meth : Method) (c : Code) (ls : Array Slot), CallFix p m c cc maxL s As.toArray (Cond.code y cc maxL ret :: GG) y.cls → meth.sig.returnType = ret → meth.locks = false → meth.name = y.name → lv_has ls maxL (lv_args 0 As) → mW γ M s s.heap [] →
      W p l e rm s m As.toArray below meth c s.heap [] 0 0 (MQ below Qc As.toArray s mc ms free) (F0 m 0 ls [])) : Met l y (Cond.code y cc maxL ret :: GG) rm (mPc γ M As) Qc mc ms free := by
  refine Met.ofW (cc := cc) (maxL := maxL) (ret := ret) hy rfl ?_
  intro p e s m args below meth c s₁ B hml hv
  obtain ⟨rfl, hH, hK⟩ := hv
  have hl := lv_entry As (n := maxL) hn
  rw [lg_entry_eq]
  exact body p e s m below meth c _ ⟨B.exec, B.bytes, hml, findClass_of_methodNamed B.named, atoms_spec (ws := Cond.code y cc maxL ret :: GG) B.pre⟩ B.returns B.notSynchronized (name_of_methodNamed B.named B.method).1 hl (mW.of hH hK)
theorem m_enterF {l : Launch} {γ : mG} {M : mMap} {As : List Value} {y : MethodName} {rm : Room} {Qc : Array Value → State → Outcome → State → Prop} {mc ms : Nat} {free : Addr → Prop} {cc : ByteArray} {maxL : Nat} {ret : Option FieldType}
    (hy : plainFor y = true) (hn : (lg_sl As).length ≤ maxL)
    (body : ∀ (p : Program) (e : Env) (s : State) (m : MethodId) (below : List Frame) (meth : Method) (c : Code) (ls : Array Slot), CallFix p m c cc maxL s As.toArray (Cond.code y cc maxL ret :: GG) y.cls → meth.sig.returnType = ret → meth.locks = false → meth.name = y.name → lv_has ls maxL (lv_args 0 As) → mW γ M s s.heap [] →
      W p l e rm s m As.toArray below meth c s.heap [] 0 0 (MQ below Qc As.toArray s mc ms free) (F0 m 0 ls [])) : Met l y (Cond.code y cc maxL ret :: GG) rm (mPc γ M As) Qc mc ms free := by
  refine va_MetF (cc := cc) (maxL := maxL) (ret := ret) hy rfl ?_
  intro p e s m args below meth c s₁ B hml hv
  obtain ⟨rfl, hH, hK⟩ := hv
  have hl := lv_entry As (n := maxL) hn
  rw [lg_entry_eq]
  exact body p e s m below meth c _ ⟨B.exec, B.bytes, hml, findClass_of_methodNamed B.named, atoms_spec (ws := Cond.code y cc maxL ret :: GG) B.pre⟩ B.returns B.notSynchronized (name_of_methodNamed B.named B.method).1 hl (mW.of hH hK)
