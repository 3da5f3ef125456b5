/-! Contracts of calls that throw, and their rows -/
def EXg (γ : mG) (U : State) : Prop := ∃ s0 : State, EX s0 ∧ s0.heap.size = gz γ ∧ s0.WarmedH U.vm ∧ ∀ a : Nat, a < gz γ → U.heap[a]? = s0.heap[a]?
theorem EXg.moved {γ : mG} {u U : State} (hW : u.WarmedH U.vm) (hq : ∀ a : Nat, a < gz γ → U.heap[a]? = u.heap[a]?) (h : EXg γ u) : EXg γ U := by
  obtain ⟨s0, h1, h2, h3, h4⟩ := h
  exact ⟨s0, h1, h2, State.WarmedH.trans h3 hW, fun a ha => (hq a ha).trans (h4 a ha)⟩
theorem EXg.ex {γ : mG} {U : State} (h : EXg γ U) : EX U := by
  obtain ⟨s0, h1, h2, h3, h4⟩ := h
  refine EX.moved h3 (fun a ce hc _ => ?_) h1
  rw [h4 a (by rw [← h2]; exact (Array.getElem?_eq_some_iff.mp hc).1)]
  exact hc
def mPcX (γ : mG) (M : mMap) (As : List Value) : Array Value → State → Prop := va_Pc As (fun U => (mH γ M U.heap ∧ mK γ U U.heap) ∧ EXg γ U)
theorem mPcX.blind {γ : mG} {M : mMap} {As : List Value} : FrameBlind (mPcX γ M As) := by
  intro a U g mk h
  obtain ⟨h1, ⟨h2, h3⟩, h4⟩ := h
  exact ⟨h1, ⟨h2, mK.moved (u := U) (U := U.calling g mk a) (Vm.Alike.refl U.vm) (fun _ _ _ => rfl) h3⟩, EXg.moved (u := U) (U := U.calling g mk a) (State.WarmedH.refl U) (fun _ _ => rfl) h4⟩
/-- no stack traces in this launch -/
def xTr (l : Launch) : Prop := ∀ e : Env, l.admits e → e.platform.stackTraces = false
def MetX (l : Launch) (y : MethodName) (ws : List Cond) (rm : Room) (Pc : Array Value → State → Prop) (X : String) (mc ms : Nat) : Prop :=
  MetFree l y (headSpec ws rm) Pc (fun _ _ _ _ _ => True) (fun _ st o t => ∃ q, o = .threw q ∧ (∃ ce, t.heap[q]? = some ce ∧ st.vm.findClass X = some ce.cls ∧ ce.vm.isStatics = false) ∧ st.WarmedH t.vm ∧ st.sameButNew ({ t with vm := st.vm } : State) [] mc ms)
def MQX (below : List Frame) (X : String) (s : State) (mc ms : Nat) : State → Prop := fun t =>
  ∃ q, t.status = .running ∧ Ended t below (.threw q) ∧ (∃ ce, t.heap[q]? = some ce ∧ s.vm.findClass X = some ce.cls ∧ ce.vm.isStatics = false) ∧ s.WarmedH t.vm ∧ s.sameButNew ({ t with vm := s.vm } : State) [] mc ms
theorem m_enterX {l : Launch} {γ : mG} {M : mMap} {As : List Value} {y : MethodName} {rm : Room} {X : String} {mc ms : Nat} {cc : ByteArray} {maxL : Nat} {ret : Option FieldType}
    (hy : plainName y.cls = true) (hn : (lg_sl As).length ≤ maxL)
    (body : ∀ (p : Program) (e : Env) (s : State) (m : MethodId) (below : List Frame) (meth : Method) (c : Code) (ls : Array Slot), CallFix p m c cc maxL s As.toArray (Cond.code y cc maxL ret :: GG) y.cls → c.exceptionTable.isEmpty = true → meth.sig.returnType = ret → meth.locks = false → lv_has ls maxL (lv_args 0 As) → mW γ M s s.heap [] → EXg γ s →
      W p l e rm s m As.toArray below meth c s.heap [] 0 0 (MQX below X s mc ms) (F0 m 0 ls [])) : MetX l y (Cond.code y cc maxL ret :: GG) rm (mPcX γ M As) X mc ms := by
  refine MetFree.of_bodyS (code := cc) (maxLocals := maxL) (ret := ret) hy (fun args s m h hn => ?_) (fun p e s m args below meth c s₁ B hml hP _ => ?_)
  · obtain ⟨meth, c, h1, h2, h3, h4, h5, h6, -⟩ := Cond.code_spec hn (atoms_spec h _ List.mem_cons_self)
    exact ⟨meth, c, h1, h2, h3, h4, h5, h6⟩
  · obtain ⟨rfl, ⟨hH, hK⟩, hx⟩ := hP
    have ha := atoms_spec (ws := Cond.code y cc maxL ret :: GG) B.pre
    have hl := lv_entry As (n := maxL) hn
    have hb := body p e s m below meth c _ ⟨B.exec, B.bytes, hml, findClass_of_methodNamed B.named, ha⟩ (B.noHandlers (ha _ List.mem_cons_self)) B.returns B.notSynchronized hl (mW.of hH hK) hx
    have h0 : s₁.heap = s.heap := by rw [B.state]; rfl
    obtain ⟨t, a1, q, b1, b2, b3, b4, b5⟩ := hb s₁ h0 (Stand.of_body B)
    exact ⟨t, .threw q, by rw [lg_entry_eq]; exact a1, b1, b2, q, rfl, b3, b4, b5⟩
section XROWS
variable {γ : mG} {M : mMap} {p : Program} {l : Launch} {e : Env} {R : Room} {s : State} {m : MethodId} {args : Array Value} {below : List Frame} {meth : Method} {c : Code} {H : Heap} {locs : List Loc} {cells slots mc ms pc nL : Nat} {Q : State → Prop} {ls : Array Slot} {st0 rest As : List Value} {cc bytes : ByteArray} {c0 : Cond} {own : String}
theorem mW.exg {U : State} (hw : mW γ M s H locs) (hx : EXg γ s) (hU : U.heap = H) (hW : s.WarmedH U.vm) : EXg γ U :=
  hx.moved hW (fun a ha => by rw [hU]; exact hw.2.1.2.1 a (Nat.lt_of_lt_of_le ha hw.1) (fun h => absurd h (Nat.not_le.mpr ha)))
theorem mW.preXV (hw : mW γ M s H locs) (hx : EXg γ s) {a ci : Nat} {r : vw_C} {fs As : List Value} (he : M a = some (.inr (ci, fs))) (hc : vwCl[ci]? = some r) : PreV s H r.1 a (mPcX γ M (.ref a :: As)) As :=
  ⟨mPcX.blind, hw.recv he hc, fun U hU hW => ⟨rfl, (hw.pre (As := []) U hU hW).2, hw.exg hx hU hW⟩⟩
theorem mW.more {H1 : Heap} (hw : mW γ M s H locs) (hz : H.size ≤ H1.size) (hq : ∀ a : Nat, a < H.size → H1[a]? = H[a]?) : mW γ M s H1 locs := by
  obtain ⟨h1, h2, h3, ws, hm, hP, hD⟩ := hw
  exact ⟨h1, ⟨Nat.le_trans h2.1 hz, fun q a b => (hq q (Nat.lt_of_lt_of_le a h2.1)).trans (h2.2.1 q a b), h2.2.2⟩, h3, ws, hm, fun k q hk => (hP k q hk).kept (hq q.1 (hP k q hk).lt), hD⟩
/-- new X(); throw it -/
theorem m_thr {X : String} {ix ic : Nat} (S : CallFix p m c cc nL s args (c0 :: GG) "CallBook") (hno : c.exceptionTable.isEmpty = true) (hlocks : meth.locks = false) (hl : xTr l) (hw : mW γ M s H []) (hx : EXg γ s) (hls : ls.size = nL)
    (hX : X = xIA ∧ ic = 65 ∨ X = xIS ∧ ic = 82) (hcl : Cond.classLink "CallBook" ix X ∈ GG) (hin : Cond.instantiable X 6 ∈ GG) (hini : Cond.initialized X ∈ GG) (hc : cells + 1 ≤ mc) (hs : slots + 6 ≤ ms) (hR : mc ≤ R.cells ∧ ms ≤ R.slots ∧ 5 < R.frames ∧ (st0.map fun v => v.category).sum + 81 ≤ R.locals)
    (d0 : decode cc pc = .ok (.new ix, 3)) (d1 : decode cc (pc + 3) = .ok (.dup, 1)) (d2 : decode cc (pc + 4) = .ok (.invokespecial ic, 3)) (d3 : decode cc (pc + 7) = .ok (.athrow, 1)) :
    W p l e R s m args below meth c H [] cells slots (MQX below X s mc ms) (F0 m pc ls st0) := by
  obtain ⟨cX, kX, hfX, hkX⟩ : ∃ cX kX, s.vm.findClass X = some cX ∧ s.vm.classes[cX]? = some kX := by
    obtain ⟨cX, kX, h1, h2, -⟩ := Cond.instantiable_spec (S.2.2.2.2 _ (gc hin))
    exact ⟨cX, kX, h1, h2⟩
  have hx0 := hx.ex
  refine W.newcK S.1 S.2.1 S.2.2.2.1 (S.2.2.2.2 _ (gc hcl)) (S.2.2.2.2 _ (gc hin)) (S.2.2.2.2 _ (gc hini)) rfl d0 (Nat.le_trans hc hR.1) (Nat.le_trans hs hR.2.1) hfX rfl (fun H' kC hk hnew hsz hold => ?_)
  refine lv_dup S.1 S.2.1 d1 rfl ?_
  intro T hT X0
  have hbytes := S.2.1
  subst hbytes
  have hat : ∀ a ∈ Bundle.ownAtoms0 "CallBook" ic X xNs, a.before args s = true := by
    intro a ha
    refine hx0.use ?_ args
    rcases hX with ⟨e1, e2⟩ | ⟨e1, e2⟩
    · subst e1; subst e2; exact List.mem_cons_of_mem _ (List.mem_append_left _ ha)
    · subst e1; subst e2; exact List.mem_cons_of_mem _ (List.mem_append_right _ ha)
  have hfit : Bundle.fit X = true := by rcases hX with ⟨e1, -⟩ | ⟨e1, -⟩ <;> subst e1 <;> decide +kernel
  obtain ⟨U, st, b1, b2, b3, b4, ce, b5, b6⟩ := X0.ctorThrow0 (own := "CallBook") (cls := X) (names := xNs) (ic := ic) S.1 (hl e X0.admits) S.2.2.2.1 hfit (by decide +kernel) hat (fun x hx => by cases hx)
    (a := H.size) hfX hk (by rw [hT]; exact hnew) hw.2.1.1 (g := F0 m (pc + 3 + 1) ls (.ref H.size :: .ref H.size :: st0)) rfl (hls.trans S.2.2.1.symm) rfl rfl rfl d2 d3 (fun x hx => by
      have : c.exceptionTable.toList = [] := by
        have := hno
        cases h : c.exceptionTable with
        | mk l => rw [h] at this; cases l with
          | nil => rfl
          | cons a b => cases this
      rw [this] at hx; cases hx) (by simpa using hR.2.2.1) (by
      have := hR.2.2.2
      show 2 * 0 + ((Value.ref H.size :: st0).map fun v => v.category).sum + _ ≤ _
      rw [List.map_cons, List.sum_cons]
      show 2 * 0 + (1 + (st0.map fun v => v.category).sum) + (13 * (2 + 1) + 41) ≤ R.locals
      omega) hlocks
  exact ⟨U, st, H.size, b1, b2, ⟨ce, b5, b6.cls, by rw [b6.vm]; rfl⟩, b3, b4.mono hc hs⟩
end XROWS
