/-! Methods with a table of handlers: entry, catching, calling them -/
abbrev hT4 (h : ExceptionTableEntry) : Nat × Nat × Nat × Nat := (h.startPc, h.endPc, h.handlerPc, h.catchType)
theorem m_enterW {l : Launch} {γ : mG} {M : mMap} {As : List Value} {y : MethodName} {rm : Room} {Qc : Array Value → State → Outcome → State → Prop} {mc ms : Nat} {free : Addr → Prop} {cc : ByteArray} {maxL : Nat} {ret : Option FieldType} {hh : List (Nat × Nat × Nat × Nat)}
    (hy : plainName y.cls = true) (hn : (lg_sl As).length ≤ maxL)
    (body : ∀ (p : Program) (e : Env) (s : State) (m : MethodId) (below : List Frame) (meth : Method) (c : Code) (ls : Array Slot), CallFix p m c cc maxL s As.toArray (Cond.codeWith y cc maxL ret hh :: GG) y.cls → c.exceptionTable.toList.map hT4 = hh → meth.sig.returnType = ret → meth.locks = false → lv_has ls maxL (lv_args 0 As) → mW γ M s s.heap [] → EXg γ s →
      W p l e rm s m As.toArray below meth c s.heap [] 0 0 (MQ below Qc As.toArray s mc ms free) (F0 m 0 ls [])) : Met l y (Cond.codeWith y cc maxL ret hh :: GG) rm (mPcX γ M As) Qc mc ms free := by
  refine va_MetW (cc := cc) (maxL := maxL) (ret := ret) (hh := hh) hy rfl (fun p e s m args below meth c s₁ B hml hv => ?_)
  obtain ⟨rfl, ⟨hH, hK⟩, hx⟩ := hv
  have ha := atoms_spec (ws := Cond.codeWith y cc maxL ret hh :: GG) B.pre
  have hl := lv_entry As (n := maxL) hn
  have ht : c.exceptionTable.toList.map hT4 = hh := by
    obtain ⟨m9, meth9, c9, hn9, h1, h2, h3, h4, h5, -⟩ := Cond.codeWith_spec (ha _ List.mem_cons_self)
    cases B.named.symm.trans hn9
    cases B.method.symm.trans h1
    cases (Stand.of_body B).code.symm.trans h2
    exact h5
  rw [lg_entry_eq]
  exact body p e s m below meth c _ ⟨B.exec, B.bytes, hml, findClass_of_methodNamed B.named, ha⟩ ht B.returns B.notSynchronized hl (mW.of hH hK) hx
section CATCH
variable {γ : mG} {M : mMap} {p : Program} {l : Launch} {e : Env} {R : Room} {s : State} {m : MethodId} {args : Array Value} {below : List Frame} {meth : Method} {c : Code} {H : Heap} {locs : List Loc} {cells slots mc ms pc nL n index maxL : Nat} {Q : State → Prop} {ls : Array Slot} {rest As : List Value} {cc bytes : ByteArray} {own C : String} {y : MethodName} {ret : Option FieldType} {ws Ts : List Cond} {rm : Room} {Pc : Array Value → State → Prop} {b : Addr} {c0 : Cond}
theorem map_cons {f : ExceptionTableEntry → Nat × Nat × Nat × Nat} {L : List ExceptionTableEntry} {t : Nat × Nat × Nat × Nat} {r : List (Nat × Nat × Nat × Nat)} (h : L.map f = t :: r) : ∃ x L', L = x :: L' ∧ f x = t ∧ L'.map f = r := by
  cases L with
  | nil => cases h
  | cons x L' => rw [List.map_cons] at h; injection h with h1 h2; exact ⟨x, L', rfl, h1, h2⟩
theorem ex_cast {X : String} (hx : EX s) (hX : X = xIA ∨ X = xIS) : ∃ cT, s.vm.findClass X = some cT ∧ s.vm.assignable cT cT = true := by
  have h : (Cond.castable X X).before #[] s = true := hx.use (by rcases hX with e | e <;> subst e <;> simp [XL, Bundle.ownAtoms0]) #[]
  obtain ⟨a, b, h1, h2, h3⟩ := Cond.castable_spec h
  cases h1.symm.trans h2
  exact ⟨a, h1, h3⟩
/-- the first handler catches -/
theorem m_catch1 {X : String} {s0 e0 h0 ct : Nat} {hh : List (Nat × Nat × Nat × Nat)} (S : CallFix p m c cc nL s args (c0 :: GG) own) (htab : c.exceptionTable.toList.map hT4 = (s0, e0, h0, ct) :: hh) (hX : X = xIA ∨ X = xIS) (hx : EXg γ s) (hw : mW γ M s H locs)
    (hM : MetX l y ws rm Pc X mc ms) (cw : CallW R s args own C index y bytes maxL ret ws rm mc ms n) (hp : PreV s H C b Pc As)
    (hn : As.length = n) (hsize : ls.size = nL) (hW : 2 * (F0 m pc ls rest).monitorRoom + (rest.map fun v => v.category).sum ≤ 8) (hdg : decode cc pc = .ok (.invokevirtual index, 3)) (hf : cells + mc ≤ R.cells ∧ slots + ms ≤ R.slots) {st : List Value} (hst : st = As.reverse ++ .ref b :: rest)
    (hcl : Cond.classLink own ct X ∈ GG) (hct : ct ≠ 0) (hcov : s0 ≤ pc ∧ pc < e0)
    (kk : ∀ (H : Heap) (q : Addr), mW γ M s H locs → W p l e R s m args below meth c H locs (cells + mc) (slots + ms) Q (F0 m h0 ls [.ref q])) : W p l e R s m args below meth c H locs cells slots Q (F0 m pc ls st) := by
  intro T hT X0
  obtain ⟨q, T', X', hz, hold, ⟨ce, c1, c2, c3⟩, stp⟩ := m_runXV S hM cw hp hn hsize hW hdg hf hT X0 hst
  obtain ⟨x, L', hl', hx1, -⟩ := map_cons htab
  obtain ⟨cT, f1, f2⟩ := ex_cast hx.ex hX
  cases c2.symm.trans f1
  have k1 : x.startPc = s0 := congrArg (·.1) hx1
  have k2 : x.endPc = e0 := congrArg (·.2.1) hx1
  have k3 : x.handlerPc = h0 := congrArg (·.2.2.1) hx1
  have k4 : x.catchType = ct := congrArg (·.2.2.2) hx1
  obtain ⟨hend, hk0⟩ := X'.catches_of_link (x := x) S.2.2.2.1 (by rw [k4]; exact hct) (by rw [k4]; exact S.2.2.2.2 _ (gc hcl)) f1 f2
  obtain ⟨vm', XV, st2⟩ := X'.thenCaughtThrough q (g := F0 m pc ls rest) rfl stp c1 c3 hk0 [] x L' hl' (fun y hy => by cases hy) (by unfold covers; simp [k1, k2, hcov]) hend
  obtain ⟨t, a1, b1⟩ := kk T'.heap q (hw.more hz hold) (T'.setVm vm') rfl XV
  rw [k3] at st2
  exact ⟨t, st2.trans a1, b1⟩
/-- the first passes it, the second catches -/
theorem m_catch2 {s1 e1 h1 ct1 s0 e0 h0 ct : Nat} {hh : List (Nat × Nat × Nat × Nat)} (S : CallFix p m c cc nL s args (c0 :: GG) own) (htab : c.exceptionTable.toList.map hT4 = (s1, e1, h1, ct1) :: (s0, e0, h0, ct) :: hh) (hx : EXg γ s) (hw : mW γ M s H locs)
    (hM : MetX l y ws rm Pc xIS mc ms) (cw : CallW R s args own C index y bytes maxL ret ws rm mc ms n) (hp : PreV s H C b Pc As)
    (hn : As.length = n) (hsize : ls.size = nL) (hW : 2 * (F0 m pc ls rest).monitorRoom + (rest.map fun v => v.category).sum ≤ 8) (hdg : decode cc pc = .ok (.invokevirtual index, 3)) (hf : cells + mc ≤ R.cells ∧ slots + ms ≤ R.slots) {st : List Value} (hst : st = As.reverse ++ .ref b :: rest)
    (hcl1 : Cond.classLink own ct1 xIA ∈ GG) (hct1 : ct1 ≠ 0) (hcl : Cond.classLink own ct xIS ∈ GG) (hct : ct ≠ 0) (hcov : s0 ≤ pc ∧ pc < e0)
    (kk : ∀ (H : Heap) (q : Addr), mW γ M s H locs → W p l e R s m args below meth c H locs (cells + mc) (slots + ms) Q (F0 m h0 ls [.ref q])) : W p l e R s m args below meth c H locs cells slots Q (F0 m pc ls st) := by
  intro T hT X0
  obtain ⟨q, T', X', hz, hold, ⟨ce, c1, c2, c3⟩, stp⟩ := m_runXV S hM cw hp hn hsize hW hdg hf hT X0 hst
  obtain ⟨x1, L1, hl1, hy1, hr1⟩ := map_cons htab
  obtain ⟨x, L', hl', hx1, -⟩ := map_cons hr1
  obtain ⟨cT, f1, f2⟩ := ex_cast (X := xIS) hx.ex (Or.inr rfl)
  cases c2.symm.trans f1
  have k1 : x.startPc = s0 := congrArg (·.1) hx1
  have k2 : x.endPc = e0 := congrArg (·.2.1) hx1
  have k3 : x.handlerPc = h0 := congrArg (·.2.2.1) hx1
  have k4 : x.catchType = ct := congrArg (·.2.2.2) hx1
  have j4 : x1.catchType = ct1 := congrArg (·.2.2.2) hy1
  have hpl : e.platform.magicAccessors = ({} : Platform).magicAccessors := by rw [X'.admits.platform]
  obtain ⟨hend, hk0⟩ := X'.catches_of_link (x := x) S.2.2.2.1 (by rw [k4]; exact hct) (by rw [k4]; exact S.2.2.2.2 _ (gc hcl)) f1 f2
  have hpass : RowPassed e.platform s m.cls pc ce.cls x1 := RowPassed.of_words (args := args) hpl S.2.2.2.1 (by rw [j4]; exact hct1) (by rw [j4]; exact S.2.2.2.2 _ (gc hcl1)) c2 (hx.ex.use List.mem_cons_self args)
  obtain ⟨vm', XV, st2⟩ := X'.thenCaughtThrough q (g := F0 m pc ls rest) rfl stp c1 c3 hk0 [x1] x L' (by rw [hl1, hl']; rfl) (fun y hy => by rcases List.mem_singleton.mp hy with e; subst e; exact hpass) (by unfold covers; simp [k1, k2, hcov]) hend
  obtain ⟨t, a1, b1⟩ := kk T'.heap q (hw.more hz hold) (T'.setVm vm') rfl XV
  rw [k3] at st2
  exact ⟨t, st2.trans a1, b1⟩
/-- a call of a static method that has a table of handlers -/
theorem m_runSW {hh : List (Nat × Nat × Nat × Nat)} {Qc : Array Value → State → Outcome → State → Prop} {free : Addr → Prop} (S : CallFix p m c cc nL s args (c0 :: GG) own) (hM : Met l y (Cond.codeWith y bytes maxL ret hh :: GG) rm Pc Qc mc ms free)
    (hl : Cond.methodLink own index y ∈ GG) (hi : Cond.static y ∈ GG) (hini : Cond.initialized y.cls ∈ GG) (hc : Cond.codeWith y bytes maxL ret hh ∈ GG) (hrc : rm.cells = mc) (hrs : rm.slots = ms)
    (hd : y.cls ≠ "java/lang/invoke/MethodHandle" ∧ y.cls ≠ "java/lang/invoke/VarHandle" ∧ (parseMethodDescriptor y.desc).map (fun d => d.parameters.length) = some n) (hR : rm.frames + 1 ≤ R.frames ∧ 8 + (maxL + 11) + rm.locals ≤ R.locals) (hp : PreS s H Pc As)
    (hn : As.length = n) (hsize : ls.size = nL) (hW : 2 * (F0 m pc ls rest).monitorRoom + (rest.map fun v => v.category).sum ≤ 8) (hdg : decode cc pc = .ok (.invokestatic index, 3)) (hf : cells + mc ≤ R.cells ∧ slots + ms ≤ R.slots) {st : List Value} (hst : st = As.reverse ++ rest) :
    va_Run p l e R s m args below meth c H locs cells slots mc ms (F0 m pc ls st) rest (Qc As.toArray) free := by
  have hG := gg (c0 := c0) hc
  have hK : Back l R p e below s args y 3 8 (PreOf R mc ms Pc) (PostOf Qc mc ms free) := va_backW (bytes := bytes) (maxL := maxL) (ret := ret) (hh := hh) hM hp.1 hrc hrs hR.1 hR.2 (pay_in S.2.2.2.2 hG) List.mem_cons_self (fun a' U hW => word_at hW (Or.inl (by first | rfl | simp [Cond.onTables, Cond.keeps, Cond.steady])) (S.2.2.2.2 _ (gc hini)))
  have hlink := S.2.2.2.2 _ (gc hl)
  have hstat := S.2.2.2.2 _ (gc hi)
  have hinit := S.2.2.2.2 _ (gc hini)
  obtain ⟨mk, methM, cM, hnamed, hmethM, -, -, -, -, -, -, hsigM⟩ := Cond.codeWith_spec (S.2.2.2.2 _ (gc hc))
  have hstatic : methM.isStatic = true := Cond.static_spec hnamed hmethM hstat
  obtain ⟨kP, hkP, -⟩ := className_of_methodNamed hnamed
  have hinitP : kP.init = .initialized := Cond.initialized_spec (findClass_of_methodNamed hnamed) hkP hinit
  obtain ⟨hx, hb, hml, ho, -⟩ := S
  subst hst; subst hb
  intro T hT X
  have hlen : As.length = methM.sig.parameters.length := by
    have h2 := hd.2.2
    rw [hsigM] at h2
    exact hn.trans (Option.some.inj h2).symm
  obtain ⟨vm₁, X₁, hstep₁⟩ := X.invokestatic hx ho hlink hnamed hmethM hstatic hkP hinitP ⟨hd.1, hd.2.1⟩ (g := F0 m pc ls (As.reverse ++ rest)) rfl (argsL := As) (rest := rest) hlen rfl hdg
  obtain ⟨v, ⟨U', l2, c2, s2⟩, X', ⟨g', mk', t, L, e1, e2, hq, h1, hL, h2, h3⟩, hsteps⟩ := hK m meth c ⟨T.setVm vm₁, locs, cells, slots⟩ (F0 m pc ls rest) (.invokestatic index) mk As.toArray X₁ rfl (hsize.trans hml.symm) hdg hW (X₁.named hnamed) ⟨hf.1, hf.2, hp.2 _ hT X₁.warmed⟩
  dsimp only [Pt.U, Pt.locs, Pt.cells, Pt.slots] at X' e1 e2 h1 h2 h3 hsteps
  subst h1; subst h2; subst h3
  exact ⟨v, (T.setVm vm₁).calling g' mk' As.toArray, t, U', L, hT, X', hL, e1, e2, hq, fun tg h => hstep₁ _ fun acts => by rw [doInvoke_state]; exact hsteps.trans h⟩
end CATCH
