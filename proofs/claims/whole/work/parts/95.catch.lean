/-! Methods with a table of handlers: entry, catching, calling them -/
abbrev hT4 (h : ExceptionTableEntry) : Nat × Nat × Nat × Nat := (h.startPc, h.endPc, h.handlerPc, h.catchType)
theorem m_enterW {l : Launch} {γ : mG} {M : mMap} {As : List Value} {y : MethodName} {rm : Room} {Qc : Array Value → State → Outcome → State → Prop} {mc ms : Nat} {free : Addr → Prop} {cc : ByteArray} {maxL : Nat} {ret : Option FieldType} {hh : List (Nat × Nat × Nat × Nat)}
    (hy : plainName y.cls = true) (hn : (lg_sl As).length ≤ maxL)
    (body : ∀ (p : Program) (e : Env) (s : State) (m : MethodId) (below : List Frame) (meth : Method) (c : Code) (ls : Array Slot), CallFix p m c cc maxL s As.toArray (Cond.codeWith y cc maxL ret hh :: GG) y.cls → c.exceptionTable.toList.map hT4 = hh → meth.sig.returnType = ret → meth.locks = false → lv_has ls maxL (lv_args 0 As) → mW γ M s s.heap [] → EXg γ s →
      W p l e rm s m As.toArray below meth c s.heap [] 0 0 (MQ below Qc As.toArray s mc ms free) (F0 m 0 ls [])) : Met l y (Cond.codeWith y cc maxL ret hh :: GG) rm (mPcX γ M As) Qc mc ms free := by
  refine va_MetW (cc := cc) (maxL := maxL) (ret := ret) (hh := hh) hy rfl (fun p e s m args below meth c s₁ B hml hv => ?_)
  obtain ⟨rfl, ⟨hH, hK⟩, hx⟩ := hv
  have ha := atoms_spec (ws := Cond.codeWith y cc maxL ret hh :: GG) B.pre
  have hl := lv_entry As (n := maxL) hn
  have ht : c.exceptionTable.toList.map hT4 = hh := by
    obtain ⟨m9, meth9, c9, hn9, h1, h2, h3, h4, h5, -⟩ := Cond.codeWith_spec (ha _ List.mem_cons_self)
    cases B.named.symm.trans hn9
    cases B.method.symm.trans h1
    cases (Stand.of_body B).code.symm.trans h2
    exact h5
  rw [lg_entry_eq]
  exact body p e s m below meth c _ ⟨B.exec, B.bytes, hml, findClass_of_methodNamed B.named, ha⟩ ht B.returns B.notSynchronized hl (mW.of hH hK) hx
/-! The search through a table of handlers whose classes may be cold: each row that is asked is resolved on the way -/
def xGo (e : Env) (f : JFrame) (a : Addr) (S : State) (L : List ExceptionTableEntry) (h : Nat) (v : Vm) : Prop :=
  ∀ (Q : Handler → Pre) (E : CtlPost) (d : Bool) (acts : List Action), wp (findHandler.go f a L) Q E e d acts S ↔ Q (.found h) d acts (S.setVm v)
section SEARCH
variable {e : Env} {s S : State} {f : JFrame} {a : Addr} {x : ExceptionTableEntry} {t : List ExceptionTableEntry} {c : ClassId} {ce : Cell} {h : Nat}
theorem x_row {Q : Handler → Pre} {E : CtlPost} {d : Bool} {acts : List Action} (hx : covers x f.pc = true) (h0 : x.catchType ≠ 0) (hl : S.vm.ClassLinks e.platform f.method.cls x.catchType c)
    (hce : S.heap[a]? = some ce) (hob : ce.vm.isStatics = false) (hk : ∃ k, S.vm.classes[ce.cls]? = some k) :
    wp (findHandler.go f a (x :: t)) Q E e d acts S ↔ if S.vm.assignable ce.cls c = true then Q (.found x.handlerPc) d acts (S.setVm (S.vm.noted f.method.cls x.catchType (.cls c))) else wp (findHandler.go f a t) Q E e d acts (S.setVm (S.vm.noted f.method.cls x.catchType (.cls c))) := by
  have hal : S.vm.Alike (S.vm.noted f.method.cls x.catchType (.cls c)) := (Vm.Alike.refl S.vm).noted _ _ _
  obtain ⟨ra, rt⟩ := (resolveClass_links e.toSetting hl).op (op := VmOp.resolveClass f.method.cls x.catchType) rfl
  obtain ⟨k, hk⟩ := hk
  obtain ⟨_, _, _, kc, _, _, _, _, _, hkc, _, _⟩ := hl.here
  obtain ⟨k', hk', -⟩ := hal.2.2 _ _ hk
  obtain ⟨kc', hkc', -⟩ := hal.2.2 _ _ hkc
  have hno := VmData.ne_statics_of hob
  simp only [covers] at hx
  rw [← hal.assignable]
  cases hfit : (S.vm.noted f.method.cls x.catchType (.cls c)).assignable ce.cls c <;>
    simp [findHandler.go, hx, h0, ra, rt, hce, hno, hk', hkc', hfit, VmOp.dirties, VmOp.acts]
theorem xGo.hit (hW : s.WarmedH S.vm) (hce : S.heap[a]? = some ce) (hob : ce.vm.isStatics = false) (hk : ∃ k, s.vm.classes[ce.cls]? = some k) (h0 : x.catchType ≠ 0) (hl : s.vm.ClassLinks e.platform f.method.cls x.catchType c)
    (hx : covers x f.pc = true) (hfit : s.vm.assignable ce.cls c = true) : ∃ v, s.WarmedH v ∧ xGo e f a S (x :: t) x.handlerPc v := by
  obtain ⟨k, hk⟩ := hk
  obtain ⟨k', hk', -⟩ := hW.alike.2.2 _ _ hk
  obtain ⟨_, _, _, _, hd, _, _, _, _, _, _, ho⟩ := hl.here
  refine ⟨_, hW.noted hd ho (State.rightAt_cls hl), fun Q E d acts => ?_⟩
  rw [x_row hx h0 (hW.classLinks hl) hce hob ⟨k', hk'⟩, if_pos (by rw [hW.alike.assignable]; exact hfit)]
theorem xGo.pass (hW : s.WarmedH S.vm) (hce : S.heap[a]? = some ce) (hob : ce.vm.isStatics = false) (hk : ∃ k, s.vm.classes[ce.cls]? = some k) (h0 : x.catchType ≠ 0) (hl : s.vm.ClassLinks e.platform f.method.cls x.catchType c)
    (hno : s.vm.assignable ce.cls c = false) (hr : ∀ S' : State, s.WarmedH S'.vm → S'.heap[a]? = some ce → ∃ v, s.WarmedH v ∧ xGo e f a S' t h v) : ∃ v, s.WarmedH v ∧ xGo e f a S (x :: t) h v := by
  cases hx : covers x f.pc with
  | false =>
    obtain ⟨v, h1, h2⟩ := hr S hW hce
    exact ⟨v, h1, fun Q E d acts => (W.findHandler_go_skip hx).trans (h2 Q E d acts)⟩
  | true =>
    obtain ⟨k, hk⟩ := hk
    obtain ⟨k', hk', -⟩ := hW.alike.2.2 _ _ hk
    obtain ⟨_, _, _, _, hd, _, _, _, _, _, _, ho⟩ := hl.here
    obtain ⟨v, h1, h2⟩ := hr (S.setVm (S.vm.noted f.method.cls x.catchType (.cls c))) (hW.noted hd ho (State.rightAt_cls hl)) hce
    refine ⟨v, h1, fun Q E d acts => ?_⟩
    rw [x_row hx h0 (hW.classLinks hl) hce hob ⟨k', hk'⟩, if_neg (by rw [hW.alike.assignable, hno]; decide)]
    exact h2 Q E d acts
end SEARCH
section CATCH
variable {γ : mG} {M : mMap} {p : Program} {l : Launch} {e : Env} {R : Room} {s : State} {m : MethodId} {args : Array Value} {below : List Frame} {meth : Method} {c : Code} {H : Heap} {locs : List Loc} {cells slots mc ms pc nL n index maxL : Nat} {Q : State → Prop} {ls : Array Slot} {rest As : List Value} {cc bytes : ByteArray} {own C : String} {y : MethodName} {ret : Option FieldType} {ws Ts : List Cond} {rm : Room} {Pc : Array Value → State → Prop} {b : Addr} {c0 : Cond}
theorem map_cons {f : ExceptionTableEntry → Nat × Nat × Nat × Nat} {L : List ExceptionTableEntry} {t : Nat × Nat × Nat × Nat} {r : List (Nat × Nat × Nat × Nat)} (h : L.map f = t :: r) : ∃ x L', L = x :: L' ∧ f x = t ∧ L'.map f = r := by
  cases L with
  | nil => cases h
  | cons x L' => rw [List.map_cons] at h; injection h with h1 h2; exact ⟨x, L', rfl, h1, h2⟩
theorem ex_cast {X : String} (hx : EX s) (hX : X = xIA ∨ X = xIS) : ∃ cT, s.vm.findClass X = some cT ∧ s.vm.assignable cT cT = true := by
  have h : (Cond.castable X X).before #[] s = true := hx.use (by rcases hX with e | e <;> subst e <;> simp [XL, Bundle.ownAtoms0]) #[]
  obtain ⟨a, b, h1, h2, h3⟩ := Cond.castable_spec h
  cases h1.symm.trans h2
  exact ⟨a, h1, h3⟩
/-- the search has found a row: the frame goes on at its handler -/
theorem x_caught {T : State} (X : Stand p l e R s m args below meth c T locs cells slots) {q : Addr} {g : JFrame} (hg : g.method = m) {h : Nat} {v : Vm} (hv : s.WarmedH v) (hgo : xGo e g q ((T.setTop g).pushFrame (.throwing q)) c.exceptionTable.toList h v) :
    Stand p l e R s m args below meth c (T.setVm v) locs cells slots ∧ Steps p.tables e below ((T.setTop g).pushFrame (.throwing q)) ((T.setVm v).setTop { g with pc := h, stack := [.ref q] }) := by
  subst hg
  refine ⟨X.noted hv, ?_⟩
  obtain ⟨ho, hw⟩ := X.here.throwing q
  refine Steps.head ho hw ?_
  obtain ⟨g₀, hf⟩ := X.frames_eq
  have hfind : ∀ (Q : Handler → Pre) (E : CtlPost) (d : Bool) (acts : List Action), wp (findHandler g q) Q E e d acts ((T.setTop g).pushFrame (.throwing q)) ↔ Q (.found h) d acts (((T.setTop g).pushFrame (.throwing q)).setVm v) := fun Q E d acts => (W.findHandler_eq (s := (T.setTop g).pushFrame (.throwing q)) (by rw [Stand.throwing_vm]; exact X.method') X.code).trans (hgo Q E d acts)
  have h1 : (stepThrowing e ((T.setTop g).pushFrame (.throwing q)) q (.java g :: T.frames.tail)).1 = (((T.setTop g).pushFrame (.throwing q)).setVm v).setFrames (.java { g with pc := h, stack := [.ref q] } :: T.frames.tail) := by
    simp only [stepThrowing, searchFrame, vmDo]
    generalize hr : Sem.go _ e false [] _ = res
    obtain ⟨as, rfl, -⟩ := Sem.eq_ok_of hr (a := Handler.found h) (s' := ((T.setTop g).pushFrame (.throwing q)).setVm v) (acts' := []) (by simp [hfind])
    rfl
  rw [stepThread_throwing (frames_entered X.here.top _), h1]
  have h2 : (((T.setTop g).pushFrame (.throwing q)).setVm v).setFrames (.java { g with pc := h, stack := [.ref q] } :: T.frames.tail) = (T.setVm v).setTop { g with pc := h, stack := [.ref q] } := by
    have hf' : (T.setVm v).frames = .java g₀ :: below := hf
    rw [State.setTop_of_frames _ hf', hf, State.setTop_of_frames _ hf]
    show State.setVm (State.setFrames (State.pushFrame (T.setFrames (.java g :: below)) (.throwing q)) (.java { g with pc := h, stack := [.ref q] } :: below)) v = State.setVm (T.setFrames (.java { g with pc := h, stack := [.ref q] } :: below)) v
    rw [State.pushFrame, State.setFrames_setFrames, State.setFrames_setFrames]
  rw [h2]
  exact Steps.refl _
/-- a row's link out of its word -/
theorem x_link {T : State} {X : String} {x : ExceptionTableEntry} {ct : Nat} {cT : ClassId} (XS : Stand p l e R s m args below meth c T locs cells slots) (S : CallFix p m c cc nL s args (c0 :: GG) own) (hcl : Cond.classLink own ct X ∈ GG) (k4 : x.catchType = ct) (hc : s.vm.findClass X = some cT) :
    s.vm.ClassLinks e.platform m.cls x.catchType cT := by
  obtain ⟨c', h1, h2⟩ := Cond.classLink_spec S.2.2.2.1 (S.2.2.2.2 _ (gc hcl)) e.platform (by rw [XS.admits.platform])
  cases hc.symm.trans h1
  rw [k4]; exact h2
/-- the first handler catches -/
theorem m_catch1 {X : String} {s0 e0 h0 ct : Nat} {hh : List (Nat × Nat × Nat × Nat)} (S : CallFix p m c cc nL s args (c0 :: GG) own) (htab : c.exceptionTable.toList.map hT4 = (s0, e0, h0, ct) :: hh) (hX : X = xIA ∨ X = xIS) (hx : EXg γ s) (hw : mW γ M s H locs)
    (hM : MetX l y ws rm Pc X mc ms) (cw : CallW R s args own C index y bytes maxL ret ws rm mc ms n) (hp : PreV s H C b Pc As)
    (hn : As.length = n) (hsize : ls.size = nL) (hW : 2 * (F0 m pc ls rest).monitorRoom + (rest.map fun v => v.category).sum ≤ 8) (hdg : decode cc pc = .ok (.invokevirtual index, 3)) (hf : cells + mc ≤ R.cells ∧ slots + ms ≤ R.slots) {st : List Value} (hst : st = As.reverse ++ .ref b :: rest)
    (hcl : Cond.classLink own ct X ∈ GG) (hct : ct ≠ 0) (hcov : s0 ≤ pc ∧ pc < e0)
    (kk : ∀ (H : Heap) (q : Addr), mW γ M s H locs → W p l e R s m args below meth c H locs (cells + mc) (slots + ms) Q (F0 m h0 ls [.ref q])) : W p l e R s m args below meth c H locs cells slots Q (F0 m pc ls st) := by
  intro T hT X0
  obtain ⟨q, T', X', hz, hold, ⟨ce, c1, c2, c3⟩, stp⟩ := m_runXV S hM cw hp hn hsize hW hdg hf hT X0 hst
  obtain ⟨x, L', hl', hx1, -⟩ := map_cons htab
  obtain ⟨cT, f1, f2⟩ := ex_cast hx.ex hX
  cases c2.symm.trans f1
  have k1 : x.startPc = s0 := congrArg (·.1) hx1
  have k2 : x.endPc = e0 := congrArg (·.2.1) hx1
  have k3 : x.handlerPc = h0 := congrArg (·.2.2.1) hx1
  have k4 : x.catchType = ct := congrArg (·.2.2.2) hx1
  have hkT := Vm.classAt_of_findClass f1
  obtain ⟨vm', hv, hgo⟩ := xGo.hit (S := (T'.setTop (F0 m pc ls rest)).pushFrame (.throwing q)) (f := F0 m pc ls rest) (e := e) (t := L') X'.warmed c1 c3 hkT (by rw [k4]; exact hct) (x_link X' S hcl k4 f1) (by unfold covers; simp [k1, k2, hcov]) f2
  rw [← hl'] at hgo
  obtain ⟨XV, st2⟩ := x_caught X' rfl hv hgo
  obtain ⟨t, a1, b1⟩ := kk T'.heap q (hw.more hz hold) (T'.setVm vm') rfl XV
  rw [k3] at st2
  exact ⟨t, stp.trans (st2.trans a1), b1⟩
/-- the first passes it, the second catches -/
theorem m_catch2 {s1 e1 h1 ct1 s0 e0 h0 ct : Nat} {hh : List (Nat × Nat × Nat × Nat)} (S : CallFix p m c cc nL s args (c0 :: GG) own) (htab : c.exceptionTable.toList.map hT4 = (s1, e1, h1, ct1) :: (s0, e0, h0, ct) :: hh) (hx : EXg γ s) (hw : mW γ M s H locs)
    (hM : MetX l y ws rm Pc xIS mc ms) (cw : CallW R s args own C index y bytes maxL ret ws rm mc ms n) (hp : PreV s H C b Pc As)
    (hn : As.length = n) (hsize : ls.size = nL) (hW : 2 * (F0 m pc ls rest).monitorRoom + (rest.map fun v => v.category).sum ≤ 8) (hdg : decode cc pc = .ok (.invokevirtual index, 3)) (hf : cells + mc ≤ R.cells ∧ slots + ms ≤ R.slots) {st : List Value} (hst : st = As.reverse ++ .ref b :: rest)
    (hcl1 : Cond.classLink own ct1 xIA ∈ GG) (hct1 : ct1 ≠ 0) (hcl : Cond.classLink own ct xIS ∈ GG) (hct : ct ≠ 0) (hcov : s0 ≤ pc ∧ pc < e0)
    (kk : ∀ (H : Heap) (q : Addr), mW γ M s H locs → W p l e R s m args below meth c H locs (cells + mc) (slots + ms) Q (F0 m h0 ls [.ref q])) : W p l e R s m args below meth c H locs cells slots Q (F0 m pc ls st) := by
  intro T hT X0
  obtain ⟨q, T', X', hz, hold, ⟨ce, c1, c2, c3⟩, stp⟩ := m_runXV S hM cw hp hn hsize hW hdg hf hT X0 hst
  obtain ⟨x1, L1, hl1, hy1, hr1⟩ := map_cons htab
  obtain ⟨x, L', hl', hx1, -⟩ := map_cons hr1
  obtain ⟨cT, f1, f2⟩ := ex_cast (X := xIS) hx.ex (Or.inr rfl)
  cases c2.symm.trans f1
  have k1 : x.startPc = s0 := congrArg (·.1) hx1
  have k2 : x.endPc = e0 := congrArg (·.2.1) hx1
  have k3 : x.handlerPc = h0 := congrArg (·.2.2.1) hx1
  have k4 : x.catchType = ct := congrArg (·.2.2.2) hx1
  have j4 : x1.catchType = ct1 := congrArg (·.2.2.2) hy1
  have hkT := Vm.classAt_of_findClass f1
  obtain ⟨cA, g1, -⟩ := ex_cast (X := xIA) hx.ex (Or.inl rfl)
  have hnot : s.vm.assignable ce.cls cA = false := by
    have hv := Cond.holds_not_iff.mp (hx.ex.use List.mem_cons_self args)
    simp only [Cond.value, c2, g1] at hv
    exact Option.some.inj hv
  obtain ⟨vm', hv, hgo⟩ := xGo.pass (S := (T'.setTop (F0 m pc ls rest)).pushFrame (.throwing q)) (f := F0 m pc ls rest) (e := e) (t := L1) (h := x.handlerPc) X'.warmed c1 c3 hkT (by rw [j4]; exact hct1) (x_link X' S hcl1 j4 g1) hnot (fun S' hW' hce' => by
    rw [hl']
    exact xGo.hit (f := F0 m pc ls rest) (e := e) (t := L') hW' hce' c3 hkT (by rw [k4]; exact hct) (x_link X' S hcl k4 f1) (by unfold covers; simp [k1, k2, hcov]) f2)
  rw [← hl1] at hgo
  obtain ⟨XV, st2⟩ := x_caught X' rfl hv hgo
  obtain ⟨t, a1, b1⟩ := kk T'.heap q (hw.more hz hold) (T'.setVm vm') rfl XV
  rw [k3] at st2
  exact ⟨t, stp.trans (st2.trans a1), b1⟩
/-- a call of a static method that has a table of handlers -/
theorem m_runSW {hh : List (Nat × Nat × Nat × Nat)} {Qc : Array Value → State → Outcome → State → Prop} {free : Addr → Prop} (S : CallFix p m c cc nL s args (c0 :: GG) own) (hM : Met l y (Cond.codeWith y bytes maxL ret hh :: GG) rm Pc Qc mc ms free)
    (hl : Cond.methodLink own index y ∈ GG) (hi : Cond.static y ∈ GG) (hini : Cond.initialized y.cls ∈ GG) (hc : Cond.codeWith y bytes maxL ret hh ∈ GG) (hrc : rm.cells = mc) (hrs : rm.slots = ms)
    (hd : y.cls ≠ "java/lang/invoke/MethodHandle" ∧ y.cls ≠ "java/lang/invoke/VarHandle" ∧ (parseMethodDescriptor y.desc).map (fun d => d.parameters.length) = some n) (hR : rm.frames + 1 ≤ R.frames ∧ 8 + (maxL + 11) + rm.locals ≤ R.locals) (hp : PreS s H Pc As)
    (hn : As.length = n) (hsize : ls.size = nL) (hW : 2 * (F0 m pc ls rest).monitorRoom + (rest.map fun v => v.category).sum ≤ 8) (hdg : decode cc pc = .ok (.invokestatic index, 3)) (hf : cells + mc ≤ R.cells ∧ slots + ms ≤ R.slots) {st : List Value} (hst : st = As.reverse ++ rest) :
    va_Run p l e R s m args below meth c H locs cells slots mc ms (F0 m pc ls st) rest (Qc As.toArray) free := by
  have hG := gg (c0 := c0) hc
  have hK : Back l R p e below s args y 3 8 (PreOf R mc ms Pc) (PostOf Qc mc ms free) := va_backW (bytes := bytes) (maxL := maxL) (ret := ret) (hh := hh) hM hp.1 hrc hrs hR.1 hR.2 (pay_in S.2.2.2.2 hG) List.mem_cons_self (fun a' U hW => word_at hW (Or.inl (by first | rfl | simp [Cond.onTables, Cond.keeps, Cond.steady])) (S.2.2.2.2 _ (gc hini)))
  have hlink := S.2.2.2.2 _ (gc hl)
  have hstat := S.2.2.2.2 _ (gc hi)
  have hinit := S.2.2.2.2 _ (gc hini)
  obtain ⟨mk, methM, cM, hnamed, hmethM, -, -, -, -, -, -, hsigM⟩ := Cond.codeWith_spec (S.2.2.2.2 _ (gc hc))
  have hstatic : methM.isStatic = true := Cond.static_spec hnamed hmethM hstat
  obtain ⟨kP, hkP, -⟩ := className_of_methodNamed hnamed
  have hinitP : kP.init = .initialized := Cond.initialized_spec (findClass_of_methodNamed hnamed) hkP hinit
  obtain ⟨hx, hb, hml, ho, -⟩ := S
  subst hst; subst hb
  intro T hT X
  have hlen : As.length = methM.sig.parameters.length := by
    have h2 := hd.2.2
    rw [hsigM] at h2
    exact hn.trans (Option.some.inj h2).symm
  obtain ⟨vm₁, X₁, hstep₁⟩ := X.invokestatic hx ho hlink hnamed hmethM hstatic hkP hinitP ⟨hd.1, hd.2.1⟩ (g := F0 m pc ls (As.reverse ++ rest)) rfl (argsL := As) (rest := rest) hlen rfl hdg
  obtain ⟨v, ⟨U', l2, c2, s2⟩, X', ⟨g', mk', t, L, e1, e2, hq, h1, hL, h2, h3⟩, hsteps⟩ := hK m meth c ⟨T.setVm vm₁, locs, cells, slots⟩ (F0 m pc ls rest) (.invokestatic index) mk As.toArray X₁ rfl (hsize.trans hml.symm) hdg hW (X₁.named hnamed) ⟨hf.1, hf.2, hp.2 _ hT X₁.warmed⟩
  dsimp only [Pt.U, Pt.locs, Pt.cells, Pt.slots] at X' e1 e2 h1 h2 h3 hsteps
  subst h1; subst h2; subst h3
  exact ⟨v, (T.setVm vm₁).calling g' mk' As.toArray, t, U', L, hT, X', hL, e1, e2, hq, fun tg h => hstep₁ _ fun acts => by rw [doInvoke_state]; exact hsteps.trans h⟩
end CATCH
