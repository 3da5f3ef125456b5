/-! Rows of calls whose callee throws -/
section XCALLS
variable {γ : mG} {M : mMap} {p : Program} {l : Launch} {e : Env} {R : Room} {s : State} {m : MethodId} {args : Array Value} {below : List Frame} {meth : Method} {c : Code} {H : Heap} {locs : List Loc} {cells slots mc ms mc' ms' pc nL n index maxL : Nat} {Q : State → Prop} {ls : Array Slot} {rest As : List Value} {cc bytes : ByteArray} {own C X : String} {y : MethodName} {ret : Option FieldType} {ws Ts : List Cond} {rm : Room} {Pc : Array Value → State → Prop} {b : Addr}
/-- the call has thrown: where the caller stands -/
def mThrown (p : Program) (l : Launch) (e : Env) (R : Room) (s : State) (m : MethodId) (args : Array Value) (below : List Frame) (meth : Method) (c : Code) (H : Heap) (locs : List Loc) (cells slots : Nat) (X : String) (g g' : JFrame) : Prop :=
  ∀ T : State, T.heap = H → Stand p l e R s m args below meth c T locs cells slots → ∃ (q : Addr) (T' : State) (k n : Nat), Stand p l e R s m args below meth c T' locs k n ∧ k ≤ R.cells ∧ n ≤ R.slots ∧ H.size ≤ T'.heap.size ∧ (∀ a : Nat, a < H.size → T'.heap[a]? = H[a]?) ∧
    (∃ ce, T'.heap[q]? = some ce ∧ s.vm.findClass X = some ce.cls ∧ ce.vm.isStatics = false) ∧ Steps p.tables e below (T.setTop g) ((T'.setTop g').pushFrame (.throwing q))
theorem m_runXV (S : CallFix p m c cc nL s args Ts own) (hM : MetX l y ws rm Pc X mc ms) (cw : CallW R s args own C index y bytes maxL ret ws rm mc ms n) (hp : PreV s H C b Pc As)
    (hn : As.length = n) (hsize : ls.size = nL) (hW : 2 * (F0 m pc ls rest).monitorRoom + (rest.map fun v => v.category).sum ≤ 8) (hdg : decode cc pc = .ok (.invokevirtual index, 3)) (hf : cells + mc ≤ R.cells ∧ slots + ms ≤ R.slots)
    {T : State} (hT : T.heap = H) (X0 : Stand p l e R s m args below meth c T locs cells slots) {st : List Value} (hst : st = As.reverse ++ .ref b :: rest) :
    ∃ (q : Addr) (T' : State), Stand p l e R s m args below meth c T' locs (cells + mc) (slots + ms) ∧ H.size ≤ T'.heap.size ∧ (∀ a : Nat, a < H.size → T'.heap[a]? = H[a]?) ∧
      (∃ ce, T'.heap[q]? = some ce ∧ s.vm.findClass X = some ce.cls ∧ ce.vm.isStatics = false) ∧ Steps p.tables e below (T.setTop (F0 m pc ls st)) ((T'.setTop (F0 m pc ls rest)).pushFrame (.throwing q)) := by
  obtain ⟨⟨hrc, hrs, hfr, hlo, hws, hcw, hcode, hini, hy, hlen, hlink⟩, hin, hse⟩ := cw
  obtain ⟨hbl, ⟨cellB, hcB, hoB, hclB⟩, hPc⟩ := hp
  obtain ⟨hx, hb, hml, ho, -⟩ := S
  subst hst; subst hT; subst hb
  obtain ⟨mk, methM, hnamed, hmethM, hstM, habM⟩ := Cond.instanceMethod_spec hin
  obtain ⟨methM', cM, hmethM', -, -, -, -, -, -, hsigM⟩ := Cond.code_spec hnamed hcode
  cases hmethM.symm.trans hmethM'
  obtain ⟨c2, r2, m2, q1, q2, q3, q4, kP, hkP, hkPi⟩ := Cond.selects_spec hse
  cases hclB.symm.trans q1
  cases (State.methodFound?_of_named hnamed hy).symm.trans q2
  cases hnamed.symm.trans q3
  have hsel : selectMethod e.platform s.vm cellB.cls mk = .method mk := by rw [Launch.admits_selectMethod X0.admits]; exact q4
  obtain ⟨vm₁, X₁, hstep⟩ := X0.invokevirtual hx ho hlink hnamed hmethM hstM hkP hkPi hy (a := b) (cell := cellB) hcB (fun z h => by rw [h] at hoB; cases hoB) hsel hmethM habM hkP hkPi (g := F0 m pc ls (As.reverse ++ .ref b :: rest)) rfl (argsL := As) (rest := rest) (hn.trans (hlen _ hsigM)) rfl hdg
  have hnU := X₁.named hnamed
  have hcU := hws _ hcw (Value.ref b :: As).toArray _ X₁.warmed
  obtain ⟨methY, cY, hmY, hcY, -, hlY, -, -, -, -⟩ := Cond.code_spec hnU hcU
  obtain ⟨kY, hkY, -⟩ := className_of_methodNamed hnU
  have hiY : kY.init = .initialized := Cond.initialized_spec (findClass_of_methodNamed hnU) hkY (word_at (a' := (Value.ref b :: As).toArray) X₁.warmed (Or.inl (by first | rfl | simp [Cond.onTables, Cond.keeps, Cond.steady])) hini)
  have happ := Spec.appliesLoose_calling (S := headSpec ws rm) (x := y) (g := F0 m pc ls rest) (args := (Value.ref b :: As).toArray) (e := e) X₁.here hdg hnU hkY hiY
    (X₁.room_calling (g := F0 m pc ls rest) (R' := rm) (hsize.trans hml.symm) hmY hcY hfr (by rw [hlY]; show 2 * (F0 m pc ls rest).monitorRoom + (rest.map fun v => v.category).sum + (maxL + 11) + rm.locals ≤ R.locals; omega) (by rw [hrc]; exact hf.1) (by rw [hrs]; exact hf.2)) (atoms_intro fun w hw => hws w hw _ _ X₁.warmed)
  obtain ⟨g₀, hg₀⟩ := X₁.frames_eq
  have hfrs : ((T.setVm vm₁).setTop (F0 m pc ls rest)).frames = .java (F0 m pc ls rest) :: below := by rw [State.frames_setTop' _ X₁.here.top, hg₀]; rfl
  obtain ⟨o, t, hs, -, hend, hq⟩ := Steps.callFree hM p X₁.admits X₁.cas X₁.clock (acts := []) (mid := [.java (F0 m pc ls rest)]) hfrs happ (hbl _ _ _ _ (hPc _ rfl X₁.warmed)) trivial
  obtain ⟨q, rfl, ⟨ce, h1, h2, h3⟩, hWt, hst⟩ := hq
  rw [hfrs] at hend
  obtain ⟨T', X', -, hsame, et⟩ := X₁.outOfThrown (g := F0 m pc ls rest) rfl hend hWt hst
  have eh : t.heap = T'.heap := by rw [et]; exact Stand.throwing_heap T' _ q
  rw [List.append_nil] at X'
  refine ⟨q, T', X', hsame.2.1, fun a ha => ?_, ⟨ce, eh ▸ h1, ?_, h3⟩, hstep _ fun acts => by rw [doInvoke_state, ← et]; exact hs⟩
  · have hg : T.heap[a]? = some T.heap[a] := Array.getElem?_eq_getElem ha
    rw [hg]
    exact hsame.kept_nil hg
  · rw [← X₁.warmed.alike.findClass]; exact h2
/-- it goes through: no row of the method's own covers it -/
theorem m_rethrow (S : CallFix p m c cc nL s args Ts own) (hno : c.exceptionTable.isEmpty = true) (hlocks : meth.locks = false) (hM : MetX l y ws rm Pc X mc ms) (cw : CallW R s args own C index y bytes maxL ret ws rm mc ms n) (hp : PreV s H C b Pc As)
    (hn : As.length = n) (hsize : ls.size = nL) (hW : 2 * (F0 m pc ls rest).monitorRoom + (rest.map fun v => v.category).sum ≤ 8) (hdg : decode cc pc = .ok (.invokevirtual index, 3)) (hf : cells + mc ≤ R.cells ∧ slots + ms ≤ R.slots) (hc : cells + mc ≤ mc') (hs : slots + ms ≤ ms') {st : List Value} (hst : st = As.reverse ++ .ref b :: rest) :
    W p l e R s m args below meth c H [] cells slots (MQX below X s mc' ms') (F0 m pc ls st) := by
  intro T hT X0
  obtain ⟨q, T', X', -, -, hce, st⟩ := m_runXV S hM cw hp hn hsize hW hdg hf hT X0 hst
  have hnil : c.exceptionTable.toList = [] := by
    cases h : c.exceptionTable with
    | mk l => rw [h] at hno; cases l with
      | nil => rfl
      | cons a b => cases hno
  obtain ⟨h1, h2, h3, h4, h5⟩ := X'.leaveThrown q (g := F0 m pc ls rest) rfl rfl rfl (fun x hx => by rw [hnil] at hx; cases hx) hlocks
  exact ⟨_, st.trans h1, q, h2, h3, hce, h4, h5.mono hc hs⟩
end XCALLS
