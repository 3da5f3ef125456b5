/-! Rows of calls whose callee throws -/
section XCALLS
variable {γ : mG} {M : mMap} {p : Program} {l : Launch} {e : Env} {R : Room} {s : State} {m : MethodId} {args : Array Value} {below : List Frame} {meth : Method} {c : Code} {H : Heap} {locs : List Loc} {cells slots mc ms mc' ms' pc nL n index maxL : Nat} {Q : State → Prop} {ls : Array Slot} {rest As : List Value} {cc bytes : ByteArray} {own C X : String} {y : MethodName} {ret : Option FieldType} {ws Ts : List Cond} {rm : Room} {Pc : Array Value → State → Prop} {b : Addr}
/-- the call has thrown: where the caller stands -/
def mThrown (p : Program) (l : Launch) (e : Env) (R : Room) (s : State) (m : MethodId) (args : Array Value) (below : List Frame) (meth : Method) (c : Code) (H : Heap) (locs : List Loc) (cells slots : Nat) (X : String) (g g' : JFrame) : Prop :=
  ∀ T : State, T.heap = H → Stand p l e R s m args below meth c T locs cells slots → ∃ (q : Addr) (T' : State) (k n : Nat), Stand p l e R s m args below meth c T' locs k n ∧ k ≤ R.cells ∧ n ≤ R.slots ∧ H.size ≤ T'.heap.size ∧ (∀ a : Nat, a < H.size → T'.heap[a]? = H[a]?) ∧
    (∃ ce, T'.heap[q]? = some ce ∧ s.vm.findClass X = some ce.cls ∧ ce.vm.isStatics = false) ∧ Steps p.tables e below (T.setTop g) ((T'.setTop g').pushFrame (.throwing q))
theorem m_runXV (S : CallFix p m c cc nL s args Ts own) (hM : MetX l y ws rm Pc X mc ms) (cw : CallW R s args own C index y bytes maxL ret ws rm mc ms n) (hp : PreV s H C b Pc As)
    (hn : As.length = n) (hsize : ls.size = nL) (hW : 2 * (F0 m pc ls rest).monitorRoom + (rest.map fun v => v.category).sum ≤ 8) (hdg : decode cc pc = .ok (.invokevirtual index, 3)) (hf : cells + mc ≤ R.cells ∧ slots + ms ≤ R.slots)
    {T : State} (hT : T.heap = H) (X0 : Stand p l e R s m args below meth c T locs cells slots) {st : List Value} (hst : st = As.reverse ++ .ref b :: rest) :
    ∃ (q : Addr) (T' : State), Stand p l e R s m args below meth c T' locs (cells + mc) (slots + ms) ∧ H.size ≤ T'.heap.size ∧ (∀ a : Nat, a < H.size → T'.heap[a]? = H[a]?) ∧
      (∃ ce, T'.heap[q]? = some ce ∧ s.vm.findClass X = some ce.cls ∧ ce.vm.isStatics = false) ∧ Steps p.tables e below (T.setTop (F0 m pc ls st)) ((T'.setTop (F0 m pc ls rest)).pushFrame (.throwing q)) := by
  obtain ⟨⟨hrc, hrs, hfr, hlo, hws, hcw, hcode, hini, hy, hlen, hlink⟩, hin, hse⟩ := cw
  obtain ⟨hbl, ⟨cellB, hcB, hoB, hclB⟩, hPc⟩ := hp
  obtain ⟨hx, hb, hml, ho, -⟩ := S
  have hK : BackT l R p e below s args y 3 8 (PreOf R mc ms Pc) (fun A a x B => ∃ (g : JFrame) (mk : MethodId) (t : State), B.U.heap = t.heap ∧ (∃ ce, t.heap[x]? = some ce ∧ A.U.vm.findClass X = some ce.cls ∧ ce.vm.isStatics = false) ∧ (A.U.calling g mk a).sameButNew ({ t with vm := (A.U.calling g mk a).vm } : State) [] mc ms ∧ B.locs = A.locs ∧ B.cells = A.cells + mc ∧ B.slots = A.slots + ms) := by
    refine BackT.of_free (S := headSpec ws rm) (bytes := bytes) (maxL := maxL) (ret := ret) (E := fun a st o t L k n => L = [] ∧ k = mc ∧ n = ms) hM hfr hlo (fun m meth c A a X hp => ?_) (fun m meth c A a g mk X hp => hbl _ _ _ _ hp.2.2) (fun _ _ _ _ _ _ _ _ _ => trivial) (fun a st o t ⟨q, h1, h2, h3, h4⟩ => ?_) (fun m meth c A a g mk v t L k n X hp hq hF hE => ?_)
    · refine ⟨atoms_intro fun w hw => hws w hw _ _ X.warmed, hws _ hcw _ _ X.warmed, word_at X.warmed (Or.inl (by first | rfl | simp [Cond.onTables, Cond.keeps, Cond.steady])) hini, ?_, ?_⟩
      · show A.cells + rm.cells ≤ R.cells
        rw [hrc]; exact hp.1
      · show A.slots + rm.slots ≤ R.slots
        rw [hrs]; exact hp.2.1
    · exact ⟨[], mc, ms, ⟨⟨q, h1⟩, h3, h4⟩, rfl, rfl, rfl⟩
    · obtain ⟨e1, e2, e3⟩ := hE
      subst e1; subst e2; subst e3
      obtain ⟨q, h1, h2, h3, h4⟩ := hq
      cases h1
      exact ⟨g, mk, t, rfl, h2, h4, List.append_nil _, rfl, rfl⟩
  subst hst; subst hT; subst hb
  obtain ⟨mk, methM, hnamed, hmethM, hstM, habM⟩ := Cond.instanceMethod_spec hin
  obtain ⟨methM', cM, hmethM', -, -, -, -, -, -, hsigM⟩ := Cond.code_spec hnamed hcode
  cases hmethM.symm.trans hmethM'
  obtain ⟨c2, r2, m2, q1, q2, q3, q4, kP, hkP, hkPi⟩ := Cond.selects_spec hse
  cases hclB.symm.trans q1
  cases (State.methodFound?_of_named hnamed hy).symm.trans q2
  cases hnamed.symm.trans q3
  have hsel : selectMethod e.platform s.vm cellB.cls mk = .method mk := by rw [Launch.admits_selectMethod X0.admits]; exact q4
  obtain ⟨vm₁, X₁, hstep⟩ := X0.invokevirtual hx ho hlink hnamed hmethM hstM hkP hkPi hy (a := b) (cell := cellB) hcB (fun z h => by rw [h] at hoB; cases hoB) hsel hmethM habM hkP hkPi (g := F0 m pc ls (As.reverse ++ .ref b :: rest)) rfl (argsL := As) (rest := rest) (hn.trans (hlen _ hsigM)) rfl hdg
  obtain ⟨q, B, X', ⟨g', mk', t, e1, ⟨ce, h1, h2, h3⟩, h4, e2, e3, e4⟩, hs⟩ := hK m meth c ⟨T.setVm vm₁, locs, cells, slots⟩ (F0 m pc ls rest) (.invokevirtual index) mk (Value.ref b :: As).toArray X₁ rfl (hsize.trans hml.symm) hdg hW (X₁.named hnamed) ⟨hf.1, hf.2, hPc _ rfl X₁.warmed⟩
  obtain ⟨U', l2, k2, n2⟩ := B
  dsimp only [Pt.U, Pt.locs, Pt.cells, Pt.slots] at X' e1 e2 e3 e4 hs h4
  subst e2; subst e3; subst e4
  refine ⟨q, U', X', ?_, fun a ha => ?_, ⟨ce, by rw [e1]; exact h1, ?_, h3⟩, hstep _ fun acts => by rw [doInvoke_state]; exact hs⟩
  · rw [e1]; exact h4.2.1
  · rw [e1]
    have hg : T.heap[a]? = some T.heap[a] := Array.getElem?_eq_getElem ha
    rw [hg]
    exact h4.kept_nil hg
  · rw [← X₁.warmed.alike.findClass]; exact h2
/-- it goes through: no row of the method's own covers it -/
theorem m_rethrow (S : CallFix p m c cc nL s args Ts own) (hno : c.exceptionTable.isEmpty = true) (hlocks : meth.locks = false) (hM : MetX l y ws rm Pc X mc ms) (cw : CallW R s args own C index y bytes maxL ret ws rm mc ms n) (hp : PreV s H C b Pc As)
    (hn : As.length = n) (hsize : ls.size = nL) (hW : 2 * (F0 m pc ls rest).monitorRoom + (rest.map fun v => v.category).sum ≤ 8) (hdg : decode cc pc = .ok (.invokevirtual index, 3)) (hf : cells + mc ≤ R.cells ∧ slots + ms ≤ R.slots) (hc : cells + mc ≤ mc') (hs : slots + ms ≤ ms') {st : List Value} (hst : st = As.reverse ++ .ref b :: rest) :
    W p l e R s m args below meth c H [] cells slots (MQX below X s mc' ms') (F0 m pc ls st) := by
  intro T hT X0
  obtain ⟨q, T', X', -, -, hce, st⟩ := m_runXV S hM cw hp hn hsize hW hdg hf hT X0 hst
  have hnil : c.exceptionTable.toList = [] := by
    cases h : c.exceptionTable with
    | mk l => rw [h] at hno; cases l with
      | nil => rfl
      | cons a b => cases hno
  obtain ⟨h1, h2, h3, h4, h5⟩ := X'.leaveThrown q (g := F0 m pc ls rest) rfl rfl rfl (fun x hx => by rw [hnil] at hx; cases hx) hlocks
  exact ⟨_, st.trans h1, q, h2, h3, hce, h4, h5.mono hc hs⟩
end XCALLS
