/-! Calls that write nothing at all: no place of the heap is theirs -/
section ROWS0
variable {γ : mG} {M : mMap} {p : Program} {l : Launch} {e : Env} {R : Room} {s : State} {m : MethodId} {args : Array Value} {below : List Frame} {meth : Method} {c : Code} {H : Heap} {cells slots mc ms pc nL : Nat} {Q : State → Prop} {ls : Array Slot} {st0 rest : List Value} {aa : Array Value} {cc : ByteArray} {c0 : Cond} {own : String}
abbrev nof : Addr → Prop := fun _ => False
theorem nof_nil {L : List Loc} (h : ∀ q ∈ L, nof q.base) : L = [] := by
  cases L with
  | nil => rfl
  | cons q _ => exact (h q List.mem_cons_self).elim
theorem m_ci0 {post : Int32 → mMap → Prop} (hw : mW γ M s H []) (hr : va_Run p l e R s m args below meth c H [] cells slots mc ms (F0 m pc ls st0) rest (mQi γ post aa) nof)
    (kk : ∀ (r : Int32) (M1 : mMap) (H1 : Heap), post r M1 → mW γ M1 s H1 [] → W p l e R s m args below meth c H1 [] (cells + mc) (slots + ms) Q (F0 m (pc + 3) ls (.int r :: rest))) : W p l e R s m args below meth c H [] cells slots Q (F0 m pc ls st0) := by
  intro T hT X
  obtain ⟨v, q0, t, T', L, h0, X', hL, e1, e2, ⟨⟨r, u, hv, hp, hb⟩, hz, hk⟩, st⟩ := hr T hT X
  cases hv
  have hN := nof_nil hL
  subst hN
  rw [h0] at hz hk
  have hS := hw.2.1
  obtain ⟨t2, a1, b1⟩ := kk r u T'.heap hp (hw.after e1.symm hb ⟨Nat.le_trans hS.1 (by rw [e1]; exact hz), fun q h1 h2 => by rw [e1, hk q (Nat.lt_of_lt_of_le h1 hS.1) h2]; exact hS.2.1 q h1 h2, fun q hq => by cases hq⟩) T' rfl X'
  exact ⟨t2, st t2 a1, b1⟩
theorem m_cq0 {post : Option Nat → mMap → Prop} (hw : mW γ M s H []) (hr : va_Run p l e R s m args below meth c H [] cells slots mc ms (F0 m pc ls st0) rest (mQq γ post aa) nof)
    (kk : ∀ (r : Option Nat) (M1 : mMap) (H1 : Heap), post r M1 → mW γ M1 s H1 [] → W p l e R s m args below meth c H1 [] (cells + mc) (slots + ms) Q (F0 m (pc + 3) ls (va_rf r :: rest))) : W p l e R s m args below meth c H [] cells slots Q (F0 m pc ls st0) := by
  intro T hT X
  obtain ⟨v, q0, t, T', L, h0, X', hL, e1, e2, ⟨⟨r, u, hv, hp, hb⟩, hz, hk⟩, st⟩ := hr T hT X
  cases hv
  have hN := nof_nil hL
  subst hN
  rw [h0] at hz hk
  have hS := hw.2.1
  obtain ⟨t2, a1, b1⟩ := kk r u T'.heap hp (hw.after e1.symm hb ⟨Nat.le_trans hS.1 (by rw [e1]; exact hz), fun q h1 h2 => by rw [e1, hk q (Nat.lt_of_lt_of_le h1 hS.1) h2]; exact hS.2.1 q h1 h2, fun q hq => by cases hq⟩) T' rfl X'
  exact ⟨t2, st t2 a1, b1⟩
theorem m_iret0 {post : Int32 → mMap → Prop} {v : Int32} {ty : FieldType} (S : CallFix p m c cc nL s args (c0 :: GG) own) (hlocks : meth.locks = false) (hr : meth.sig.returnType = some ty) (hn : narrow ty (.int v) = .int v) (hw : mW γ M s H []) (hp : post v M) (hc : cells ≤ mc) (hs : slots ≤ ms) (hdg : decode cc pc = .ok (.ireturn, 1)) :
    W p l e R s m args below meth c H [] cells slots (MQ below (mQi γ post) args s mc ms nof) (F0 m pc ls [.int v]) := by
  refine W.widen hc hs ?_
  exact W.zret S.1 S.2.1 hr hn (fun t ht hW => ⟨⟨v, M, rfl, hp, by rw [ht]; exact hw.toH, hw.K hW.alike ht⟩, hw.2.1.F ht⟩) (fun q hq => by cases hq) hdg
theorem m_aret0 {post : Option Nat → mMap → Prop} {r : Option Nat} {rt : FieldType} (S : CallFix p m c cc nL s args (c0 :: GG) own) (hlocks : meth.locks = false) (hr : meth.sig.returnType = some rt) (hrt : (∃ n, rt = .object n) ∨ ∃ t, rt = .array t) (hw : mW γ M s H []) (hp : post r M) (hc : cells ≤ mc) (hs : slots ≤ ms) (hdg : decode cc pc = .ok (.areturn, 1)) :
    W p l e R s m args below meth c H [] cells slots (MQ below (mQq γ post) args s mc ms nof) (F0 m pc ls [va_rf r]) := by
  refine W.widen hc hs ?_
  exact W.aret S.1 S.2.1 hr hrt (va_rf_or r) (fun t ht hW => ⟨⟨r, M, rfl, hp, by rw [ht]; exact hw.toH, hw.K hW.alike ht⟩, hw.2.1.F ht⟩) (fun q hq => by cases hq) hdg
end ROWS0
