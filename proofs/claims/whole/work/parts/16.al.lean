/-! A list as its cells -/
def AL (γ : mG) (M : mMap) (a r cap : Nat) (xs : List Nat) : Prop := (∃ md : Int32, M a = some (.inr (0, [.int md, .ref r, .int (nI xs.length)]))) ∧ xs.length ≤ cap ∧ cap ≤ 60000 ∧ ((cap = 0 ∧ r = ge γ) ∨ (10 ≤ cap ∧ ∃ f, M r = some (.inl (gA γ 3, cap, .inr (.inr (.inr (.inr f))))) ∧ ct f xs))
theorem AL.pos {γ : mG} {M : mMap} {a r cap : Nat} {xs : List Nat} (h : AL γ M a r cap xs) {k : Nat} (hk : k < xs.length) : ∃ (md : Int32) (f : Nat → Option Nat), M a = some (.inr (0, [.int md, .ref r, .int (nI xs.length)])) ∧ M r = some (.inl (gA γ 3, cap, .inr (.inr (.inr (.inr f))))) ∧ ct f xs ∧ xs.length ≤ cap ∧ cap ≤ 60000 ∧ 10 ≤ cap := by
  obtain ⟨⟨md, h1⟩, h2, h3, ⟨h4, -⟩ | ⟨h4, f, h5, h6⟩⟩ := h
  · omega
  · exact ⟨md, f, h1, h5, h6, h2, h3, h4⟩
theorem m_kind {M : mMap} {a b : Nat} {e1 e2 : va_E} (ha : M a = some e1) (hb : M b = some e2) (h : e1 ≠ e2) : a ≠ b := by
  intro e
  subst e
  rw [ha] at hb
  exact h (Option.some.inj hb)
