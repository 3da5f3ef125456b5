/-! What adding and removing leave -/
def cN (cap k : Nat) : Nat := if k = cap then cgr cap else cap
def gN (cap k : Nat) : Nat := if k = cap then 1 else 0
def sN (cap k : Nat) : Nat := if k = cap then cgr cap else 0
/-- only the list's two cells changed, or its array is a new one -/
def alF (M M' : mMap) (a r r' : Nat) : Prop := (∀ b e, M b = some e → b ≠ a → b ≠ r → M' b = some e) ∧ (r' = r ∨ M r' = none)
theorem AL.mk {γ : mG} {M' : mMap} {a q n : Nat} {md : Int32} {f : Nat → Option Nat} {ys : List Nat} (ha : M' a = some (.inr (0, [.int md, .ref q, .int (nI ys.length)]))) (hq : M' q = some (.inl (gA γ 3, n, .inr (.inr (.inr (.inr f)))))) (hc : ct f ys) (hl : ys.length ≤ n) (h10 : 10 ≤ n) (hn : n ≤ 60000) : AL γ M' a q n ys := ⟨⟨md, ha⟩, hl, hn, Or.inr ⟨h10, f, hq, hc⟩⟩
theorem mU_q0 {M : mMap} {a q : Nat} {e : va_E} (h : mU M a e q = none) : q ≠ a ∧ M q = none := by
  by_cases z : q = a
  · subst z; rw [mU_eq] at h; cases h
  · exact ⟨z, (mU_ne z).symm.trans h⟩
/-- the array stays, its cell and the list's cell are new -/
theorem alF.room {M : mMap} {a r : Nat} {e0 e1 e2 : va_E} : alF M (mU (mU (mU M a e0) r e1) a e2) a r r := ⟨fun b e h h1 h2 => mU_to h1 (mU_to h2 (mU_to h1 h)), Or.inl rfl⟩
theorem alF.grown {M : mMap} {a r q : Nat} {e0 e1 e2 e3 e4 : va_E} (hq : M q = none) : alF M (mU (mU (mU (mU (mU M a e0) q e1) a e2) q e3) a e4) a r q := ⟨fun b e h h1 _ => mU_to h1 (mU_to (m_fne h hq) (mU_to h1 (mU_to (m_fne h hq) (mU_to h1 h)))), Or.inr hq⟩
theorem mEl.alF {M M' : mMap} {a r r' ci : Nat} {xs : List Nat} {fs0 : List Value} (h : mEl M ci xs) (ha : M a = some (.inr (0, fs0))) (hr : ∀ e, M r = some e → ∃ x, e = .inl x) (hF : alF M M' a r r') : mEl M' ci xs := by
  refine ⟨h.1, fun x hx => ?_⟩
  obtain ⟨fs, hfs⟩ := h.2 x hx
  refine ⟨fs, hF.1 x _ hfs (fun z => ?_) (fun z => ?_)⟩
  · rw [z, ha] at hfs
    cases hfs
    rcases h.1 with e | e <;> cases e
  · obtain ⟨y, hy⟩ := hr _ (z ▸ hfs)
    cases hy
