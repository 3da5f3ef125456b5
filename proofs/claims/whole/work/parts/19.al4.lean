/-! An order's cell is written: lists and elements stay -/
theorem mEl.setO {M : mMap} {ci a : Nat} {xs : List Nat} {fs' : List Value} (h : mEl M ci xs) : mEl (mU M a (.inr (ci, fs'))) ci xs := by
  refine ⟨h.1, fun x hx => ?_⟩
  by_cases z : x = a
  · subst z; exact ⟨fs', mU_eq _ _ _⟩
  · obtain ⟨fs, hfs⟩ := h.2 x hx
    exact ⟨fs, mU_to z hfs⟩
theorem AL.setO {γ : mG} {M : mMap} {a r cap b ci : Nat} {xs : List Nat} {fs : List Value} {e : va_E} (h : AL γ M a r cap xs) (hb : M b = some (.inr (ci, fs))) (h0 : ci ≠ 0) : AL γ (mU M b e) a r cap xs := by
  obtain ⟨⟨md, h1⟩, h2, h3, h4⟩ := h
  refine ⟨⟨md, mU_to (fun z => ?_) h1⟩, h2, h3, ?_⟩
  · rw [z, hb] at h1
    cases h1
    exact h0 rfl
  · rcases h4 with h4 | ⟨h4, f, h5, h6⟩
    · exact Or.inl h4
    · refine Or.inr ⟨h4, f, mU_to (fun z => ?_) h5, h6⟩
      rw [z, hb] at h5
      cases h5
/-- the class's own order of two orders, by columns -/
def sb (J : Co) (o x : Nat) : Bool := if J 2 o = J 2 x then decide (J 5 o < J 5 x) else if J 2 o = 0 ∨ J 2 x = 0 then decide (J 2 o = 0) else if J 1 o = 0 then decide (J 2 o < J 2 x) else decide (J 2 x < J 2 o)
theorem sb_bf {J : Co} {o x : Nat} (ho : 0 ≤ (J 2 o).toInt) (hx : 0 ≤ (J 2 x).toInt) : sb J o x = bf J o x := by
  unfold sb bf
  by_cases h1 : J 2 o = J 2 x
  · rw [if_pos h1, if_pos h1]
  · rw [if_neg h1, if_neg h1]
    by_cases h2 : J 2 o = 0
    · rw [if_pos (Or.inl h2)]
      simp [h2]
    · by_cases h3 : J 2 x = 0
      · rw [if_pos (Or.inr h3)]
        simp [h2, h3]
      · rw [if_neg (by simp [h2, h3])]
        have hp : (0 : Int32) < J 2 x := by
          rw [Int32.lt_iff_toInt_lt, i0]
          have : (J 2 x).toInt ≠ 0 := fun z => h3 (Int32.toInt_inj.mp (z.trans i0.symm))
          omega
        simp [h2, hp]
