/-! After opening every order that rests is as it should be -/
def Rwk (I : Co) (o : Nat) : Prop := 1 ≤ (I 3 o).toInt ∧ (I 3 o).toInt ≤ 100000 ∧ (0 < (I 8 o).toInt → (I 3 o).toInt ≤ 50 * (I 8 o).toInt)
section STARTED
variable {σ : St} {o x f : Nat}
theorem show_x (h : x ≠ o) : sI (xShow σ o) f x = sI σ f x := by
  show s1 (sI σ) 4 o (shw (sI σ) o) f x = _
  rw [s1_o h]
theorem show_4 : sI (xShow σ o) 4 o = shw (sI σ) o := by
  show s1 (sI σ) 4 o (shw (sI σ) o) 4 o = _
  rw [s1_ss]
theorem start_x (h : x ≠ o) : sI (xStart σ o) f x = sI σ f x := by
  unfold xStart
  split
  · rfl
  · split
    · exact end_x h
    · exact show_x h
theorem start_f (h3 : f ≠ 3) (h4 : f ≠ 4) (h5 : f ≠ 5) : sI (xStart σ o) f = sI σ f := by
  unfold xStart
  split
  · rfl
  · split
    · exact end_f h3 h4 h5
    · exact show_f h4
theorem show_rok (hp : 0 ≤ (sI σ 8 o).toInt) (h : Rwk (sI σ) o) : Rok (sI (xShow σ o)) o := by
  obtain ⟨h1, h2, h3⟩ := h
  unfold Rok
  rw [show_4, show_f (f := 3) (by decide), show_f (f := 8) (by decide), shw_int hp]
  refine ⟨h1, h2, ?_, fun z => by rw [if_pos z], fun z => ?_⟩
  · split
    · exact h1
    · split <;> omega
  · have := h3 z
    rw [if_neg (by omega)]
    split <;> omega
theorem start_rok (hp : 0 ≤ (sI σ 8 o).toInt) (hr5 : ¬ sI σ 5 o = -1 → Rwk (sI σ) o) (hs : rs (sI (xStart σ o)) o = true) : Rok (sI (xStart σ o)) o ∧ ¬ sI (xStart σ o) 2 o = 0 := by
  unfold xStart at *
  by_cases h5 : sI σ 5 o = -1
  · rw [if_pos h5] at hs
    rw [rs_iff, h5, i_m1] at hs
    omega
  · rw [if_neg h5] at hs ⊢
    by_cases h2 : sI σ 2 o = 0
    · rw [if_pos h2, end_nr] at hs
      cases hs
    · rw [if_neg h2]
      exact ⟨show_rok hp (hr5 h5), by rw [show_f (by decide)]; exact h2⟩
theorem sts_rok (hp : ∀ o, o < sn σ → 0 ≤ (sI σ 8 o).toInt) (h : ∀ o, o < sn σ → ¬ sI σ 5 o = -1 → Rwk (sI σ) o) : ∀ k, k ≤ sn σ → (∀ o, o < k → rs (sI (xSts σ k)) o = true → Rok (sI (xSts σ k)) o ∧ ¬ sI (xSts σ k) 2 o = 0) ∧ (∀ o f, k ≤ o → sI (xSts σ k) f o = sI σ f o) := by
  intro k
  induction k with
  | zero => intro _; exact ⟨fun o ho => absurd ho (Nat.not_lt_zero _), fun o f _ => rfl⟩
  | succ k ih =>
    intro hk
    obtain ⟨i1, i2⟩ := ih (by omega)
    refine ⟨fun o ho hs => ?_, fun o f hko => (start_x (by omega)).trans (i2 o f (by omega))⟩
    by_cases e : o = k
    · subst e
      refine start_rok (by rw [i2 o 8 (Nat.le_refl _)]; exact hp o (by omega)) (fun h5 => ?_) hs
      rw [i2 o 5 (Nat.le_refl _)] at h5
      have h9 := h o (by omega) h5
      unfold Rwk at *
      rw [i2 o 3 (Nat.le_refl _), i2 o 8 (Nat.le_refl _)]
      exact h9
    · have hs' : rs (sI (xSts σ k)) o = true := by
        rw [rs_iff] at *
        rw [show sI (xSts σ (k + 1)) 5 o = sI (xSts σ k) 5 o from start_x e] at hs
        exact hs
      obtain ⟨r1, r2⟩ := i1 o (by omega) hs'
      refine ⟨?_, ?_⟩
      · unfold Rok at *
        rw [show sI (xSts σ (k + 1)) 3 o = sI (xSts σ k) 3 o from start_x e, show sI (xSts σ (k + 1)) 4 o = sI (xSts σ k) 4 o from start_x e, show sI (xSts σ (k + 1)) 8 o = sI (xSts σ k) 8 o from start_x e]
        exact r1
      · rw [show sI (xSts σ (k + 1)) 2 o = sI (xSts σ k) 2 o from start_x e]
        exact r2
/-- the book behind open is as it should be -/
theorem open_inv (hp : ∀ o, o < sn σ → 0 ≤ (sI σ 8 o).toInt) (h : ∀ o, o < sn σ → ¬ sI σ 5 o = -1 → Rwk (sI σ) o) {n : Nat} (hn : n = sn σ) (hB : InvB (oPh (xSts σ n) 1)) : Inv0 (oPh (xSts σ n) 1) ∧ ∀ o, o < sn σ → rs (sI (oPh (xSts σ n) 1)) o = true → ¬ sI (oPh (xSts σ n) 1) 2 o = 0 := by
  subst hn
  obtain ⟨i1, -⟩ := sts_rok hp h (sn σ) (Nat.le_refl _)
  have e : sn (oPh (xSts σ (sn σ)) 1) = sn σ := (sts_sn σ (sn σ)).1
  exact ⟨⟨hB.1, hB.2.1, hB.2.2.1, hB.2.2.2, fun o ho hs => (i1 o (by rw [← e]; exact ho) hs).1⟩, fun o ho hs => (i1 o ho hs).2⟩
end STARTED
