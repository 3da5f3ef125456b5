/-! Going on begins: no order may see more trades than before -/
theorem sts_late {σ : St} : ∀ {k o f : Nat}, k ≤ o → sI (xSts σ k) f o = sI σ f o := by
  intro k
  induction k with
  | zero => intro o f _; rfl
  | succ k ih =>
    intro o f h
    exact (start_x (by omega)).trans (ih (by omega))
theorem start_ph {σ : St} {o : Nat} (hp : 0 ≤ (sI σ 8 o).toInt) (h4 : ¬ sI σ 5 o = -1 → 0 < (sI σ 8 o).toInt → (sI σ 4 o).toInt ≤ (sI σ 8 o).toInt) : phO (sI (xStart σ o)) o ≤ phO (sI σ) o := by
  unfold xStart
  by_cases h5 : sI σ 5 o = -1
  · rw [if_pos h5]; exact Nat.le_refl _
  · rw [if_neg h5]
    by_cases h2 : sI σ 2 o = 0
    · rw [if_pos h2, phO_no end_nr]; exact Nat.zero_le _
    · rw [if_neg h2]
      unfold phO rs
      rw [show_f (f := 5) (by decide), show_f (f := 3) (by decide), show_f (f := 8) (by decide), show_4, shw_int hp]
      split
      · split
        · exact Nat.le_refl _
        · rename_i h8
          have h9 := h4 h5 (by omega)
          refine Nat.add_le_add_left (slc_mono ?_) 1
          split <;> omega
      · exact Nat.le_refl _
theorem sts_phi {σ : St} (hp : ∀ o, o < sn σ → 0 ≤ (sI σ 8 o).toInt) (h4 : ∀ o, o < sn σ → ¬ sI σ 5 o = -1 → 0 < (sI σ 8 o).toInt → (sI σ 4 o).toInt ≤ (sI σ 8 o).toInt) : ∀ {k : Nat}, k ≤ sn σ → phS (sI (xSts σ k)) (sn σ) ≤ phS (sI σ) (sn σ) := by
  intro k
  induction k with
  | zero => intro _; exact Nat.le_refl _
  | succ k ih =>
    intro hk
    refine Nat.le_trans ?_ (ih (by omega))
    refine phS_le (fun x hx => ?_)
    by_cases e : x = k
    · subst e
      refine start_ph (by rw [sts_late (Nat.le_refl _)]; exact hp x hx) (fun h5 h8 => ?_)
      rw [sts_late (Nat.le_refl _)] at h5
      rw [sts_late (Nat.le_refl _)] at h8
      rw [sts_late (Nat.le_refl _), sts_late (Nat.le_refl _)]
      exact h4 x hx h5 h8
    · rw [show phO (sI (xSts σ (k + 1))) x = phO (sI (xSts σ k)) x from phO_cols (start_x e) (start_x e) (start_x e) (start_x e)]
      exact Nat.le_refl _
