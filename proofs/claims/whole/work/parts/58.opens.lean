/-! Opening, in numbers -/
def oRef (τ : St) (r : Int32) : St := (τ.1, (sph τ, r, sbd τ, srk τ), τ.2.2)
def xOp (σ : St) (a : AU) : St := if 0 < a.2.1 then oRef (xOne 250 σ a.1 a.2.1) a.1 else σ
def xSts (σ : St) : Nat → St
  | 0 => σ
  | k + 1 => xStart (xSts σ k) k
theorem start_sn {σ : St} {o : Nat} : sn (xStart σ o) = sn σ := by
  unfold xStart
  split
  · rfl
  · split <;> rfl
theorem start_2 {σ : St} {o : Nat} : (xStart σ o).2 = σ.2 := by
  unfold xStart
  split
  · rfl
  · split <;> rfl
theorem sts_sn (σ : St) : ∀ k, sn (xSts σ k) = sn σ ∧ (xSts σ k).2 = σ.2 := by
  intro k
  induction k with
  | zero => exact ⟨rfl, rfl⟩
  | succ k ih => exact ⟨start_sn.trans ih.1, start_2.trans ih.2⟩
