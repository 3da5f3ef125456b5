/-! What an array of references holds of a list -/
def ct (f : Nat → Option Nat) (xs : List Nat) : Prop := ∀ i, i < xs.length → f i = xs[i]?
theorem ct_nil (f : Nat → Option Nat) : ct f [] := fun i h => absurd h (Nat.not_lt_zero i)
theorem ct_add {f : Nat → Option Nat} {xs : List Nat} {a : Nat} (h : ct f xs) : ct (va_up f xs.length (some a)) (xs ++ [a]) := by
  intro i hi
  rw [List.length_append, List.length_singleton] at hi
  by_cases e : i = xs.length
  · subst e
    rw [List.getElem?_append_right (Nat.le_refl _), Nat.sub_self]
    exact if_pos rfl
  · rw [List.getElem?_append_left (by omega)]
    exact (if_neg e).trans (h i (by omega))
theorem ct_grow {f g : Nat → Option Nat} {xs : List Nat} {n : Nat} (h : ct f xs) (hn : xs.length ≤ n) : ct (va_cpy f g 0 0 n) xs := by
  intro i hi
  have e : va_cpy f g 0 0 n i = f i := by
    unfold va_cpy
    rw [if_pos ⟨Nat.zero_le _, by omega⟩]
    congr 1
    omega
  rw [e]
  exact h i hi
theorem ct_ins {f : Nat → Option Nat} {xs : List Nat} {a i : Nat} (h : ct f xs) (hi : i ≤ xs.length) : ct (va_up (va_cpy f f i (i + 1) (xs.length - i)) i (some a)) (xs.insertIdx i a) := by
  intro j hj
  rw [List.length_insertIdx, if_pos hi] at hj
  rw [List.getElem?_insertIdx]
  unfold va_up va_cpy
  by_cases h1 : j = i
  · rw [if_pos h1, if_neg (by omega), if_pos h1, if_pos (by omega)]
  · rw [if_neg h1]
    by_cases h2 : j < i
    · rw [if_pos h2, if_neg (by omega)]
      exact h j (by omega)
    · rw [if_neg h2, if_neg h1, if_pos (by omega)]
      rw [show i + (j - (i + 1)) = j - 1 by omega]
      exact h (j - 1) (by omega)
theorem ct_del {f : Nat → Option Nat} {xs : List Nat} {i : Nat} (h : ct f xs) (hi : i < xs.length) : ct (va_up (va_cpy f f (i + 1) i (xs.length - 1 - i)) (xs.length - 1) none) (xs.eraseIdx i) := by
  intro j hj
  rw [List.length_eraseIdx, if_pos hi] at hj
  rw [List.getElem?_eraseIdx]
  unfold va_up va_cpy
  rw [if_neg (by omega)]
  by_cases h2 : j < i
  · rw [if_pos h2, if_neg (by omega)]
    exact h j (by omega)
  · rw [if_neg h2, if_pos (by omega)]
    rw [show i + 1 + (j - i) = j + 1 by omega]
    exact h (j + 1) (by omega)
theorem ct_del0 {f : Nat → Option Nat} {xs : List Nat} {i : Nat} (h : ct f xs) (hi : i + 1 = xs.length) : ct (va_up f (xs.length - 1) none) (xs.eraseIdx i) := by
  intro j hj
  rw [List.length_eraseIdx, if_pos (by omega)] at hj
  rw [List.getElem?_eraseIdx]
  unfold va_up
  rw [if_neg (by omega), if_pos (by omega)]
  exact h j (by omega)
/-- how a list's array grows -/
def cgr (c : Nat) : Nat := if c = 0 then 10 else c + c / 2
def cAt : Nat → Nat
  | 0 => 0
  | k + 1 => if k = cAt k then cgr (cAt k) else cAt k
def cSum : Nat → Nat
  | 0 => 0
  | k + 1 => if k = cAt k then cSum k + cgr (cAt k) else cSum k
theorem cAt_ge : ∀ k, k ≤ cAt k := by
  intro k
  induction k with
  | zero => exact Nat.le_refl _
  | succ k ih =>
    unfold cAt
    split
    · rename_i h
      unfold cgr
      split
      · omega
      · have h9 : cAt k ≠ 1 := by
          intro e
          cases k with
          | zero => simp [cAt] at h; simp [cAt] at e
          | succ k =>
            rw [e] at h
            have hk : k = 0 := by omega
            subst hk
            simp [cAt, cgr] at e
        omega
    · omega
