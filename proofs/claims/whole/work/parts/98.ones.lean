/-! Clearing: it never lacks orders, and it leaves none that could trade -/
def gI (f : Nat → Int) : Nat → Int
  | 0 => 0
  | k + 1 => gI f k + f k
theorem gI_congr {f g : Nat → Int} : ∀ {k : Nat}, (∀ o, o < k → f o = g o) → gI f k = gI g k := by
  intro k
  induction k with
  | zero => intro _; rfl
  | succ k ih => intro h; show _ + _ = _ + _; rw [ih (fun o ho => h o (by omega)), h k (by omega)]
theorem gI_le {f g : Nat → Int} : ∀ {k : Nat}, (∀ o, o < k → f o ≤ g o) → gI f k ≤ gI g k := by
  intro k
  induction k with
  | zero => intro _; exact Int.le_refl _
  | succ k ih => intro h; have h1 := ih (fun o ho => h o (by omega)); have h2 := h k (by omega); show _ + _ ≤ _ + _; omega
theorem gI_nn {f : Nat → Int} : ∀ {k : Nat}, (∀ o, o < k → 0 ≤ f o) → 0 ≤ gI f k := by
  intro k
  induction k with
  | zero => intro _; exact Int.le_refl _
  | succ k ih => intro h; have h1 := ih (fun o ho => h o (by omega)); have h2 := h k (by omega); show 0 ≤ _ + _; omega
theorem gI_at {f g : Nat → Int} {r : Nat} : ∀ {k : Nat}, r < k → (∀ o, o < k → o ≠ r → g o = f o) → gI g k = gI f k + (g r - f r) := by
  intro k
  induction k with
  | zero => intro h; exact absurd h (Nat.not_lt_zero _)
  | succ k ih =>
    intro hr h
    show gI g k + g k = gI f k + f k + (g r - f r)
    by_cases e : r = k
    · subst e
      rw [gI_congr (g := f) (fun o ho => h o (by omega) (by omega))]
      omega
    · rw [ih (by omega) (fun o ho => h o (by omega)), h k (by omega) (fun z => e z.symm)]
      omega
theorem gI_one {f : Nat → Int} {r : Nat} : ∀ {k : Nat}, r < k → (∀ o, o < k → 0 ≤ f o) → f r ≤ gI f k := by
  intro k
  induction k with
  | zero => intro h; exact absurd h (Nat.not_lt_zero _)
  | succ k ih =>
    intro hr h
    show f r ≤ gI f k + f k
    have h1 := gI_nn (f := f) (k := k) (fun o ho => h o (by omega))
    have h2 := h k (by omega)
    by_cases e : r = k
    · subst e; omega
    · have := ih (by omega) (fun o ho => h o (by omega)); omega
theorem gI_pos {f : Nat → Int} : ∀ {k : Nat}, 0 < gI f k → ∃ o, o < k ∧ 0 < f o := by
  intro k
  induction k with
  | zero => intro h; exact absurd h (Int.lt_irrefl 0)
  | succ k ih =>
    intro h
    by_cases e : 0 < f k
    · exact ⟨k, by omega, e⟩
    · have h' : 0 < gI f k + f k := h
      obtain ⟨o, ho, h2⟩ := ih (by omega)
      exact ⟨o, by omega, h2⟩
/-- what is left of those that P names -/
def tP (I : Co) (P : Nat → Bool) (n : Nat) : Int := gI (fun x => if P x = true then (I 3 x).toInt else 0) n
def uB (I : Co) (s : Int32) (o x : Nat) : Bool := onS I s x && (decide (x = o) || bf I x o)
def cR (I : Co) (n : Nat) : Nat := gN2 (fun x => rs I x) n
section ONES
variable {σ : St} {a b : Nat} {p : Int32} {v : Int64}
theorem oQ_v (hb : 1 ≤ (sI σ 3 b).toInt) (ha : 1 ≤ (sI σ 3 a).toInt) (hb2 : (sI σ 3 b).toInt ≤ 100000) (hv : 0 < v) : (oQ σ b a v).toInt ≤ v.toInt ∧ ((oQ σ b a v).toInt = (sI σ 3 b).toInt ∨ (oQ σ b a v).toInt = (sI σ 3 a).toInt ∨ (oQ σ b a v).toInt = v.toInt) := by
  have hm := mn_int (sI σ 3 b) (sI σ 3 a)
  have hv0 := Int64.lt_iff_toInt_lt.mp hv
  rw [show (0 : Int64).toInt = 0 by decide] at hv0
  unfold oQ
  by_cases h : (mn (sI σ 3 b) (sI σ 3 a)).toInt64 < v
  · rw [if_pos h, Int32.toInt32_toInt64]
    have h1 := Int64.lt_iff_toInt_lt.mp h
    rw [Int32.toInt_toInt64] at h1
    refine ⟨by omega, ?_⟩
    rw [hm]
    split
    · exact Or.inr (Or.inl rfl)
    · exact Or.inl rfl
  · rw [if_neg h]
    have h1 := Int64.le_iff_toInt_le.mp (Int64.not_lt.mp h)
    rw [Int32.toInt_toInt64, hm] at h1
    have e : v.toInt32.toInt = v.toInt := by
      rw [Int64.toInt_toInt32, Int.bmod_def]
      split at h1 <;> omega
    rw [e]
    exact ⟨Int.le_refl _, Or.inr (Or.inr rfl)⟩
/-- what one step does to the two that trade, and to nobody else -/
theorem dl_cols (hba : b ≠ a) : (∀ f x, x ≠ b → x ≠ a → sI (xDl σ b a p v) f x = sI σ f x) ∧
    (sI σ 3 b - oQ σ b a v = 0 → sI (xDl σ b a p v) 5 b = -1) ∧ (¬ sI σ 3 b - oQ σ b a v = 0 → sI (xDl σ b a p v) 5 b = sI σ 5 b ∧ sI (xDl σ b a p v) 3 b = sI σ 3 b - oQ σ b a v) ∧
    (sI σ 3 a - oQ σ b a v = 0 → sI (xDl σ b a p v) 5 a = -1) ∧ (¬ sI σ 3 a - oQ σ b a v = 0 → sI (xDl σ b a p v) 5 a = sI σ 5 a ∧ sI (xDl σ b a p v) 3 a = sI σ 3 a - oQ σ b a v) := by
  have d3b : sI (xDeal σ b a p (oQ σ b a v)) 3 b = sI σ 3 b - oQ σ b a v := dI_3a hba
  have d3a : sI (xDeal σ b a p (oQ σ b a v)) 3 a = sI σ 3 a - oQ σ b a v := dI_3b hba
  have d5 : sI (xDeal σ b a p (oQ σ b a v)) 5 = sI σ 5 := deal_f (by decide) (by decide)
  have f3a : sI (xFin (xDeal σ b a p (oQ σ b a v)) b) 3 a = sI σ 3 a - oQ σ b a v := (fin_x (Ne.symm hba)).trans d3a
  refine ⟨fun f x hx hy => ?_, fun h => ?_, fun h => ?_, fun h => ?_, fun h => ?_⟩
  · unfold xDl
    rw [fin_x hy, fin_x hx]
    exact dI_o hx hy
  · unfold xDl
    rw [fin_x hba]
    unfold xFin
    rw [if_pos (d3b.trans h)]
    exact end_5
  · unfold xDl
    rw [fin_x hba, fin_x hba]
    unfold xFin
    rw [if_neg (by rw [d3b]; exact h)]
    exact ⟨congrFun d5 b, d3b⟩
  · unfold xDl
    unfold xFin
    have : sI (if sI (xDeal σ b a p (oQ σ b a v)) 3 b = 0 then xEnd (xDeal σ b a p (oQ σ b a v)) b else xDeal σ b a p (oQ σ b a v)) 3 a = 0 := f3a.trans h
    rw [if_pos this]
    exact end_5
  · have e5 : sI (xFin (xDeal σ b a p (oQ σ b a v)) b) 5 a = sI σ 5 a := (fin_x (Ne.symm hba)).trans (congrFun d5 a)
    unfold xDl
    rw [show xFin (xFin (xDeal σ b a p (oQ σ b a v)) b) a = xFin (xDeal σ b a p (oQ σ b a v)) b from if_neg (by rw [f3a]; exact h)]
    exact ⟨e5, f3a⟩
end ONES
