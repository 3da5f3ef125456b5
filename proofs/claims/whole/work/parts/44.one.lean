/-! Trading at one price, in numbers -/
def oQ (σ : St) (b a : Nat) (v : Int64) : Int32 := (if (mn (sI σ 3 b) (sI σ 3 a)).toInt64 < v then (mn (sI σ 3 b) (sI σ 3 a)).toInt64 else v).toInt32
def xDl (σ : St) (b a : Nat) (p : Int32) (v : Int64) : St := xFin (xFin (xDeal σ b a p (oQ σ b a v)) b) a
def xOne : Nat → St → Int32 → Int64 → St
  | 0, σ, _, _ => σ
  | k + 1, σ, p, v => if 0 < v then (match fst (sI σ) 1 (sn σ), fst (sI σ) 0 (sn σ) with
      | some b, some a => xOne k (xDl σ b a p v) p (v - (oQ σ b a v).toInt64)
      | _, _ => σ) else σ
section ONE
variable {σ : St} {o b a k : Nat} {p : Int32} {v : Int64}
theorem fin_sn : sn (xFin σ o) = sn σ := by unfold xFin; split <;> rfl
theorem fin_2 : (xFin σ o).2 = σ.2 := by unfold xFin; split <;> rfl
theorem fin_f {f : Nat} (h3 : f ≠ 3) (h4 : f ≠ 4) (h5 : f ≠ 5) : sI (xFin σ o) f = sI σ f := by
  unfold xFin
  split
  · exact end_f h3 h4 h5
  · rfl
theorem deal_f {q : Int32} {f : Nat} (h3 : f ≠ 3) (h7 : f ≠ 7) : sI (xDeal σ b a p q) f = sI σ f := dI_f h3 h7
theorem dl_sn : sn (xDl σ b a p v) = sn σ := by unfold xDl; rw [fin_sn, fin_sn]; rfl
theorem dl_4 : (xDl σ b a p v).2.1 = σ.2.1 := by unfold xDl; rw [fin_2, fin_2]; rfl
theorem dl_tn : stn (xDl σ b a p v) = stn σ + 1 := by unfold xDl stn; rw [fin_2, fin_2]; rfl
theorem dl_f {f : Nat} (h3 : f ≠ 3) (h4 : f ≠ 4) (h5 : f ≠ 5) (h7 : f ≠ 7) : sI (xDl σ b a p v) f = sI σ f := by
  unfold xDl
  rw [fin_f h3 h4 h5, fin_f h3 h4 h5, deal_f h3 h7]
theorem xOne_no (h : ¬ 0 < v) : xOne (k + 1) σ p v = σ := by
  unfold xOne
  rw [if_neg h]
theorem xOne_nb (h : fst (sI σ) 1 (sn σ) = none) : xOne (k + 1) σ p v = σ := by
  unfold xOne
  rw [h]
  exact ite_self _
theorem xOne_na (h : fst (sI σ) 0 (sn σ) = none) : xOne (k + 1) σ p v = σ := by
  unfold xOne
  rw [h]
  rcases fst (sI σ) 1 (sn σ) with _ | b
  · exact ite_self _
  · exact ite_self _
theorem xOne_go (h : 0 < v) (hb : fst (sI σ) 1 (sn σ) = some b) (ha : fst (sI σ) 0 (sn σ) = some a) : xOne (k + 1) σ p v = xOne k (xDl σ b a p v) p (v - (oQ σ b a v).toInt64) := by
  show (if _ then _ else _) = _
  rw [if_pos h, hb, ha]
theorem one_tn : ∀ {k : Nat} {σ : St} {p : Int32} {v : Int64}, stn σ ≤ stn (xOne k σ p v) := by
  intro k
  induction k with
  | zero => intro σ p v; exact Nat.le_refl _
  | succ k ih =>
    intro σ p v
    unfold xOne
    split
    · split
      · refine Nat.le_trans ?_ ih
        rw [dl_tn]; omega
      · exact Nat.le_refl _
    · exact Nat.le_refl _
end ONE
