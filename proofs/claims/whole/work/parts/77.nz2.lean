/-! Of an order that doesn't rest nothing is left: kept by clearing and by the start of going on -/
theorem rs_at {I J : Co} {x : Nat} (h : J 5 x = I 5 x) : rs J x = rs I x := by
  unfold rs
  rw [h]
theorem fin_nz {τ : St} {r : Nat} (hr : rs (sI τ) r = true) (h : rs (sI (xFin τ r)) r = false) : sI (xFin τ r) 3 r = 0 ∧ sI (xFin τ r) 4 r = 0 := by
  by_cases z : sI τ 3 r = 0
  · have hx : xFin τ r = xEnd τ r := if_pos z
    rw [hx]
    exact ⟨end_3, end_4⟩
  · have hx : xFin τ r = τ := if_neg z
    rw [hx, hr] at h
    cases h
theorem dl_nz {σ : St} {a b : Nat} {p : Int32} {v : Int64} (h : NZ σ) (rb : rs (sI σ) b = true) (ra : rs (sI σ) a = true) (hne : b ≠ a) : NZ (xDl σ b a p v) := by
  intro x hx hns
  rw [dl_sn] at hx
  have d5 : sI (xDeal σ b a p (oQ σ b a v)) 5 = sI σ 5 := deal_f (by decide) (by decide)
  by_cases za : x = a
  · subst za
    refine fin_nz ?_ hns
    rw [rs_at (fin_x (fun z => hne z.symm)), rs_at (congrFun d5 x)]
    exact ra
  · by_cases zb : x = b
    · subst zb
      have hns2 : rs (sI (xFin (xDeal σ x a p (oQ σ x a v)) x)) x = false := by
        rw [← hns]
        exact (rs_at (fin_x za)).symm
      have h9 := fin_nz (by rw [rs_at (congrFun d5 x)]; exact rb) hns2
      show sI (xFin (xFin (xDeal σ x a p (oQ σ x a v)) x) a) 3 x = 0 ∧ sI (xFin (xFin (xDeal σ x a p (oQ σ x a v)) x) a) 4 x = 0
      rw [fin_x za, fin_x za]
      exact h9
    · have cx : ∀ f, sI (xDl σ b a p v) f x = sI σ f x := fun f => by
        show sI (xFin (xFin (xDeal σ b a p (oQ σ b a v)) b) a) f x = _
        rw [fin_x za, fin_x zb]
        exact dI_o zb za
      rw [cx, cx]
      exact h x hx (by rw [← rs_at (cx 5)]; exact hns)
theorem one_nz : ∀ {k : Nat} {σ : St} {p : Int32} {v : Int64}, oOK (sI σ) (sn σ) → NZ σ → NZ (xOne k σ p v) := by
  intro k
  induction k with
  | zero => intro σ p v _ h; exact h
  | succ k ih =>
    intro σ p v hO h
    by_cases hv : 0 < v
    · rcases hb : fst (sI σ) 1 (sn σ) with _ | b
      · rw [xOne_nb hb]; exact h
      · rcases ha : fst (sI σ) 0 (sn σ) with _ | a
        · rw [xOne_na ha]; exact h
        · rw [xOne_go hv hb ha]
          obtain ⟨b1, b2, -⟩ := fst_some hO (Nat.le_refl _) hb
          obtain ⟨a1, a2, -⟩ := fst_some hO (Nat.le_refl _) ha
          obtain ⟨rb, sb1⟩ := onS_iff.mp b2
          obtain ⟨ra, sa1⟩ := onS_iff.mp a2
          have hne : b ≠ a := fun z => by rw [z, sa1] at sb1; exact absurd sb1 (by decide)
          exact ih (by rw [dl_sn]; exact dl_ok hO) (dl_nz h rb ra hne)
    · rw [xOne_no hv]; exact h
theorem start_nz {σ : St} {o : Nat} (h : NZ σ) : NZ (xStart σ o) := by
  unfold xStart
  split
  · exact h
  · split
    · exact end_nz (h.x o)
    · rename_i h5 _
      intro x hx hns
      rw [rs_at (congrFun (show_f (by decide)) x)] at hns
      by_cases z : x = o
      · subst z
        obtain ⟨-, h4⟩ := h x hx hns
        have h3 := (h x hx hns).1
        refine ⟨by rw [show_f (by decide)]; exact h3, ?_⟩
        rw [show_4]
        unfold shw
        rw [h3]
        split
        · rename_i hc
          have q1 := Int32.lt_iff_toInt_lt.mp hc.1
          have q2 := Int32.lt_iff_toInt_lt.mp hc.2
          omega
        · rfl
      · rw [show_x z, show_x z]
        exact h x hx hns
theorem sts_nz {σ : St} (h : NZ σ) : ∀ k, NZ (xSts σ k) := by
  intro k
  induction k with
  | zero => exact h
  | succ k ih => exact start_nz ih
