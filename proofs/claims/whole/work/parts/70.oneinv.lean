/-! Trading at one price leaves of each order that rests something, and no more than was there -/
theorem oOK.ende {σ : St} {r n : Nat} (h : oOK (sI σ) n) : oOK (sI (xEnd σ r)) n := by
  refine ⟨fun o ho => by rw [end_f (f := 2) (by decide) (by decide) (by decide), end_f (f := 1) (by decide) (by decide) (by decide)]; exact h.1 o ho, fun a b ha hb ra rb e => ?_⟩
  have za : a ≠ r := fun z => by rw [z, end_nr] at ra; cases ra
  have zb : b ≠ r := fun z => by rw [z, end_nr] at rb; cases rb
  rw [rs_iff, end_x za] at ra
  rw [rs_iff, end_x zb] at rb
  rw [end_x za, end_x zb] at e
  exact h.2 a b ha hb (rs_iff.mpr ra) (rs_iff.mpr rb) e
theorem oOK.fin {σ : St} {r n : Nat} (h : oOK (sI σ) n) : oOK (sI (xFin σ r)) n := by
  unfold xFin
  split
  · exact h.ende
  · exact h
theorem fin_x {σ : St} {r x f : Nat} (h : x ≠ r) : sI (xFin σ r) f x = sI σ f x := by
  unfold xFin
  split
  · exact end_x h
  · rfl
/-- who rests behind it had something left, and still has -/
theorem fin_rs {σ : St} {r : Nat} (h : rs (sI (xFin σ r)) r = true) : xFin σ r = σ ∧ ¬ sI σ 3 r = 0 := by
  unfold xFin at *
  by_cases z : sI σ 3 r = 0
  · rw [if_pos z, end_nr] at h; cases h
  · exact ⟨if_neg z, z⟩
section ONEINV
variable {σ : St} {a b : Nat} {p : Int32} {v : Int64}
theorem oQ_in (hb : 1 ≤ (sI σ 3 b).toInt) (ha : 1 ≤ (sI σ 3 a).toInt) (hv : 0 < v) : 1 ≤ (oQ σ b a v).toInt ∧ (oQ σ b a v).toInt ≤ (sI σ 3 b).toInt ∧ (oQ σ b a v).toInt ≤ (sI σ 3 a).toInt := by
  have hm := mn_int (sI σ 3 b) (sI σ 3 a)
  have hlt : (mn (sI σ 3 b) (sI σ 3 a)).toInt < 2 ^ 31 := Int32.toInt_lt _
  have hv' : 0 < v.toInt := by
    have h9 := Int64.lt_iff_toInt_lt.mp hv
    rw [show (0 : Int64).toInt = 0 by decide] at h9
    exact h9
  unfold oQ
  split
  · rw [Int32.toInt32_toInt64, hm]
    split <;> omega
  · rename_i h
    have h9 := Int64.le_iff_toInt_le.mp (Int64.not_lt.mp h)
    rw [Int32.toInt_toInt64] at h9
    rw [Int64.toInt_toInt32, Int.bmod_eq_of_le (by omega) (by omega)]
    rw [hm] at h9
    split at h9 <;> omega
theorem dl_ok {n : Nat} (h : oOK (sI σ) n) : oOK (sI (xDl σ b a p v)) n := ((h.cols (J := sI (xDeal σ b a p (oQ σ b a v))) (deal_f (by decide) (by decide)) (deal_f (by decide) (by decide)) (deal_f (by decide) (by decide))).fin).fin
theorem dl_rw (hw : ∀ o, o < sn σ → rs (sI σ) o = true → Rwk (sI σ) o) (hb : b < sn σ) (ha : a < sn σ) (rb : rs (sI σ) b = true) (ra : rs (sI σ) a = true) (hne : b ≠ a) (hv : 0 < v) : ∀ o, o < sn σ → rs (sI (xDl σ b a p v)) o = true → Rwk (sI (xDl σ b a p v)) o := by
  intro o ho hs
  obtain ⟨b1, b2, b3⟩ := hw b hb rb
  obtain ⟨a1, a2, a3⟩ := hw a ha ra
  obtain ⟨q1, q2, q3⟩ := oQ_in (σ := σ) (v := v) b1 a1 hv
  have h8 : sI (xDl σ b a p v) 8 = sI σ 8 := dl_f (by decide) (by decide) (by decide) (by decide)
  have d3b : sI (xDeal σ b a p (oQ σ b a v)) 3 b = sI σ 3 b - oQ σ b a v := dI_3a hne
  have d3a : sI (xDeal σ b a p (oQ σ b a v)) 3 a = sI σ 3 a - oQ σ b a v := dI_3b hne
  by_cases za : o = a
  · subst za
    obtain ⟨e1, e2⟩ := fin_rs hs
    have e3 : sI (xDl σ b o p v) 3 o = sI σ 3 o - oQ σ b o v := by
      show sI (xFin (xFin (xDeal σ b o p (oQ σ b o v)) b) o) 3 o = _
      rw [e1, fin_x (fun z => hne z.symm), d3a]
    rw [fin_x (fun z => hne z.symm), d3a] at e2
    have e4 : (sI σ 3 o - oQ σ b o v).toInt = (sI σ 3 o).toInt - (oQ σ b o v).toInt := i_sub (by omega) (by omega)
    have e5 : (sI σ 3 o - oQ σ b o v).toInt ≠ 0 := fun z => e2 (Int32.toInt_inj.mp (z.trans i0.symm))
    unfold Rwk
    rw [e3, h8, e4]
    exact ⟨by omega, by omega, fun z => by have := a3 z; omega⟩
  · by_cases zb : o = b
    · subst zb
      have hs2 : rs (sI (xFin (xDeal σ o a p (oQ σ o a v)) o)) o = true := by
        rw [rs_iff] at *
        rw [show sI (xDl σ o a p v) 5 o = sI (xFin (xDeal σ o a p (oQ σ o a v)) o) 5 o from fin_x za] at hs
        exact hs
      obtain ⟨e1, e2⟩ := fin_rs hs2
      have e3 : sI (xDl σ o a p v) 3 o = sI σ 3 o - oQ σ o a v := by
        show sI (xFin (xFin (xDeal σ o a p (oQ σ o a v)) o) a) 3 o = _
        rw [fin_x za, e1, d3b]
      rw [d3b] at e2
      have e4 : (sI σ 3 o - oQ σ o a v).toInt = (sI σ 3 o).toInt - (oQ σ o a v).toInt := i_sub (by omega) (by omega)
      have e5 : (sI σ 3 o - oQ σ o a v).toInt ≠ 0 := fun z => e2 (Int32.toInt_inj.mp (z.trans i0.symm))
      unfold Rwk
      rw [e3, h8, e4]
      exact ⟨by omega, by omega, fun z => by have := b3 z; omega⟩
    · have cx : ∀ f, sI (xDl σ b a p v) f o = sI σ f o := fun f => by
        show sI (xFin (xFin (xDeal σ b a p (oQ σ b a v)) b) a) f o = _
        rw [fin_x za, fin_x zb]
        exact dI_o zb za
      have hs2 : rs (sI σ) o = true := by rw [rs_iff] at *; rw [cx] at hs; exact hs
      have h9 := hw o ho hs2
      unfold Rwk at *
      rw [cx, cx]
      exact h9
end ONEINV
theorem one_rw : ∀ {k : Nat} {σ : St} {p : Int32} {v : Int64}, oOK (sI σ) (sn σ) → (∀ o, o < sn σ → rs (sI σ) o = true → Rwk (sI σ) o) → ∀ o, o < sn σ → rs (sI (xOne k σ p v)) o = true → Rwk (sI (xOne k σ p v)) o := by
  intro k
  induction k with
  | zero => intro σ p v _ hw; exact hw
  | succ k ih =>
    intro σ p v hO hw
    by_cases hv : 0 < v
    · rcases hb : fst (sI σ) 1 (sn σ) with _ | b
      · rw [xOne_nb hb]; exact hw
      · rcases ha : fst (sI σ) 0 (sn σ) with _ | a
        · rw [xOne_na ha]; exact hw
        · rw [xOne_go hv hb ha]
          obtain ⟨b1, b2, -⟩ := fst_some hO (Nat.le_refl _) hb
          obtain ⟨a1, a2, -⟩ := fst_some hO (Nat.le_refl _) ha
          obtain ⟨rb, sb1⟩ := onS_iff.mp b2
          obtain ⟨ra, sa1⟩ := onS_iff.mp a2
          have hne : b ≠ a := fun z => by rw [z, sa1] at sb1; exact absurd sb1 (by decide)
          have h1 := dl_rw (p := p) hw b1 a1 rb ra hne hv
          have h2 := ih (σ := xDl σ b a p v) (p := p) (v := v - (oQ σ b a v).toInt64) (by rw [dl_sn]; exact dl_ok hO) (by rw [dl_sn]; exact h1)
          rw [dl_sn] at h2
          exact h2
    · rw [xOne_no hv]; exact hw
