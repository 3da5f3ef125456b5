/-! Clearing: how many trades it may make -/
theorem slc_mono {a b k : Nat} (h : a ≤ b) : slc a k ≤ slc b k := by
  unfold slc
  exact Nat.div_le_div_right (by omega)
theorem phO_le {I J : Co} {o : Nat} (h3 : (J 3 o).toInt ≤ (I 3 o).toInt) (h4 : J 4 o = I 4 o) (h5 : J 5 o = I 5 o) (h8 : J 8 o = I 8 o) : phO J o ≤ phO I o := by
  unfold phO rs
  rw [h4, h5, h8]
  split
  · split
    · exact Nat.le_refl _
    · have := slc_mono (a := ((J 3 o).toInt - (I 4 o).toInt).toNat) (b := ((I 3 o).toInt - (I 4 o).toInt).toNat) (k := (I 8 o).toInt.toNat) (by omega)
      omega
  · exact Nat.le_refl _
theorem phS_le {I J : Co} : ∀ {n : Nat}, (∀ x, x < n → phO J x ≤ phO I x) → phS J n ≤ phS I n := by
  intro n
  induction n with
  | zero => intro _; exact Nat.le_refl _
  | succ n ih =>
    intro h
    show phS J n + phO J n ≤ phS I n + phO I n
    have h1 := ih (fun x hx => h x (by omega))
    have h2 := h n (by omega)
    omega
theorem phS_lt {I J : Co} {r : Nat} : ∀ {n : Nat}, r < n → (∀ x, x < n → phO J x ≤ phO I x) → phO J r + 1 ≤ phO I r → phS J n + 1 ≤ phS I n := by
  intro n
  induction n with
  | zero => intro h; omega
  | succ n ih =>
    intro h hx hr
    show phS J n + phO J n + 1 ≤ phS I n + phO I n
    by_cases e : r = n
    · subst e
      have := phS_le (I := I) (J := J) (n := r) (fun x hx2 => hx x (by omega))
      omega
    · have h1 := ih (by omega) (fun x hx2 => hx x (by omega)) hr
      have h2 := hx n (by omega)
      omega
section OPENS2
variable {σ : St} {a b : Nat} {p : Int32} {v : Int64}
theorem fin_ph {τ : St} {r x : Nat} : phO (sI (xFin τ r)) x ≤ phO (sI τ) x := by
  by_cases z : x = r
  · subst z
    unfold xFin
    split
    · rw [phO_no end_nr]; exact Nat.zero_le _
    · exact Nat.le_refl _
  · rw [phO_cols (fin_x z) (fin_x z) (fin_x z) (fin_x z)]
    exact Nat.le_refl _
theorem fin_ph0 {τ : St} {r : Nat} (h : sI τ 3 r = 0) : phO (sI (xFin τ r)) r = 0 := by
  unfold xFin
  rw [if_pos h]
  exact phO_no end_nr
theorem dl_phi (hw : ∀ o, o < sn σ → rs (sI σ) o = true → Rwk (sI σ) o) (hb : b < sn σ) (ha : a < sn σ) (rb : rs (sI σ) b = true) (ra : rs (sI σ) a = true) (hne : b ≠ a) (hv : 0 < v) :
    phS (sI (xDl σ b a p v)) (sn σ) + 1 ≤ phS (sI σ) (sn σ) ∨ (¬ 0 < v - (oQ σ b a v).toInt64 ∧ phS (sI (xDl σ b a p v)) (sn σ) ≤ phS (sI σ) (sn σ)) := by
  obtain ⟨b1, b2, b3⟩ := hw b hb rb
  obtain ⟨a1, a2, a3⟩ := hw a ha ra
  obtain ⟨q1, q2, q3⟩ := oQ_in (σ := σ) (v := v) b1 a1 hv
  have d3b : sI (xDeal σ b a p (oQ σ b a v)) 3 b = sI σ 3 b - oQ σ b a v := dI_3a hne
  have d3a : sI (xDeal σ b a p (oQ σ b a v)) 3 a = sI σ 3 a - oQ σ b a v := dI_3b hne
  have ib : (sI σ 3 b - oQ σ b a v).toInt = (sI σ 3 b).toInt - (oQ σ b a v).toInt := i_sub (by omega) (by omega)
  have ia : (sI σ 3 a - oQ σ b a v).toInt = (sI σ 3 a).toInt - (oQ σ b a v).toInt := i_sub (by omega) (by omega)
  have deal : ∀ x, phO (sI (xDeal σ b a p (oQ σ b a v))) x ≤ phO (sI σ) x := by
    intro x
    refine phO_le ?_ (congrFun (deal_f (by decide) (by decide)) x) (congrFun (deal_f (by decide) (by decide)) x) (congrFun (deal_f (by decide) (by decide)) x)
    by_cases xb : x = b
    · subst xb; rw [d3b, ib]; omega
    · by_cases xa : x = a
      · subst xa; rw [d3a, ia]; omega
      · rw [show sI (xDeal σ b a p (oQ σ b a v)) 3 x = sI σ 3 x from dI_o (I := sI σ) (a := b) (b := a) (f := 3) (q := oQ σ b a v) xb xa]; exact Int.le_refl _
  have all : ∀ x, phO (sI (xDl σ b a p v)) x ≤ phO (sI σ) x := fun x => Nat.le_trans fin_ph (Nat.le_trans fin_ph (deal x))
  have z0 : ∀ x : Int32, x.toInt = 0 → x = 0 := fun x h => Int32.toInt_inj.mp (h.trans i0.symm)
  by_cases eb : (oQ σ b a v).toInt = (sI σ 3 b).toInt
  · left
    refine phS_lt hb (fun x _ => all x) ?_
    have h0 : phO (sI (xFin (xDeal σ b a p (oQ σ b a v)) b)) b = 0 := fin_ph0 (by rw [d3b]; exact z0 _ (by omega))
    have h1 : phO (sI (xDl σ b a p v)) b ≤ phO (sI (xFin (xDeal σ b a p (oQ σ b a v)) b)) b := fin_ph
    have h2 := phO_pos rb
    omega
  · by_cases ea : (oQ σ b a v).toInt = (sI σ 3 a).toInt
    · left
      refine phS_lt ha (fun x _ => all x) ?_
      have h0 : phO (sI (xDl σ b a p v)) a = 0 := fin_ph0 (by rw [fin_x (fun z => hne z.symm), d3a]; exact z0 _ (by omega))
      have h2 := phO_pos ra
      omega
    · right
      refine ⟨?_, phS_le (fun x _ => all x)⟩
      have hm := mn_int (sI σ 3 b) (sI σ 3 a)
      have hq : (oQ σ b a v).toInt64 = v := by
        unfold oQ at *
        split at q1
        · rename_i h
          rw [if_pos h, Int32.toInt32_toInt64, hm] at eb ea
          split at eb <;> split at ea <;> omega
        · rename_i h
          rw [if_neg h]
          have h9 := Int64.le_iff_toInt_le.mp (Int64.not_lt.mp h)
          rw [Int32.toInt_toInt64] at h9
          have hlt : (mn (sI σ 3 b) (sI σ 3 a)).toInt < 2 ^ 31 := Int32.toInt_lt _
          have hv' : 0 < v.toInt := by
            have h8 := Int64.lt_iff_toInt_lt.mp hv
            rw [show (0 : Int64).toInt = 0 by decide] at h8
            exact h8
          apply Int64.toInt_inj.mp
          rw [Int32.toInt_toInt64, Int64.toInt_toInt32, Int.bmod_eq_of_le (by omega) (by omega)]
      rw [hq, Int64.sub_self]
      decide
end OPENS2
theorem one_phi : ∀ {k : Nat} {σ : St} {p : Int32} {v : Int64}, oOK (sI σ) (sn σ) → (∀ o, o < sn σ → rs (sI σ) o = true → Rwk (sI σ) o) → stn (xOne k σ p v) + phS (sI (xOne k σ p v)) (sn σ) ≤ stn σ + phS (sI σ) (sn σ) + 1 := by
  intro k
  induction k with
  | zero => intro σ p v _ _; show stn σ + phS (sI σ) (sn σ) ≤ _; omega
  | succ k ih =>
    intro σ p v hO hw
    by_cases hv : 0 < v
    · rcases hb : fst (sI σ) 1 (sn σ) with _ | b
      · rw [xOne_nb hb]; omega
      · rcases ha : fst (sI σ) 0 (sn σ) with _ | a
        · rw [xOne_na ha]; omega
        · rw [xOne_go hv hb ha]
          obtain ⟨b1, b2, -⟩ := fst_some hO (Nat.le_refl _) hb
          obtain ⟨a1, a2, -⟩ := fst_some hO (Nat.le_refl _) ha
          obtain ⟨rb, sb1⟩ := onS_iff.mp b2
          obtain ⟨ra, sa1⟩ := onS_iff.mp a2
          have hne : b ≠ a := fun z => by rw [z, sa1] at sb1; exact absurd sb1 (by decide)
          have h1 := dl_rw (p := p) hw b1 a1 rb ra hne hv
          rcases dl_phi (p := p) hw b1 a1 rb ra hne hv with h9 | ⟨h8, h9⟩
          · have h2 := ih (σ := xDl σ b a p v) (p := p) (v := v - (oQ σ b a v).toInt64) (by rw [dl_sn]; exact dl_ok hO) (by rw [dl_sn]; exact h1)
            rw [dl_sn, dl_tn] at h2
            omega
          · have hx : xOne k (xDl σ b a p v) p (v - (oQ σ b a v).toInt64) = xDl σ b a p v := by
              cases k with
              | zero => rfl
              | succ k => exact xOne_no h8
            rw [hx, dl_tn]
            omega
    · rw [xOne_no hv]; omega
