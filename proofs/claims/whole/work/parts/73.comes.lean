/-! An order comes: how many trades that may make -/
theorem meet_all {o : Nat} : ∀ {k : Nat} {σ : St} {L : Nat → List Nat}, Inv0 σ → LN σ L → o < sn σ → sI σ 5 o = -1 → 0 ≤ (sI σ 3 o).toInt → (srk σ).toInt + k ≤ 1000000000 → (∃ L', Inv0 (xMeet k σ o) ∧ LN (xMeet k σ o) L') ∧ sn (xMeet k σ o) = sn σ ∧ (∀ f, f ≠ 3 → f ≠ 4 → f ≠ 7 → sI (xMeet k σ o) f o = sI σ f o) ∧ 0 ≤ (sI (xMeet k σ o) 3 o).toInt ∧ (sI (xMeet k σ o) 3 o).toInt ≤ (sI σ 3 o).toInt := by
  intro k
  induction k with
  | zero => intro σ L hI hL _ _ hl _; exact ⟨⟨L, hI, hL⟩, rfl, fun _ _ _ _ => rfl, hl, Int.le_refl _⟩
  | succ k ih =>
    intro σ L hI hL ho h5 hl hrk
    by_cases hpos : 0 < sI σ 3 o
    · have hl1 : 1 ≤ (sI σ 3 o).toInt := by
        have h9 := Int32.lt_iff_toInt_lt.mp hpos
        rw [i0] at h9
        omega
      rcases hf : fst (sI σ) (opp (sI σ 1 o)) (sn σ) with _ | r
      · rw [xMeet_nil hpos hf]; exact ⟨⟨L, hI, hL⟩, rfl, fun _ _ _ _ => rfl, hl, Int.le_refl _⟩
      · cases ht : tk (sI σ) o (sI σ 2 r) with
        | false => rw [xMeet_nt hpos hf ht]; exact ⟨⟨L, hI, hL⟩, rfl, fun _ _ _ _ => rfl, hl, Int.le_refl _⟩
        | true =>
          cases hb : byc (srf σ) (sbd σ) (sI σ 2 r) with
          | true => rw [xMeet_by hpos hf ht hb]; exact ⟨⟨L, hI, hL⟩, rfl, fun _ _ _ _ => rfl, hl, Int.le_refl _⟩
          | false =>
            rw [xMeet_go hpos hf ht hb]
            obtain ⟨hor, hr, hs, L', hI', hL'⟩ := hit_all hI hL ho h5 hl1 hf (by omega)
            obtain ⟨q1, q2, q3, q4, -⟩ := hit_q (o := o) hI hr hs hl1
            have hlt : (sI σ 3 o).toInt < 2 ^ 31 := Int32.toInt_lt _
            have e3 : (sI (xHit σ o r) 3 o).toInt = (sI σ 3 o).toInt - (hQ σ o r).toInt := by rw [hit_o3 hor]; exact i_sub (by omega) (by omega)
            have hr2 : (srk (xHit σ o r)).toInt ≤ (srk σ).toInt + 1 := by
              have hrk0 := hI.2.2.2.1
              rcases (hit_p4 (σ := σ) (o := o) (r := r)).2.2.2 with e | e
              · rw [e]; omega
              · rw [e, i_add (by rw [i_1]; omega) (by rw [i_1]; omega), i_1]; omega
            obtain ⟨j1, j2, j3, j4, j5⟩ := ih (σ := xHit σ o r) hI' hL' (by rw [hit_sn]; exact ho) (by rw [hit_o5 hor]; exact h5) (by omega) (by omega)
            exact ⟨j1, j2.trans hit_sn, fun f h3 h4 h7 => (j3 f h3 h4 h7).trans (hit_oc hor h3 h4 h7), j4, by omega⟩
    · rw [xMeet_no hpos]; exact ⟨⟨L, hI, hL⟩, rfl, fun _ _ _ _ => rfl, hl, Int.le_refl _⟩
theorem rs_m1 {I : Co} {o : Nat} (h : I 5 o = -1) : rs I o = false := by
  cases h9 : rs I o with
  | false => rfl
  | true => rw [rs_iff, h, i_m1] at h9; omega
/-- one that comes to rest brings at most 50 -/
theorem rest_phi {τ : St} {o : Nat} (ho : o < sn τ) (h5 : sI τ 5 o = -1) (hp : 0 ≤ (sI τ 8 o).toInt) (hl : 0 ≤ (sI τ 3 o).toInt) (h50 : 0 < (sI τ 8 o).toInt → (sI τ 3 o).toInt ≤ 50 * (sI τ 8 o).toInt) : phS (sI (xRest τ o)) (sn τ) ≤ phS (sI τ) (sn τ) + 50 := by
  have key := phS_at (I := sI τ) (J := sI (xRest τ o)) ho (fun x _ hne => phO_cols (rest_x hne) (rest_x hne) (rest_x hne) (rest_x hne))
  rw [phO_no (rs_m1 h5)] at key
  have : phO (sI (xRest τ o)) o ≤ 50 := by
    unfold phO
    rw [rest_4, rest_f (f := 3) (by decide) (by decide), rest_f (f := 8) (by decide) (by decide), shw_int hp]
    split
    · split
      · omega
      · rename_i h8
        have hk : 0 < (sI τ 8 o).toInt := by omega
        have h9 := h50 hk
        split
        · rename_i hlt
          have h7 := slc_go (a := (sI τ 3 o).toInt.toNat) (k := (sI τ 8 o).toInt.toNat) (by omega) (by omega)
          have h6 := slc_50 (a := (sI τ 3 o).toInt.toNat) (k := (sI τ 8 o).toInt.toNat) (by omega) (by omega)
          rw [show ((sI τ 3 o).toInt - (sI τ 8 o).toInt).toNat = (sI τ 3 o).toInt.toNat - (sI τ 8 o).toInt.toNat by omega]
          omega
        · rw [show ((sI τ 3 o).toInt - (sI τ 3 o).toInt).toNat = 0 by omega, slc_0 (by omega)]
          omega
    · omega
  omega
theorem end_phi {τ : St} {o : Nat} (ho : o < sn τ) : phS (sI (xEnd τ o)) (sn τ) ≤ phS (sI τ) (sn τ) := by
  have key := phS_at (I := sI τ) (J := sI (xEnd τ o)) ho (fun x _ hne => phO_cols (end_x hne) (end_x hne) (end_x hne) (end_x hne))
  rw [phO_no end_nr] at key
  omega
theorem tail_phi {τ : St} {o : Nat} (ho : o < sn τ) (h5 : sI τ 5 o = -1) (hp : 0 ≤ (sI τ 8 o).toInt) (hl : 0 ≤ (sI τ 3 o).toInt) (h50 : 0 < (sI τ 8 o).toInt → (sI τ 3 o).toInt ≤ 50 * (sI τ 8 o).toInt) : stn (xTail τ o) + phS (sI (xTail τ o)) (sn τ) ≤ stn τ + phS (sI τ) (sn τ) + 50 := by
  rw [tail_tn]
  unfold xTail
  split
  · have := rest_phi ho h5 hp hl h50
    omega
  · have := end_phi (τ := τ) ho
    omega
/-- a call that lets an order come makes at most 51 trades that are not paid for -/
theorem come_phi {σ : St} {L : Nat → List Nat} {o : Nat} {g : Bool} (hI : Inv0 σ) (hL : LN σ L) (ho : o < sn σ) (h5 : sI σ 5 o = -1) (hl : 0 ≤ (sI σ 3 o).toInt) (h50 : 0 < (sI σ 8 o).toInt → (sI σ 3 o).toInt ≤ 50 * (sI σ 8 o).toInt) (hrk : (srk σ).toInt ≤ 500000000) : stn (xCome g σ o) + phS (sI (xCome g σ o)) (sn σ) ≤ stn σ + phS (sI σ) (sn σ) + 51 := by
  have hp := (hI.2.2.1 o ho).1
  unfold xCome
  split
  · split
    · have := tail_phi ho h5 hp hl h50
      omega
    · obtain ⟨-, e2, e3, e4, e5⟩ := meet_all (k := 100000) hI hL ho h5 hl (by omega)
      have m1 := meet_phi (k := 100000) hI hL ho h5 hl (by omega)
      have e8 := e3 8 (by decide) (by decide) (by decide)
      have t1 := tail_phi (τ := xMeet 100000 σ o) (o := o) (by rw [e2]; exact ho) ((e3 5 (by decide) (by decide) (by decide)).trans h5) (by rw [e8]; exact hp) e4 (by rw [e8]; intro z; have := h50 z; omega)
      rw [e2] at t1
      omega
  · have := rest_phi ho h5 hp hl h50
    show stn σ + phS (sI (xRest σ o)) (sn σ) ≤ _
    omega
