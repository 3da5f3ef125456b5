/-! Of an order that doesn't rest nothing is left: kept when one comes -/
def NZx (σ : St) (o : Nat) : Prop := ∀ x, x < sn σ → x ≠ o → rs (sI σ) x = false → sI σ 3 x = 0 ∧ sI σ 4 x = 0
theorem NZ.x {σ : St} (h : NZ σ) (o : Nat) : NZx σ o := fun x hx _ hs => h x hx hs
theorem rest_rs {τ : St} {o : Nat} (h : 0 ≤ (srk τ).toInt) : rs (sI (xRest τ o)) o = true := by
  rw [rs_iff]
  have e : sI (xRest τ o) 5 o = srk τ := by
    show s1 (s1 (sI τ) 5 o (srk τ)) 4 o (shw (sI τ) o) 5 o = _
    rw [s1_f (f' := 5) (f := 4) (by decide), s1_ss]
  rw [e]
  exact h
theorem hit_nz {σ : St} {o r : Nat} (hI : Inv0 σ) (hs : rs (sI σ) r = true) (h : NZx σ o) : NZx (xHit σ o r) o := by
  intro x hx hxo hns
  rw [hit_sn] at hx
  by_cases zr : x = r
  · subst zr
    by_cases h3 : sI (xHit0 σ o x) 3 x = 0
    · have hX : xHit σ o x = xEnd (xHit0 σ o x) x := by unfold xHit; rw [if_pos h3]
      rw [hX]
      exact ⟨end_3, end_4⟩
    · by_cases h4 : sI (xHit0 σ o x) 4 x = 0
      · have hX : xHit σ o x = xRest (xHit0 σ o x) x := by unfold xHit; rw [if_neg h3, if_pos h4]
        rw [hX, rest_rs (τ := xHit0 σ o x) (o := x) (show 0 ≤ (srk σ).toInt from hI.2.2.2.1)] at hns
        cases hns
      · have hX : xHit σ o x = xHit0 σ o x := by unfold xHit; rw [if_neg h3, if_neg h4]
        rw [hX] at hns
        have e5 : sI (xHit0 σ o x) 5 x = sI σ 5 x := congrFun (hit_f (by decide) (by decide) (by decide)) x
        unfold rs at hs hns
        rw [e5, hs] at hns
        cases hns
  · have c : ∀ f, sI (xHit σ o r) f x = sI σ f x := fun f => by rw [hit_at zr]; exact hit_x hxo zr
    rw [c, c]
    refine h x hx hxo ?_
    unfold rs at *
    rw [c] at hns
    exact hns
theorem meet_nz {o : Nat} : ∀ {k : Nat} {σ : St} {L : Nat → List Nat}, Inv0 σ → LN σ L → o < sn σ → sI σ 5 o = -1 → 0 ≤ (sI σ 3 o).toInt → (srk σ).toInt + k ≤ 1000000000 → NZx σ o → NZx (xMeet k σ o) o := by
  intro k
  induction k with
  | zero => intro σ L _ _ _ _ _ _ h; exact h
  | succ k ih =>
    intro σ L hI hL ho h5 hl hrk h
    by_cases hpos : 0 < sI σ 3 o
    · have hl1 : 1 ≤ (sI σ 3 o).toInt := by
        have h9 := Int32.lt_iff_toInt_lt.mp hpos
        rw [i0] at h9
        omega
      rcases hf : fst (sI σ) (opp (sI σ 1 o)) (sn σ) with _ | r
      · rw [xMeet_nil hpos hf]; exact h
      · cases ht : tk (sI σ) o (sI σ 2 r) with
        | false => rw [xMeet_nt hpos hf ht]; exact h
        | true =>
          cases hb : byc (srf σ) (sbd σ) (sI σ 2 r) with
          | true => rw [xMeet_by hpos hf ht hb]; exact h
          | false =>
            rw [xMeet_go hpos hf ht hb]
            obtain ⟨hor, hr, hs, L', hI', hL'⟩ := hit_all hI hL ho h5 hl1 hf (by omega)
            obtain ⟨q1, q2, q3, q4, -⟩ := hit_q (o := o) hI hr hs hl1
            have hlt : (sI σ 3 o).toInt < 2 ^ 31 := Int32.toInt_lt _
            have e3 : (sI (xHit σ o r) 3 o).toInt = (sI σ 3 o).toInt - (hQ σ o r).toInt := by rw [hit_o3 hor]; exact i_sub (by omega) (by omega)
            have hr2 : (srk (xHit σ o r)).toInt ≤ (srk σ).toInt + 1 := by
              have hrk0 := hI.2.2.2.1
              rcases (hit_p4 (σ := σ) (o := o) (r := r)).2.2.2 with e | e
              · rw [e]; omega
              · rw [e, i_add (by rw [i_1]; omega) (by rw [i_1]; omega), i_1]; omega
            exact ih (σ := xHit σ o r) hI' hL' (by rw [hit_sn]; exact ho) (by rw [hit_o5 hor]; exact h5) (by omega) (by omega) (hit_nz hI hs h)
    · rw [xMeet_no hpos]; exact h
theorem rest_nz {τ : St} {o : Nat} (hk : 0 ≤ (srk τ).toInt) (h : NZx τ o) : NZ (xRest τ o) := by
  intro x hx hns
  by_cases z : x = o
  · rw [z, rest_rs hk] at hns; cases hns
  · rw [rest_x z, rest_x z]
    refine h x hx z ?_
    unfold rs at *
    rw [rest_x z] at hns
    exact hns
theorem end_nz {τ : St} {o : Nat} (h : NZx τ o) : NZ (xEnd τ o) := by
  intro x hx hns
  by_cases z : x = o
  · rw [z]; exact ⟨end_3, end_4⟩
  · rw [end_x z, end_x z]
    refine h x hx z ?_
    unfold rs at *
    rw [end_x z] at hns
    exact hns
theorem come_nz {σ : St} {L : Nat → List Nat} {o : Nat} {g : Bool} (hI : Inv0 σ) (hL : LN σ L) (ho : o < sn σ) (h5 : sI σ 5 o = -1) (hl : 0 ≤ (sI σ 3 o).toInt) (hrk : (srk σ).toInt ≤ 500000000) (h : NZx σ o) : NZ (xCome g σ o) := by
  have tail : ∀ τ : St, 0 ≤ (srk τ).toInt → NZx τ o → NZ (xTail τ o) := by
    intro τ hk hx
    unfold xTail
    split
    · exact rest_nz hk hx
    · exact end_nz hx
  unfold xCome
  split
  · split
    · exact tail σ hI.2.2.2.1 h
    · obtain ⟨⟨L', hI', -⟩, -⟩ := meet_all (k := 100000) hI hL ho h5 hl (by omega)
      exact tail _ hI'.2.2.2.1 (meet_nz (k := 100000) hI hL ho h5 hl (by omega) h)
  · exact rest_nz hI.2.2.2.1 h
