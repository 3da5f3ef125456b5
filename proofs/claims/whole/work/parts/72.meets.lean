/-! Meeting others: what holds behind it, and how many trades it makes -/
theorem ins_ex (K : List Nat) (P : Nat → Bool) : ∃ k, k ≤ K.length ∧ (∀ x, x ∈ K.drop k → P x = true) ∧ (∀ x, K[k - 1]? = some x → 0 < k → P x = false) := by
  have go : ∀ d, d ≤ K.length → (∀ x, x ∈ K.drop d → P x = true) → ∃ k, k ≤ K.length ∧ (∀ x, x ∈ K.drop k → P x = true) ∧ (∀ x, K[k - 1]? = some x → 0 < k → P x = false) := by
    intro d
    induction d with
    | zero => intro h1 h2; exact ⟨0, h1, h2, fun x _ h => absurd h (Nat.lt_irrefl 0)⟩
    | succ d ih =>
      intro h1 h2
      have hd : d < K.length := by omega
      cases hP : P K[d] with
      | false =>
        refine ⟨d + 1, h1, h2, fun x hx _ => ?_⟩
        rw [Nat.add_sub_cancel, List.getElem?_eq_getElem hd] at hx
        cases hx
        exact hP
      | true =>
        refine ih (by omega) (fun x hx => ?_)
        rw [drop_at hd] at hx
        rcases List.mem_cons.mp hx with e | e
        · rw [e]; exact hP
        · exact h2 x e
  exact go K.length (Nat.le_refl _) (fun x hx => by rw [List.drop_length] at hx; cases hx)
section MEETS
variable {o : Nat}
theorem hit_all {σ : St} {L : Nat → List Nat} {r : Nat} (hI : Inv0 σ) (hL : LN σ L) (ho : o < sn σ) (h5 : sI σ 5 o = -1) (hl : 1 ≤ (sI σ 3 o).toInt) (hf : fst (sI σ) (opp (sI σ 1 o)) (sn σ) = some r) (hrk : (srk σ).toInt ≤ 1000000000) : o ≠ r ∧ r < sn σ ∧ rs (sI σ) r = true ∧ ∃ L', Inv0 (xHit σ o r) ∧ LN (xHit σ o r) L' := by
  obtain ⟨hr, hs, hsd⟩ := fst_on hI.b hL (opp_or _) hf
  have hor : o ≠ r := fun z => opp_ne (hI.2.1.1 o ho).2.2 (by rw [← hsd, ← z])
  refine ⟨hor, hr, hs, ?_⟩
  obtain ⟨hIX, hLX⟩ := hit_inv (r := r) hI hL h5
  have hside : sI (xHit0 σ o r) 1 r = sI σ 1 r := congrFun (hit_f (by decide) (by decide) (by decide)) r
  have hLj : Line (sI σ) (sn σ) (opp (sI σ 1 o)) (L (sj (opp (sI σ 1 o)))) := sj_val (opp_or _) hL
  have hk0 : (L (sj (sI (xHit0 σ o r) 1 r)))[0]? = some r := by
    rw [hside, hsd, ← List.head?_eq_getElem?, ← hLj.hd hI.2.1]
    exact hf
  by_cases h3 : sI (xHit0 σ o r) 3 r = 0
  · have hx : xHit σ o r = xEnd (xHit0 σ o r) r := by unfold xHit; rw [if_pos h3]
    rw [hx]
    exact ⟨_, LN.ende hIX hLX hr hk0⟩
  · by_cases h4 : sI (xHit0 σ o r) 4 r = 0
    · have hx : xHit σ o r = xRest (xHit0 σ o r) r := by unfold xHit; rw [if_neg h3, if_pos h4]
      obtain ⟨hI3, hL3⟩ := LN.out hIX hLX hr hk0
      have hr3 : sI (xOut (xHit0 σ o r) r) 5 r = -1 := s1_ss (sI (xHit0 σ o r)) 5 r (-1)
      obtain ⟨-, e1, e2, e3⟩ := hit_left hI hr hor hs hl h3
      obtain ⟨k, k1, k2, k3⟩ := ins_ex ((fun k' => if k' = sj (sI (xHit0 σ o r) 1 r) then (L (sj (sI (xHit0 σ o r) 1 r))).eraseIdx 0 else L k') (sj (sI (xOut (xHit0 σ o r) r) 1 r))) (fun x => sb (s1 (s1 (sI (xOut (xHit0 σ o r) r)) 4 r (shw (sI (xOut (xHit0 σ o r) r)) r)) 5 r (srk (xOut (xHit0 σ o r) r))) r x)
      have h9 := LN.rest hI3 hL3 hr hr3 (show (srk σ).toInt ≤ 2000000000 by omega) e1 e2 e3 k1 k2 k3
      rw [xRest_out, ← hx] at h9
      exact ⟨_, h9⟩
    · have hx : xHit σ o r = xHit0 σ o r := by unfold xHit; rw [if_neg h3, if_neg h4]
      rw [hx]
      exact ⟨L, hIX.of (fun _ => hit_rok hI hr hor hs hl h3 h4), hLX⟩
/-- the trades of one that comes are paid for, but for one -/
theorem meet_phi : ∀ {k : Nat} {σ : St} {L : Nat → List Nat}, Inv0 σ → LN σ L → o < sn σ → sI σ 5 o = -1 → 0 ≤ (sI σ 3 o).toInt → (srk σ).toInt + k ≤ 1000000000 → stn (xMeet k σ o) + phS (sI (xMeet k σ o)) (sn σ) ≤ stn σ + phS (sI σ) (sn σ) + 1 := by
  intro k
  induction k with
  | zero => intro σ L _ _ _ _ _ _; show stn σ + phS (sI σ) (sn σ) ≤ _; omega
  | succ k ih =>
    intro σ L hI hL ho h5 hl hrk
    by_cases hpos : 0 < sI σ 3 o
    · have hl1 : 1 ≤ (sI σ 3 o).toInt := by
        have h9 := Int32.lt_iff_toInt_lt.mp hpos
        rw [i0] at h9
        omega
      rcases hf : fst (sI σ) (opp (sI σ 1 o)) (sn σ) with _ | r
      · rw [xMeet_nil hpos hf]; omega
      · cases ht : tk (sI σ) o (sI σ 2 r) with
        | false => rw [xMeet_nt hpos hf ht]; omega
        | true =>
          cases hb : byc (srf σ) (sbd σ) (sI σ 2 r) with
          | true =>
            rw [xMeet_by hpos hf ht hb]
            show stn σ + phS (sI σ) (sn σ) ≤ _
            omega
          | false =>
            rw [xMeet_go hpos hf ht hb]
            obtain ⟨hor, hr, hs, L', hI', hL'⟩ := hit_all hI hL ho h5 hl1 hf (by omega)
            obtain ⟨q1, q2, q3, q4, -⟩ := hit_q (o := o) hI hr hs hl1
            have hlt : (sI σ 3 o).toInt < 2 ^ 31 := Int32.toInt_lt _
            have e3 : (sI (xHit σ o r) 3 o).toInt = (sI σ 3 o).toInt - (hQ σ o r).toInt := by rw [hit_o3 hor]; exact i_sub (by omega) (by omega)
            rcases hit_phi hI hr ho hor h5 hs hl1 with h9 | ⟨h8, h9⟩
            · have hr2 : (srk (xHit σ o r)).toInt ≤ (srk σ).toInt + 1 := by
                have hrk0 := hI.2.2.2.1
                rcases (hit_p4 (σ := σ) (o := o) (r := r)).2.2.2 with e | e
                · rw [e]; omega
                · rw [e, i_add (by rw [i_1]; omega) (by rw [i_1]; omega), i_1]; omega
              have h7 := ih (σ := xHit σ o r) hI' hL' (by rw [hit_sn]; exact ho) (by rw [hit_o5 hor]; exact h5) (by omega) (by omega)
              rw [hit_sn, hit_tn] at h7
              omega
            · have hz : ¬ 0 < sI (xHit σ o r) 3 o := fun z => by
                have := Int32.lt_iff_toInt_lt.mp z
                rw [i0] at this
                omega
              have hx : xMeet k (xHit σ o r) o = xHit σ o r := by
                cases k with
                | zero => rfl
                | succ k => exact xMeet_no hz
              rw [hx, hit_tn]
              omega
    · rw [xMeet_no hpos]; omega
end MEETS
