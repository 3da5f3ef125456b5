/-! No two that rest could trade: kept when one comes -/
def NM (σ : St) : Prop := sph σ = 1 → ∀ o, o < sn σ → rs (sI σ) o = true → ¬ sI σ 2 o = 0
theorem tk_at {I J : Co} {a : Nat} {p : Int32} (h1 : J 1 a = I 1 a) (h2 : J 2 a = I 2 a) : tk J a p = tk I a p := by
  unfold tk
  rw [h1, h2]
theorem nx_sub {σ τ : St} (hn : sn τ = sn σ) (hph : sph τ = 1 → sph σ = 1) (hbd : sbd τ = sbd σ) (h : ∀ x, x < sn σ → rs (sI τ) x = true → rs (sI σ) x = true ∧ sI τ 1 x = sI σ 1 x ∧ sI τ 2 x = sI σ 2 x) (hX : NX σ) : NX τ := by
  intro p1 b1 a b ha hb ra rb hs
  rw [hn] at ha hb
  obtain ⟨a1, a2, a3⟩ := h a ha ra
  obtain ⟨b2, b3, b4⟩ := h b hb rb
  rw [a2, b3] at hs
  rw [b4, tk_at a2 a3]
  exact hX (hph p1) (by rw [← hbd]; exact b1) a b ha hb a1 b2 hs
theorem nm_sub {σ τ : St} (hn : sn τ = sn σ) (hph : sph τ = 1 → sph σ = 1) (h : ∀ x, x < sn σ → rs (sI τ) x = true → rs (sI σ) x = true ∧ sI τ 1 x = sI σ 1 x ∧ sI τ 2 x = sI σ 2 x) (hX : NM σ) : NM τ := by
  intro p1 a ha ra
  rw [hn] at ha
  obtain ⟨a1, a2, a3⟩ := h a ha ra
  rw [a3]
  exact hX (hph p1) a ha a1
theorem hit_f12 {σ : St} {o r f : Nat} (h3 : f ≠ 3) (h4 : f ≠ 4) (h5 : f ≠ 5) (h7 : f ≠ 7) : sI (xHit σ o r) f = sI σ f := by
  unfold xHit
  split
  · exact (end_f h3 h4 h5).trans (hit_f h3 h4 h7)
  · split
    · exact (rest_f h4 h5).trans (hit_f h3 h4 h7)
    · exact hit_f h3 h4 h7
theorem hit_sub {σ : St} {o r : Nat} (hor : o ≠ r) (h5 : sI σ 5 o = -1) (hs : rs (sI σ) r = true) : ∀ x, x < sn σ → rs (sI (xHit σ o r)) x = true → rs (sI σ) x = true ∧ sI (xHit σ o r) 1 x = sI σ 1 x ∧ sI (xHit σ o r) 2 x = sI σ 2 x := by
  intro x hx hrs
  refine ⟨?_, congrFun (hit_f12 (by decide) (by decide) (by decide) (by decide)) x, congrFun (hit_f12 (by decide) (by decide) (by decide) (by decide)) x⟩
  by_cases zr : x = r
  · rw [zr]; exact hs
  · rw [rs_at (show sI (xHit σ o r) 5 x = sI σ 5 x by rw [hit_at zr]; exact congrFun (hit_f (by decide) (by decide) (by decide)) x)] at hrs
    exact hrs
/-- behind meeting: while it is GOING ON, what is left takes nobody -/
theorem meet_nx {o : Nat} : ∀ {k : Nat} {σ : St} {L : Nat → List Nat}, Inv0 σ → LN σ L → o < sn σ → sI σ 5 o = -1 → 0 ≤ (sI σ 3 o).toInt → (sI σ 3 o).toInt ≤ k → (srk σ).toInt + k ≤ 1000000000 → NX σ → NM σ → sph σ = 1 →
    NX (xMeet k σ o) ∧ NM (xMeet k σ o) ∧ (sph (xMeet k σ o) = 1 ∨ sph (xMeet k σ o) = 2) ∧ (sph (xMeet k σ o) = 1 → 0 < (sI (xMeet k σ o) 3 o).toInt → ∀ r, fst (sI (xMeet k σ o)) (opp (sI (xMeet k σ o) 1 o)) (sn (xMeet k σ o)) = some r → tk (sI (xMeet k σ o)) o (sI (xMeet k σ o) 2 r) = false) := by
  intro k
  induction k with
  | zero =>
    intro σ L _ _ _ _ hl hk _ hX hM hp
    exact ⟨hX, hM, Or.inl hp, fun _ h => by have h9 : 0 < (sI σ 3 o).toInt := h; omega⟩
  | succ k ih =>
    intro σ L hI hL ho h5 hl hk hrk hX hM hp
    by_cases hpos : 0 < sI σ 3 o
    · have hl1 : 1 ≤ (sI σ 3 o).toInt := by
        have h9 := Int32.lt_iff_toInt_lt.mp hpos
        rw [i0] at h9
        omega
      rcases hf : fst (sI σ) (opp (sI σ 1 o)) (sn σ) with _ | r
      · rw [xMeet_nil hpos hf]
        exact ⟨hX, hM, Or.inl hp, fun _ _ r hr => by rw [hf] at hr; cases hr⟩
      · cases ht : tk (sI σ) o (sI σ 2 r) with
        | false =>
          rw [xMeet_nt hpos hf ht]
          exact ⟨hX, hM, Or.inl hp, fun _ _ r' hr => by rw [hf] at hr; cases hr; exact ht⟩
        | true =>
          cases hb : byc (srf σ) (sbd σ) (sI σ 2 r) with
          | true =>
            rw [xMeet_by hpos hf ht hb]
            exact ⟨fun h => absurd h (show ¬ (2 : Int32) = 1 by decide), fun h => absurd h (show ¬ (2 : Int32) = 1 by decide), Or.inr rfl, fun h => absurd h (show ¬ (2 : Int32) = 1 by decide)⟩
          | false =>
            rw [xMeet_go hpos hf ht hb]
            obtain ⟨hor, hr, hs, L', hI', hL'⟩ := hit_all hI hL ho h5 hl1 hf (by omega)
            obtain ⟨q1, q2, q3, q4, -⟩ := hit_q (o := o) hI hr hs hl1
            have hlt : (sI σ 3 o).toInt < 2 ^ 31 := Int32.toInt_lt _
            have e3 : (sI (xHit σ o r) 3 o).toInt = (sI σ 3 o).toInt - (hQ σ o r).toInt := by rw [hit_o3 hor]; exact i_sub (by omega) (by omega)
            obtain ⟨p1, p2, p3, p4⟩ := hit_p4 (σ := σ) (o := o) (r := r)
            have hr2 : (srk (xHit σ o r)).toInt ≤ (srk σ).toInt + 1 := by
              have hrk0 := hI.2.2.2.1
              rcases p4 with e | e
              · rw [e]; omega
              · rw [e, i_add (by rw [i_1]; omega) (by rw [i_1]; omega), i_1]; omega
            exact ih (σ := xHit σ o r) hI' hL' (by rw [hit_sn]; exact ho) (by rw [hit_o5 hor]; exact h5) (by omega) (by omega) (by omega) (nx_sub hit_sn (fun _ => hp) p3 (hit_sub hor h5 hs) hX) (nm_sub hit_sn (fun _ => hp) (hit_sub hor h5 hs) hM) (p1.trans hp)
    · rw [xMeet_no hpos]
      refine ⟨hX, hM, Or.inl hp, fun _ h => ?_⟩
      exact absurd (Int32.lt_iff_toInt_lt.mpr (by rw [i0]; exact h)) hpos
