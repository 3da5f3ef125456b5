/-! No two that rest could trade, whatever the band -/
def NY (σ : St) : Prop := sph σ = 1 → ∀ a b, a < sn σ → b < sn σ → rs (sI σ) a = true → rs (sI σ) b = true → ¬ sI σ 1 a = sI σ 1 b → tk (sI σ) a (sI σ 2 b) = false
theorem NY.nx {σ : St} (h : NY σ) : NX σ := fun p _ => h p
theorem ny_sub {σ τ : St} (hn : sn τ = sn σ) (hph : sph τ = 1 → sph σ = 1) (h : ∀ x, x < sn σ → rs (sI τ) x = true → rs (sI σ) x = true ∧ sI τ 1 x = sI σ 1 x ∧ sI τ 2 x = sI σ 2 x) (hX : NY σ) : NY τ := by
  intro p1 a b ha hb ra rb hs
  rw [hn] at ha hb
  obtain ⟨a1, a2, a3⟩ := h a ha ra
  obtain ⟨b2, b3, b4⟩ := h b hb rb
  rw [a2, b3] at hs
  rw [b4, tk_at a2 a3]
  exact hX (hph p1) a b ha hb a1 b2 hs
theorem meet_ny {o : Nat} : ∀ {k : Nat} {σ : St} {L : Nat → List Nat}, Inv0 σ → LN σ L → o < sn σ → sI σ 5 o = -1 → 0 ≤ (sI σ 3 o).toInt → (sI σ 3 o).toInt ≤ k → (srk σ).toInt + k ≤ 1000000000 → NY σ → NM σ → sph σ = 1 →
    NY (xMeet k σ o) ∧ NM (xMeet k σ o) ∧ (sph (xMeet k σ o) = 1 ∨ sph (xMeet k σ o) = 2) ∧ (sph (xMeet k σ o) = 1 → 0 < (sI (xMeet k σ o) 3 o).toInt → ∀ r, fst (sI (xMeet k σ o)) (opp (sI (xMeet k σ o) 1 o)) (sn (xMeet k σ o)) = some r → tk (sI (xMeet k σ o)) o (sI (xMeet k σ o) 2 r) = false) := by
  intro k
  induction k with
  | zero =>
    intro σ L _ _ _ _ hl hk _ hX hM hp
    exact ⟨hX, hM, Or.inl hp, fun _ h => by have h9 : 0 < (sI σ 3 o).toInt := h; omega⟩
  | succ k ih =>
    intro σ L hI hL ho h5 hl hk hrk hX hM hp
    by_cases hpos : 0 < sI σ 3 o
    · have hl1 : 1 ≤ (sI σ 3 o).toInt := by
        have h9 := Int32.lt_iff_toInt_lt.mp hpos
        rw [i0] at h9
        omega
      rcases hf : fst (sI σ) (opp (sI σ 1 o)) (sn σ) with _ | r
      · rw [xMeet_nil hpos hf]
        exact ⟨hX, hM, Or.inl hp, fun _ _ r hr => by rw [hf] at hr; cases hr⟩
      · cases ht : tk (sI σ) o (sI σ 2 r) with
        | false =>
          rw [xMeet_nt hpos hf ht]
          exact ⟨hX, hM, Or.inl hp, fun _ _ r' hr => by rw [hf] at hr; cases hr; exact ht⟩
        | true =>
          cases hb : byc (srf σ) (sbd σ) (sI σ 2 r) with
          | true =>
            rw [xMeet_by hpos hf ht hb]
            exact ⟨fun h => absurd h (show ¬ (2 : Int32) = 1 by decide), fun h => absurd h (show ¬ (2 : Int32) = 1 by decide), Or.inr rfl, fun h => absurd h (show ¬ (2 : Int32) = 1 by decide)⟩
          | false =>
            rw [xMeet_go hpos hf ht hb]
            obtain ⟨hor, hr, hs, L', hI', hL'⟩ := hit_all hI hL ho h5 hl1 hf (by omega)
            obtain ⟨q1, q2, q3, q4, -⟩ := hit_q (o := o) hI hr hs hl1
            have hlt : (sI σ 3 o).toInt < 2 ^ 31 := Int32.toInt_lt _
            have e3 : (sI (xHit σ o r) 3 o).toInt = (sI σ 3 o).toInt - (hQ σ o r).toInt := by rw [hit_o3 hor]; exact i_sub (by omega) (by omega)
            obtain ⟨p1, p2, p3, p4⟩ := hit_p4 (σ := σ) (o := o) (r := r)
            have hr2 : (srk (xHit σ o r)).toInt ≤ (srk σ).toInt + 1 := by
              have hrk0 := hI.2.2.2.1
              rcases p4 with e | e
              · rw [e]; omega
              · rw [e, i_add (by rw [i_1]; omega) (by rw [i_1]; omega), i_1]; omega
            exact ih (σ := xHit σ o r) hI' hL' (by rw [hit_sn]; exact ho) (by rw [hit_o5 hor]; exact h5) (by omega) (by omega) (by omega) (ny_sub hit_sn (fun _ => hp) (hit_sub hor h5 hs) hX) (nm_sub hit_sn (fun _ => hp) (hit_sub hor h5 hs) hM) (p1.trans hp)
    · rw [xMeet_no hpos]
      refine ⟨hX, hM, Or.inl hp, fun _ h => ?_⟩
      exact absurd (Int32.lt_iff_toInt_lt.mpr (by rw [i0]; exact h)) hpos
theorem rest_ny {τ : St} {o : Nat} (hI : Inv0 τ) (ho : o < sn τ) (hX : NY τ) (hM : NM τ) (hz : sph τ = 1 → ¬ sI τ 2 o = 0) (hf : sph τ = 1 → ∀ r, fst (sI τ) (opp (sI τ 1 o)) (sn τ) = some r → tk (sI τ) o (sI τ 2 r) = false) : NY (xRest τ o) ∧ NM (xRest τ o) := by
  have c1 : sI (xRest τ o) 1 = sI τ 1 := rest_f (by decide) (by decide)
  have c2 : sI (xRest τ o) 2 = sI τ 2 := rest_f (by decide) (by decide)
  refine ⟨fun p1 a b ha hb ra rb hs => ?_, fun p1 a ha ra => ?_⟩
  · have p1' : sph τ = 1 := p1
    rw [c1] at hs
    rw [c2, tk_at (congrFun c1 a) (congrFun c2 a)]
    by_cases za : a = o
    · subst za
      by_cases zb : b = a
      · subst zb; exact absurd rfl hs
      · rw [rs_at (rest_x zb)] at rb
        exact (rest_key hI ho hb rb (fun z => hs z.symm) p1' hM (hz p1') (hf p1')).1
    · rw [rs_at (rest_x za)] at ra
      by_cases zb : b = o
      · subst zb
        exact (rest_key hI ho ha ra hs p1' hM (hz p1') (hf p1')).2
      · rw [rs_at (rest_x zb)] at rb
        exact hX p1' a b ha hb ra rb hs
  · have p1' : sph τ = 1 := p1
    rw [c2]
    by_cases za : a = o
    · rw [za]; exact hz p1'
    · rw [rs_at (rest_x za)] at ra
      exact hM p1' a ha ra
theorem end_ny {τ : St} {o : Nat} (hX : NY τ) (hM : NM τ) : NY (xEnd τ o) ∧ NM (xEnd τ o) := ⟨ny_sub (σ := τ) (τ := xEnd τ o) (show sn (xEnd τ o) = sn τ from rfl) (fun h => h) end_sub hX, nm_sub (σ := τ) (τ := xEnd τ o) (show sn (xEnd τ o) = sn τ from rfl) (fun h => h) end_sub hM⟩
theorem come_ny {σ : St} {L : Nat → List Nat} {o : Nat} {g : Bool} (hI : Inv0 σ) (hL : LN σ L) (ho : o < sn σ) (h5 : sI σ 5 o = -1) (hl : 0 ≤ (sI σ 3 o).toInt) (hl2 : (sI σ 3 o).toInt ≤ 100000) (hrk : (srk σ).toInt ≤ 500000000) (hX : NY σ) (hM : NM σ) : NY (xCome g σ o) ∧ NM (xCome g σ o) := by
  unfold xCome
  by_cases hp : sph σ = 1
  · rw [if_pos hp]
    by_cases hg : sI σ 6 o = 2 ∧ g = false
    · rw [if_pos hg]
      unfold xTail
      rw [if_neg (fun z => by rw [hg.1] at z; exact absurd z.2.1 (by decide))]
      exact end_ny hX hM
    · rw [if_neg hg]
      obtain ⟨m1, m2, m3, m4⟩ := meet_ny (k := 100000) hI hL ho h5 hl (by omega) (by omega) hX hM hp
      obtain ⟨⟨L', hI', -⟩, e2, -⟩ := meet_all (k := 100000) hI hL ho h5 hl (by omega)
      unfold xTail
      split
      · rename_i hc
        refine rest_ny hI' (by rw [e2]; exact ho) m1 m2 (fun h1 hz => ?_) (fun h1 => m4 h1 ?_)
        · have := hc.2.2 hz
          rw [h1] at this
          exact absurd this (by decide)
        · have h9 := Int32.lt_iff_toInt_lt.mp hc.1
          rw [i0] at h9
          exact h9
      · exact end_ny m1 m2
  · rw [if_neg hp]
    exact ⟨fun h => absurd h hp, fun h => absurd h hp⟩
