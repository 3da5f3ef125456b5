/-! No two that rest could trade, behind one that came -/
theorem end_sub {τ : St} {o : Nat} : ∀ x, x < sn τ → rs (sI (xEnd τ o)) x = true → rs (sI τ) x = true ∧ sI (xEnd τ o) 1 x = sI τ 1 x ∧ sI (xEnd τ o) 2 x = sI τ 2 x := by
  intro x hx hrs
  have z : x ≠ o := fun z => by rw [z, end_nr] at hrs; cases hrs
  rw [rs_at (end_x z)] at hrs
  exact ⟨hrs, end_x z, end_x z⟩
theorem end_nx {τ : St} {o : Nat} (hX : NX τ) (hM : NM τ) : NX (xEnd τ o) ∧ NM (xEnd τ o) := ⟨nx_sub (σ := τ) (τ := xEnd τ o) (show sn (xEnd τ o) = sn τ from rfl) (fun h => h) (show sbd (xEnd τ o) = sbd τ from rfl) end_sub hX, nm_sub (σ := τ) (τ := xEnd τ o) (show sn (xEnd τ o) = sn τ from rfl) (fun h => h) end_sub hM⟩
theorem come_nx {σ : St} {L : Nat → List Nat} {o : Nat} {g : Bool} (hI : Inv0 σ) (hL : LN σ L) (ho : o < sn σ) (h5 : sI σ 5 o = -1) (hl : 0 ≤ (sI σ 3 o).toInt) (hl2 : (sI σ 3 o).toInt ≤ 100000) (hrk : (srk σ).toInt ≤ 500000000) (hX : NX σ) (hM : NM σ) : NX (xCome g σ o) ∧ NM (xCome g σ o) := by
  unfold xCome
  by_cases hp : sph σ = 1
  · rw [if_pos hp]
    by_cases hg : sI σ 6 o = 2 ∧ g = false
    · rw [if_pos hg]
      unfold xTail
      rw [if_neg (fun z => by rw [hg.1] at z; exact absurd z.2.1 (by decide))]
      exact end_nx hX hM
    · rw [if_neg hg]
      obtain ⟨m1, m2, m3, m4⟩ := meet_nx (k := 100000) hI hL ho h5 hl (by omega) (by omega) hX hM hp
      obtain ⟨⟨L', hI', -⟩, e2, -⟩ := meet_all (k := 100000) hI hL ho h5 hl (by omega)
      unfold xTail
      split
      · rename_i hc
        refine rest_nx hI' (by rw [e2]; exact ho) m1 m2 (fun h1 hz => ?_) (fun h1 => m4 h1 ?_)
        · have := hc.2.2 hz
          rw [h1] at this
          exact absurd this (by decide)
        · have h9 := Int32.lt_iff_toInt_lt.mp hc.1
          rw [i0] at h9
          exact h9
      · exact end_nx m1 m2
  · rw [if_neg hp]
    exact ⟨fun h => absurd h hp, fun h => absurd h hp⟩
