/-! One comes to rest that takes nobody -/
theorem i_ne0 {x : Int32} (h : ¬ x = 0) : x.toInt ≠ 0 := fun z => h (Int32.toInt_inj.mp (z.trans i0.symm))
theorem rest_key {τ : St} {o y : Nat} (hI : Inv0 τ) (ho : o < sn τ) (hy : y < sn τ) (ry : rs (sI τ) y = true) (hs : ¬ sI τ 1 y = sI τ 1 o) (hp : sph τ = 1) (hM : NM τ) (hz : ¬ sI τ 2 o = 0) (hf : ∀ r, fst (sI τ) (opp (sI τ 1 o)) (sn τ) = some r → tk (sI τ) o (sI τ 2 r) = false) : tk (sI τ) o (sI τ 2 y) = false ∧ tk (sI τ) y (sI τ 2 o) = false := by
  have so := (hI.2.1.1 o ho).2.2
  have sy := (hI.2.1.1 y hy).2.2
  have hopp : sI τ 1 y = opp (sI τ 1 o) := by
    unfold opp
    rcases so with e | e <;> rcases sy with e' | e' <;> rw [e, e'] at hs ⊢
    · exact absurd rfl hs
    · rfl
    · rfl
    · exact absurd rfl hs
  have hon : onS (sI τ) (opp (sI τ 1 o)) y = true := onS_iff.mpr ⟨ry, hopp⟩
  rcases hr : fst (sI τ) (opp (sI τ 1 o)) (sn τ) with _ | r
  · rw [fst_none hr y hy] at hon; cases hon
  · obtain ⟨r1, r2, r3⟩ := fst_some hI.2.1 (Nat.le_refl _) hr
    obtain ⟨rr, rsd⟩ := onS_iff.mp r2
    have h1 : ¬ tk (sI τ) o (sI τ 2 r) = true := by rw [hf r hr]; decide
    have po := i_ne0 hz
    have py := i_ne0 (hM hp y hy ry)
    have pr := i_ne0 (hM hp r r1 rr)
    have no := (hI.2.1.1 o ho).1
    have ny := (hI.2.1.1 y hy).1
    have nr := (hI.2.1.1 r r1).1
    have hbf : y = r ∨ bf (sI τ) r y = true := r3 y hy hon
    have sor : ((sI τ 1 o).toInt = 0 ∧ (sI τ 1 y).toInt = 1 ∧ (sI τ 1 r).toInt = 1) ∨ ((sI τ 1 o).toInt = 1 ∧ (sI τ 1 y).toInt = 0 ∧ (sI τ 1 r).toInt = 0) := by
      rw [rsd, hopp]
      rcases so with e | e
      · left; rw [e]; decide
      · right; rw [e]; decide
    rw [tk_iff] at h1
    have le : ¬ tk (sI τ) o (sI τ 2 y) = true ∧ ¬ tk (sI τ) y (sI τ 2 o) = true := by
      rw [tk_iff, tk_iff]
      rcases hbf with e | e
      · subst e
        constructor <;> omega
      · rw [bf_iff] at e
        constructor <;> omega
    exact ⟨Bool.eq_false_iff.mpr le.1, Bool.eq_false_iff.mpr le.2⟩
theorem rest_nx {τ : St} {o : Nat} (hI : Inv0 τ) (ho : o < sn τ) (hX : NX τ) (hM : NM τ) (hz : sph τ = 1 → ¬ sI τ 2 o = 0) (hf : sph τ = 1 → ∀ r, fst (sI τ) (opp (sI τ 1 o)) (sn τ) = some r → tk (sI τ) o (sI τ 2 r) = false) : NX (xRest τ o) ∧ NM (xRest τ o) := by
  have c1 : sI (xRest τ o) 1 = sI τ 1 := rest_f (by decide) (by decide)
  have c2 : sI (xRest τ o) 2 = sI τ 2 := rest_f (by decide) (by decide)
  refine ⟨fun p1 b1 a b ha hb ra rb hs => ?_, fun p1 a ha ra => ?_⟩
  · have p1' : sph τ = 1 := p1
    rw [c1] at hs
    rw [c2, tk_at (congrFun c1 a) (congrFun c2 a)]
    by_cases za : a = o
    · subst za
      by_cases zb : b = a
      · subst zb; exact absurd rfl hs
      · rw [rs_at (rest_x zb)] at rb
        exact (rest_key hI ho hb rb (fun z => hs z.symm) p1' hM (hz p1') (hf p1')).1
    · rw [rs_at (rest_x za)] at ra
      by_cases zb : b = o
      · subst zb
        exact (rest_key hI ho ha ra hs p1' hM (hz p1') (hf p1')).2
      · rw [rs_at (rest_x zb)] at rb
        exact hX p1' b1 a b ha hb ra rb hs
  · have p1' : sph τ = 1 := p1
    rw [c2]
    by_cases za : a = o
    · rw [za]; exact hz p1'
    · rw [rs_at (rest_x za)] at ra
      exact hM p1' a ha ra
