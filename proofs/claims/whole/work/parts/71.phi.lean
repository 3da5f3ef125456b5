/-! How many trades an order that rests may still see while it is GOING ON -/
def slc (a k : Nat) : Nat := (a + (k - 1)) / k
theorem slc_go {a k : Nat} (hk : 0 < k) (h : k ≤ a) : slc (a - k) k + 1 = slc a k := by
  unfold slc
  rw [show a + (k - 1) = (a - k + (k - 1)) + k by omega, Nat.add_div_right _ hk]
theorem slc_0 {k : Nat} (hk : 0 < k) : slc 0 k = 0 := by
  unfold slc
  exact Nat.div_eq_of_lt (by omega)
theorem slc_pos {a k : Nat} (hk : 0 < k) (ha : 0 < a) : 1 ≤ slc a k := by
  unfold slc
  exact Nat.div_pos (by omega) hk
theorem slc_50 {a k : Nat} (hk : 0 < k) (ha : a ≤ 50 * k) : slc a k ≤ 50 := by
  unfold slc
  exact Nat.lt_succ_iff.mp ((Nat.div_lt_iff_lt_mul hk).mpr (by omega))
def phO (I : Co) (o : Nat) : Nat := if rs I o = true then (if (I 8 o).toInt = 0 then 1 else 1 + slc ((I 3 o).toInt - (I 4 o).toInt).toNat (I 8 o).toInt.toNat) else 0
def phS (I : Co) : Nat → Nat
  | 0 => 0
  | k + 1 => phS I k + phO I k
theorem phS_same {I J : Co} : ∀ {n : Nat}, (∀ x, x < n → phO J x = phO I x) → phS J n = phS I n := by
  intro n
  induction n with
  | zero => intro _; rfl
  | succ n ih =>
    intro h
    show phS J n + phO J n = phS I n + phO I n
    rw [ih (fun x hx => h x (by omega)), h n (by omega)]
/-- one order's share changes -/
theorem phS_at {I J : Co} {r : Nat} : ∀ {n : Nat}, r < n → (∀ x, x < n → x ≠ r → phO J x = phO I x) → phS J n + phO I r = phS I n + phO J r := by
  intro n
  induction n with
  | zero => intro h; omega
  | succ n ih =>
    intro h hx
    show phS J n + phO J n + phO I r = phS I n + phO I n + phO J r
    by_cases e : r = n
    · subst e
      rw [phS_same (fun x hx2 => hx x (by omega) (by omega))]
      omega
    · have h1 := ih (by omega) (fun x hx2 hne => hx x (by omega) hne)
      rw [hx n (by omega) (fun z => e z.symm)]
      omega
theorem phO_no {I : Co} {o : Nat} (h : rs I o = false) : phO I o = 0 := by
  unfold phO
  rw [if_neg (by rw [h]; decide)]
theorem phO_pos {I : Co} {o : Nat} (h : rs I o = true) : 1 ≤ phO I o := by
  unfold phO
  rw [if_pos h]
  split <;> omega
theorem phO_cols {I J : Co} {o : Nat} (h3 : J 3 o = I 3 o) (h4 : J 4 o = I 4 o) (h5 : J 5 o = I 5 o) (h8 : J 8 o = I 8 o) : phO J o = phO I o := by
  unfold phO rs
  rw [h3, h4, h5, h8]
theorem rest_f {σ : St} {o f : Nat} (h4 : f ≠ 4) (h5 : f ≠ 5) : sI (xRest σ o) f = sI σ f := by
  show s1 (s1 (sI σ) 5 o (srk σ)) 4 o (shw (sI σ) o) f = _
  rw [s1_f h4, s1_f h5]
theorem rest_x {σ : St} {o x f : Nat} (h : x ≠ o) : sI (xRest σ o) f x = sI σ f x := by
  show s1 (s1 (sI σ) 5 o (srk σ)) 4 o (shw (sI σ) o) f x = _
  rw [s1_o h, s1_o h]
theorem rest_4 {σ : St} {o : Nat} : sI (xRest σ o) 4 o = shw (sI σ) o := by
  show s1 (s1 (sI σ) 5 o (srk σ)) 4 o (shw (sI σ) o) 4 o = _
  rw [s1_ss]
section PHI
variable {σ : St} {o r : Nat}
/-- a trade with one that rests uses up what it shows, or all of the one that comes -/
theorem hit_phi (hI : Inv0 σ) (hr : r < sn σ) (ho : o < sn σ) (hor : o ≠ r) (h5 : sI σ 5 o = -1) (hs : rs (sI σ) r = true) (hl : 1 ≤ (sI σ 3 o).toInt) :
    phS (sI (xHit σ o r)) (sn σ) + 1 ≤ phS (sI σ) (sn σ) ∨ ((sI (xHit σ o r) 3 o).toInt = 0 ∧ phS (sI (xHit σ o r)) (sn σ) ≤ phS (sI σ) (sn σ)) := by
  obtain ⟨q1, q2, q3, q4, q5⟩ := hit_q (o := o) hI hr hs hl
  obtain ⟨k1, k2, k3, k4, k5⟩ := hI.2.2.2.2 r hr hs
  have hp := hI.2.2.1 r hr
  have hno : rs (sI σ) o = false := by
    cases h9 : rs (sI σ) o with
    | false => rfl
    | true => rw [rs_iff, h5, i_m1] at h9; omega
  have ex : ∀ x, x < sn σ → x ≠ r → phO (sI (xHit σ o r)) x = phO (sI σ) x := by
    intro x hx hne
    by_cases zo : x = o
    · subst zo
      rw [phO_no hno, phO_no]
      unfold rs at *
      rw [hit_o5 hne]
      exact hno
    · have c : ∀ f, sI (xHit σ o r) f x = sI σ f x := fun f => by rw [hit_at hne]; exact hit_x zo hne
      exact phO_cols (c 3) (c 4) (c 5) (c 8)
  have key := phS_at hr ex
  have hpos := phO_pos hs
  have e3 : (sI (xHit0 σ o r) 3 r).toInt = (sI σ 3 r).toInt - (hQ σ o r).toInt := by rw [hit_3r hor]; exact i_sub (by omega) (by omega)
  have e4 : (sI (xHit0 σ o r) 4 r).toInt = (sI σ 4 r).toInt - (hQ σ o r).toInt := by rw [hit_4r]; exact i_sub (by omega) (by omega)
  have e8 : sI (xHit0 σ o r) 8 r = sI σ 8 r := congrFun (hit_f (by decide) (by decide) (by decide)) r
  have e5 : sI (xHit0 σ o r) 5 r = sI σ 5 r := congrFun (hit_f (by decide) (by decide) (by decide)) r
  have z0 : ∀ x : Int32, x = 0 ↔ x.toInt = 0 := fun x => by rw [← Int32.toInt_inj, i0]
  by_cases hfull : (hQ σ o r).toInt = (sI σ 4 r).toInt
  · left
    by_cases h3 : sI (xHit0 σ o r) 3 r = 0
    · have hx : xHit σ o r = xEnd (xHit0 σ o r) r := by unfold xHit; rw [if_pos h3]
      have : phO (sI (xHit σ o r)) r = 0 := by rw [hx]; exact phO_no end_nr
      omega
    · have h4 : sI (xHit0 σ o r) 4 r = 0 := (z0 _).mpr (by omega)
      have hx : xHit σ o r = xRest (xHit0 σ o r) r := by unfold xHit; rw [if_neg h3, if_pos h4]
      have h3' : (sI (xHit0 σ o r) 3 r).toInt ≠ 0 := fun z => h3 ((z0 _).mpr z)
      have p0 : (sI σ 8 r).toInt ≠ 0 := fun z => by have := k4 z; omega
      have hk := k5 (by omega)
      have s3 : sI (xRest (xHit0 σ o r) r) 3 r = sI (xHit0 σ o r) 3 r := congrFun (rest_f (by decide) (by decide)) r
      have s8 : sI (xRest (xHit0 σ o r) r) 8 r = sI (xHit0 σ o r) 8 r := congrFun (rest_f (by decide) (by decide)) r
      have s4 : sI (xRest (xHit0 σ o r) r) 4 r = shw (sI (xHit0 σ o r)) r := rest_4
      have si : (shw (sI (xHit0 σ o r)) r).toInt = if (sI σ 8 r).toInt < (sI (xHit0 σ o r) 3 r).toInt then (sI σ 8 r).toInt else (sI (xHit0 σ o r) 3 r).toInt := by rw [shw_int (by rw [e8]; exact hp.1), e8, if_neg p0]
      have f1 : phO (sI (xHit σ o r)) r ≤ 1 + slc ((sI (xHit0 σ o r) 3 r).toInt - (shw (sI (xHit0 σ o r)) r).toInt).toNat (sI σ 8 r).toInt.toNat := by
        rw [hx]
        unfold phO
        rw [s3, s8, s4, e8, if_neg p0]
        split <;> omega
      have f2 : phO (sI σ) r = 1 + slc (sI (xHit0 σ o r) 3 r).toInt.toNat (sI σ 8 r).toInt.toNat := by
        unfold phO
        rw [if_pos hs, if_neg p0, e3, hfull]
      have f3 : slc ((sI (xHit0 σ o r) 3 r).toInt - (shw (sI (xHit0 σ o r)) r).toInt).toNat (sI σ 8 r).toInt.toNat + 1 ≤ slc (sI (xHit0 σ o r) 3 r).toInt.toNat (sI σ 8 r).toInt.toNat := by
        rw [si]
        split
        · rename_i hlt
          rw [show ((sI (xHit0 σ o r) 3 r).toInt - (sI σ 8 r).toInt).toNat = (sI (xHit0 σ o r) 3 r).toInt.toNat - (sI σ 8 r).toInt.toNat by omega, slc_go (by omega) (by omega)]
          exact Nat.le_refl _
        · rw [show ((sI (xHit0 σ o r) 3 r).toInt - (sI (xHit0 σ o r) 3 r).toInt).toNat = 0 by omega, slc_0 (by omega)]
          have := slc_pos (a := (sI (xHit0 σ o r) 3 r).toInt.toNat) (k := (sI σ 8 r).toInt.toNat) (by omega) (by omega)
          omega
      omega
  · right
    have hq : (hQ σ o r).toInt = (sI σ 3 o).toInt := by rcases q5 with e | e
                                                        · exact absurd e hfull
                                                        · exact e
    have h3 : ¬ sI (xHit0 σ o r) 3 r = 0 := fun z => by have := (z0 _).mp z; omega
    have h4 : ¬ sI (xHit0 σ o r) 4 r = 0 := fun z => by have := (z0 _).mp z; omega
    have hx : xHit σ o r = xHit0 σ o r := by unfold xHit; rw [if_neg h3, if_neg h4]
    refine ⟨?_, ?_⟩
    · rw [hit_o3 hor, i_sub (by omega) (by omega)]
      omega
    · have f1 : phO (sI (xHit σ o r)) r = phO (sI σ) r := by
        rw [hx]
        unfold phO rs
        rw [e3, e4, e5, e8, show (sI σ 3 r).toInt - (hQ σ o r).toInt - ((sI σ 4 r).toInt - (hQ σ o r).toInt) = (sI σ 3 r).toInt - (sI σ 4 r).toInt by omega]
      omega
end PHI
