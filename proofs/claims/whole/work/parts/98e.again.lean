/-! One that comes: what it shows before counts for nothing -/
theorem s1_ov {I : Co} {f o : Nat} {v w : Int32} : s1 (s1 I f o v) f o w = s1 I f o w := by
  funext g x
  by_cases hg : g = f
  · subst hg
    by_cases hx : x = o
    · subst hx; rw [s1_ss, s1_ss]
    · rw [s1_so hx, s1_so hx, s1_so hx]
  · rw [s1_f hg, s1_f hg, s1_f hg]
theorem s1_co {I : Co} {f o r : Nat} {v w : Int32} (h : o ≠ r) : s1 (s1 I f o v) f r w = s1 (s1 I f r w) f o v := by
  funext g x
  by_cases hg : g = f
  · subst hg
    by_cases hx : x = r
    · subst hx; rw [s1_ss, s1_so (Ne.symm h), s1_ss]
    · rw [s1_so hx]
      by_cases hy : x = o
      · subst hy; rw [s1_ss, s1_ss]
      · rw [s1_so hy, s1_so hy, s1_so hx]
  · rw [s1_f hg, s1_f hg, s1_f hg, s1_f hg]
def x4 (σ : St) (o : Nat) (v : Int32) : St := ((sn σ, s1 (sI σ) 4 o v), σ.2)
section X4
variable {σ : St} {o r k : Nat} {v : Int32}
theorem x4_f {f : Nat} (h : f ≠ 4) : sI (x4 σ o v) f = sI σ f := s1_f h
theorem x4_r (h : r ≠ o) : sI (x4 σ o v) 4 r = sI σ 4 r := by show s1 (sI σ) 4 o v 4 r = _; exact s1_so h
theorem x4_end : xEnd (x4 σ o v) o = xEnd σ o := by
  show ((sn σ, s1 (s1 (s1 (s1 (sI σ) 4 o v) 3 o 0) 4 o 0) 5 o (-1)), σ.2) = ((sn σ, s1 (s1 (s1 (sI σ) 3 o 0) 4 o 0) 5 o (-1)), σ.2)
  rw [s1_comm (f := 4) (g := 3) (by decide), s1_ov]
theorem x4_rest : xRest (x4 σ o v) o = xRest σ o := by
  have e : shw (s1 (sI σ) 4 o v) o = shw (sI σ) o := by unfold shw; rw [s1_f (by decide), s1_f (by decide)]
  show ((sn σ, s1 (s1 (s1 (sI σ) 4 o v) 5 o (srk σ)) 4 o (shw (s1 (sI σ) 4 o v) o)), _, _) = ((sn σ, s1 (s1 (sI σ) 5 o (srk σ)) 4 o (shw (sI σ) o)), _, _)
  rw [e, s1_comm (f := 4) (g := 5) (by decide), s1_ov]
  rfl
theorem x4_tail : xTail (x4 σ o v) o = xTail σ o := by
  unfold xTail
  rw [x4_f (f := 3) (by decide), x4_f (f := 6) (by decide), x4_f (f := 2) (by decide), x4_end, x4_rest]
  rfl
theorem fst_col {I J : Co} (h1 : J 1 = I 1) (h2 : J 2 = I 2) (h5 : J 5 = I 5) {s : Int32} : ∀ k, fst J s k = fst I s k := by
  intro k
  induction k with
  | zero => rfl
  | succ k ih =>
    unfold fst
    rw [ih]
    cases fst I s k with
    | none => show (if _ then _ else _) = (if _ then _ else _); rw [onS_cols h1 h5]
    | some f => show (if _ then _ else _) = (if _ then _ else _); rw [onS_cols h1 h5, bf_cols h1 h2 h5]
theorem x4_hit0 (h : r ≠ o) : xHit0 (x4 σ o v) o r = x4 (xHit0 σ o r) o v := by
  have hq : hQ (x4 σ o v) o r = hQ σ o r := by unfold hQ; rw [x4_f (f := 3) (by decide), x4_r h]
  unfold xHit0
  rw [hq, x4_r h, x4_f (f := 1) (by decide), x4_f (f := 2) (by decide)]
  show ((sn σ, dI (s1 (s1 (sI σ) 4 o v) 4 r (sI σ 4 r - hQ σ o r)) o r (hQ σ o r)), _, _) = ((sn σ, s1 (dI (s1 (sI σ) 4 r (sI σ 4 r - hQ σ o r)) o r (hQ σ o r)) 4 o v), _, _)
  have e : s1 (dI (s1 (sI σ) 4 r (sI σ 4 r - hQ σ o r)) o r (hQ σ o r)) 4 o v = dI (s1 (s1 (sI σ) 4 r (sI σ 4 r - hQ σ o r)) 4 o v) o r (hQ σ o r) := by
    unfold dI
    rw [s1_comm (f := 7) (g := 4) (by decide), s1_comm (f := 7) (g := 4) (by decide), s1_comm (f := 3) (g := 4) (by decide), s1_comm (f := 3) (g := 4) (by decide)]
    rfl
  rw [e, s1_co (Ne.symm h)]
  rfl
theorem x4_endr (h : r ≠ o) : xEnd (x4 σ o v) r = x4 (xEnd σ r) o v := by
  show ((sn σ, s1 (s1 (s1 (s1 (sI σ) 4 o v) 3 r 0) 4 r 0) 5 r (-1)), σ.2) = ((sn σ, s1 (s1 (s1 (s1 (sI σ) 3 r 0) 4 r 0) 5 r (-1)) 4 o v), σ.2)
  rw [s1_comm (f := 5) (g := 4) (by decide), s1_comm (f := 4) (g := 3) (by decide), s1_co (Ne.symm h)]
theorem x4_restr (h : r ≠ o) : xRest (x4 σ o v) r = x4 (xRest σ r) o v := by
  have e : shw (s1 (sI σ) 4 o v) r = shw (sI σ) r := by unfold shw; rw [s1_f (by decide), s1_f (by decide)]
  show ((sn σ, s1 (s1 (s1 (sI σ) 4 o v) 5 r (srk σ)) 4 r (shw (s1 (sI σ) 4 o v) r)), _, _) = ((sn σ, s1 (s1 (s1 (sI σ) 5 r (srk σ)) 4 r (shw (sI σ) r)) 4 o v), _, _)
  rw [e, s1_comm (f := 4) (g := 5) (by decide), s1_co (Ne.symm h)]
  rfl
theorem x4_hit (h : r ≠ o) : xHit (x4 σ o v) o r = x4 (xHit σ o r) o v := by
  unfold xHit
  rw [x4_hit0 h, x4_f (f := 3) (by decide), x4_r h]
  split
  · exact x4_endr h
  · split
    · exact x4_restr h
    · rfl
theorem x4_meet' {L : Nat → List Nat} : ∀ {k : Nat} {σ : St} {L : Nat → List Nat}, Inv0 σ → LN σ L → o < sn σ → sI σ 5 o = -1 → 0 ≤ (sI σ 3 o).toInt → (srk σ).toInt + k ≤ 1000000000 → xMeet k (x4 σ o v) o = x4 (xMeet k σ o) o v := by
  intro k
  induction k with
  | zero => intro σ L _ _ _ _ _ _; rfl
  | succ k ih =>
    intro σ L hI hL ho h5 hl hrk
    have hf0 : fst (sI (x4 σ o v)) (opp (sI (x4 σ o v) 1 o)) (sn (x4 σ o v)) = fst (sI σ) (opp (sI σ 1 o)) (sn σ) := by
      rw [x4_f (f := 1) (by decide)]
      exact fst_col (x4_f (by decide)) (x4_f (by decide)) (x4_f (by decide)) _
    have h30 : sI (x4 σ o v) 3 o = sI σ 3 o := by rw [x4_f (by decide)]
    by_cases h3 : 0 < sI σ 3 o
    · have hl1 : 1 ≤ (sI σ 3 o).toInt := by have := Int32.lt_iff_toInt_lt.mp h3; rw [i0] at this; omega
      have h3' : 0 < sI (x4 σ o v) 3 o := by rw [h30]; exact h3
      cases hf : fst (sI σ) (opp (sI σ 1 o)) (sn σ) with
      | none => rw [xMeet_nil h3 hf, xMeet_nil h3' (hf0.trans hf)]
      | some r =>
        have et : tk (sI (x4 σ o v)) o (sI (x4 σ o v) 2 r) = tk (sI σ) o (sI σ 2 r) := by rw [x4_f (f := 2) (by decide)]; exact tk_at (by rw [x4_f (by decide)]) (by rw [x4_f (by decide)])
        have eb : byc (srf (x4 σ o v)) (sbd (x4 σ o v)) (sI (x4 σ o v) 2 r) = byc (srf σ) (sbd σ) (sI σ 2 r) := by rw [x4_f (f := 2) (by decide)]; rfl
        cases ht : tk (sI σ) o (sI σ 2 r) with
        | false => rw [xMeet_nt h3 hf ht, xMeet_nt h3' (hf0.trans hf) (et.trans ht)]
        | true =>
          cases hb : byc (srf σ) (sbd σ) (sI σ 2 r) with
          | true => rw [xMeet_by h3 hf ht hb, xMeet_by h3' (hf0.trans hf) (et.trans ht) (eb.trans hb)]; rfl
          | false =>
            obtain ⟨hor, hr, hs, L', hI', hL'⟩ := hit_all hI hL ho h5 hl1 hf (by omega)
            obtain ⟨q1, q2, q3, q4, -⟩ := hit_q (o := o) hI hr hs hl1
            have hlt : (sI σ 3 o).toInt < 2 ^ 31 := Int32.toInt_lt _
            have e3 : (sI (xHit σ o r) 3 o).toInt = (sI σ 3 o).toInt - (hQ σ o r).toInt := by rw [hit_o3 hor]; exact i_sub (by omega) (by omega)
            obtain ⟨p1, p2, p3, p4⟩ := hit_p4 (σ := σ) (o := o) (r := r)
            have hr2 : (srk (xHit σ o r)).toInt ≤ (srk σ).toInt + 1 := by
              have hrk0 := hI.2.2.2.1
              rcases p4 with e | e
              · rw [e]; omega
              · rw [e, i_add (by rw [i_1]; omega) (by rw [i_1]; omega), i_1]; omega
            rw [xMeet_go h3 hf ht hb, xMeet_go h3' (hf0.trans hf) (et.trans ht) (eb.trans hb), x4_hit (Ne.symm hor)]
            exact ih (σ := xHit σ o r) hI' hL' (by rw [hit_sn]; exact ho) (by rw [hit_o5 hor]; exact h5) (by omega) (by omega)
    · rw [xMeet_no h3, xMeet_no (by rw [h30]; exact h3)]
theorem x4_come {L : Nat → List Nat} {g : Bool} (hI : Inv0 σ) (hL : LN σ L) (ho : o < sn σ) (h5 : sI σ 5 o = -1) (hl : 0 ≤ (sI σ 3 o).toInt) (hrk : (srk σ).toInt ≤ 500000000) : xCome g (x4 σ o v) o = xCome g σ o := by
  unfold xCome
  rw [x4_f (f := 6) (by decide)]
  show (if sph σ = 1 then _ else _) = _
  by_cases hp : sph σ = 1
  · rw [if_pos hp, if_pos hp]
    by_cases hg : sI σ 6 o = 2 ∧ g = false
    · rw [if_pos hg, if_pos hg]; exact x4_tail
    · rw [if_neg hg, if_neg hg, x4_meet' (L := L) hI hL ho h5 hl (by omega)]; exact x4_tail
  · rw [if_neg hp, if_neg hp]; exact x4_rest
theorem x4_cutP {x : Nat} : cutP (x4 σ o v) o r x = cutP σ o r x := by
  unfold cutP
  have h1 : sI (x4 σ o v) 1 = sI σ 1 := x4_f (by decide)
  have h2 : sI (x4 σ o v) 2 = sI σ 2 := x4_f (by decide)
  have h5 : sI (x4 σ o v) 5 = sI σ 5 := x4_f (by decide)
  rw [rs_at (congrFun h5 x), bf_cols h1 h2 h5, h1, h2, tk_at (congrFun h1 o) (congrFun h2 o)]
  rfl
theorem x4_cut : ∀ k, cutN (x4 σ o v) o r k = cutN σ o r k := by
  intro k
  induction k with
  | zero => show byc _ _ (sI (x4 σ o v) 2 r) = _; rw [x4_f (by decide)]; rfl
  | succ k ih => show (_ || _) = (_ || _); rw [ih, x4_cutP]
theorem x4_cov : cov (x4 σ o v) o = cov σ o := by
  have h1 : sI (x4 σ o v) 1 = sI σ 1 := x4_f (by decide)
  have h2 : sI (x4 σ o v) 2 = sI σ 2 := x4_f (by decide)
  have h3 : sI (x4 σ o v) 3 = sI σ 3 := x4_f (by decide)
  have h5 : sI (x4 σ o v) 5 = sI σ 5 := x4_f (by decide)
  have hg : ∀ x, goes (x4 σ o v) o x = goes σ o x := by
    intro x
    unfold goes
    rw [rs_at (congrFun h5 x), h1, h2, tk_at (congrFun h1 o) (congrFun h2 o)]
    show (_ && (_ && (_ && !cutN (x4 σ o v) o x (sn σ)))) = _
    rw [x4_cut]
  have hs : ∀ k, gsum (x4 σ o v) o k = gsum σ o k := by
    intro k
    unfold gsum
    exact gs_congr (fun x _ => by rw [hg, h3])
  unfold cov
  rw [h3]
  show decide (_ ≤ gsum (x4 σ o v) o (sn σ)) = _
  rw [hs]
end X4
theorem rAm_x4 {σ : St} {k : Nat} {p q : Int32} : rAm σ k p q = x4 (xAsk (xOut σ k) k p q) k 0 := by
  show ((sn σ, s1 (s1 (s1 (s1 (s1 (sI σ) 3 k 0) 4 k 0) 5 k (-1)) 2 k p) 3 k q), σ.2) = ((sn σ, s1 (s1 (s1 (s1 (sI σ) 5 k (-1)) 2 k p) 3 k q) 4 k 0), σ.2)
  have e : s1 (s1 (s1 (s1 (s1 (sI σ) 3 k 0) 4 k 0) 5 k (-1)) 2 k p) 3 k q = s1 (s1 (s1 (s1 (sI σ) 5 k (-1)) 2 k p) 3 k q) 4 k 0 := by
    rw [s1_comm (I := sI σ) (f := 3) (g := 4) (by decide), s1_comm (I := s1 (sI σ) 4 k 0) (f := 3) (g := 5) (by decide), s1_comm (I := s1 (s1 (sI σ) 4 k 0) 5 k (-1)) (f := 3) (g := 2) (by decide), s1_ov, s1_comm (I := sI σ) (f := 4) (g := 5) (by decide), s1_comm (I := s1 (sI σ) 5 k (-1)) (f := 4) (g := 2) (by decide), s1_comm (I := s1 (s1 (sI σ) 5 k (-1)) 2 k p) (f := 4) (g := 3) (by decide)]
  rw [e]
