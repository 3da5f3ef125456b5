/-! What holds of the numbers throughout -/
theorem i_sub {x y : Int32} (h1 : -(2 : Int) ^ 31 ≤ x.toInt - y.toInt) (h2 : x.toInt - y.toInt < (2 : Int) ^ 31) : (x - y).toInt = x.toInt - y.toInt := by
  rw [Int32.toInt_sub]
  exact Int.bmod_eq_of_le (by omega) (by omega)
theorem i_add {x y : Int32} (h1 : -(2 : Int) ^ 31 ≤ x.toInt + y.toInt) (h2 : x.toInt + y.toInt < (2 : Int) ^ 31) : (x + y).toInt = x.toInt + y.toInt := by
  rw [Int32.toInt_add]
  exact Int.bmod_eq_of_le (by omega) (by omega)
theorem i_1 : (1 : Int32).toInt = 1 := by decide
theorem i_m1 : (-1 : Int32).toInt = -1 := by decide
/-- an order that rests, as it should -/
def Rok (I : Co) (o : Nat) : Prop := 1 ≤ (I 3 o).toInt ∧ (I 3 o).toInt ≤ 100000 ∧ 1 ≤ (I 4 o).toInt ∧ ((I 8 o).toInt = 0 → (I 4 o).toInt = (I 3 o).toInt) ∧ (0 < (I 8 o).toInt → (I 4 o).toInt ≤ (I 3 o).toInt ∧ (I 4 o).toInt ≤ (I 8 o).toInt ∧ (I 3 o).toInt ≤ 50 * (I 8 o).toInt)
def Inv0 (σ : St) : Prop := sn σ ≤ 250 ∧ oOK (sI σ) (sn σ) ∧ (∀ o, o < sn σ → 0 ≤ (sI σ 8 o).toInt ∧ (sI σ 8 o).toInt ≤ 100000 ∧ -1 ≤ (sI σ 5 o).toInt ∧ (sI σ 5 o).toInt < (srk σ).toInt) ∧ 0 ≤ (srk σ).toInt ∧ ∀ o, o < sn σ → rs (sI σ) o = true → Rok (sI σ) o
theorem rs_iff {I : Co} {o : Nat} : rs I o = true ↔ 0 ≤ (I 5 o).toInt := by
  unfold rs
  rw [decide_eq_true_eq, Int32.le_iff_toInt_le, i0]
theorem shw_int {I : Co} {o : Nat} (hp : 0 ≤ (I 8 o).toInt) : (shw I o).toInt = if (I 8 o).toInt = 0 then (I 3 o).toInt else if (I 8 o).toInt < (I 3 o).toInt then (I 8 o).toInt else (I 3 o).toInt := by
  unfold shw
  by_cases h : 0 < I 8 o ∧ I 8 o < I 3 o
  · rw [if_pos h]
    have h1 := Int32.lt_iff_toInt_lt.mp h.1
    have h2 := Int32.lt_iff_toInt_lt.mp h.2
    rw [i0] at h1
    rw [if_neg (by omega), if_pos h2]
  · rw [if_neg h]
    by_cases h0 : (I 8 o).toInt = 0
    · rw [if_pos h0]
    · rw [if_neg h0, if_neg]
      intro h2
      exact h ⟨Int32.lt_iff_toInt_lt.mpr (by rw [i0]; omega), Int32.lt_iff_toInt_lt.mpr h2⟩
/-- the lines of the two sides -/
def LN (σ : St) (L : Nat → List Nat) : Prop := Line (sI σ) (sn σ) 1 (L 1) ∧ Line (sI σ) (sn σ) 0 (L 2)
theorem sj_val {b : Int32} (h : b = 0 ∨ b = 1) {I : Co} {n : Nat} {L : Nat → List Nat} (hL : Line I n 1 (L 1) ∧ Line I n 0 (L 2)) : Line I n b (L (sj b)) := by
  unfold sj
  rcases h with e | e
  · subst e; rw [if_pos rfl]; exact hL.2
  · subst e; rw [if_neg (by decide)]; exact hL.1
/-- an order comes to rest: line and invariants -/
theorem LN.rest {σ : St} {L : Nat → List Nat} {o k : Nat} (hI : Inv0 σ) (hL : LN σ L) (ho : o < sn σ) (hr : sI σ 5 o = -1) (hrk : (srk σ).toInt ≤ 2000000000) (hl1 : 1 ≤ (sI σ 3 o).toInt) (hl2 : (sI σ 3 o).toInt ≤ 100000) (hl3 : 0 < (sI σ 8 o).toInt → (sI σ 3 o).toInt ≤ 50 * (sI σ 8 o).toInt)
    (hk : k ≤ (L (sj (sI σ 1 o))).length) (hhi : ∀ x, x ∈ (L (sj (sI σ 1 o))).drop k → sb (s1 (s1 (sI σ) 4 o (shw (sI σ) o)) 5 o (srk σ)) o x = true) (hlo : ∀ x, (L (sj (sI σ 1 o)))[k - 1]? = some x → 0 < k → sb (s1 (s1 (sI σ) 4 o (shw (sI σ) o)) 5 o (srk σ)) o x = false) :
    Inv0 (xRest σ o) ∧ LN (xRest σ o) (fun k' => if k' = sj (sI σ 1 o) then (L (sj (sI σ 1 o))).insertIdx k o else L k') := by
  obtain ⟨i1, i2, i3, i4, i5⟩ := hI
  have eJ : s1 (s1 (sI σ) 4 o (shw (sI σ) o)) 5 o (srk σ) = sI (xRest σ o) := s1_comm (by decide)
  rw [eJ] at hhi hlo
  have c5 : ∀ x, x ≠ o → sI (xRest σ o) 5 x = sI σ 5 x := fun x hx => by show s1 (s1 (sI σ) 5 o (srk σ)) 4 o (shw (sI σ) o) 5 x = _; rw [s1_o hx, s1_o hx]
  have c5o : sI (xRest σ o) 5 o = srk σ := by show s1 (s1 (sI σ) 5 o (srk σ)) 4 o (shw (sI σ) o) 5 o = _; rw [s1_f (f' := 5) (f := 4) (by decide), s1_ss]
  have c1 : sI (xRest σ o) 1 = sI σ 1 := by show s1 (s1 (sI σ) 5 o (srk σ)) 4 o (shw (sI σ) o) 1 = _; rw [s1_f (by decide), s1_f (by decide)]
  have c2 : sI (xRest σ o) 2 = sI σ 2 := by show s1 (s1 (sI σ) 5 o (srk σ)) 4 o (shw (sI σ) o) 2 = _; rw [s1_f (by decide), s1_f (by decide)]
  have c3 : sI (xRest σ o) 3 = sI σ 3 := by show s1 (s1 (sI σ) 5 o (srk σ)) 4 o (shw (sI σ) o) 3 = _; rw [s1_f (by decide), s1_f (by decide)]
  have c8 : sI (xRest σ o) 8 = sI σ 8 := by show s1 (s1 (sI σ) 5 o (srk σ)) 4 o (shw (sI σ) o) 8 = _; rw [s1_f (by decide), s1_f (by decide)]
  have c4 : ∀ x, x ≠ o → sI (xRest σ o) 4 x = sI σ 4 x := fun x hx => by show s1 (s1 (sI σ) 5 o (srk σ)) 4 o (shw (sI σ) o) 4 x = _; rw [s1_o hx, s1_o hx]
  have c4o : sI (xRest σ o) 4 o = shw (sI σ) o := by show s1 (s1 (sI σ) 5 o (srk σ)) 4 o (shw (sI σ) o) 4 o = _; rw [s1_ss]
  have rk' : (srk (xRest σ o)).toInt = (srk σ).toInt + 1 := by
    show (srk σ + 1).toInt = _
    rw [i_add (by rw [i_1]; omega) (by rw [i_1]; omega), i_1]
  have hOK : oOK (sI (xRest σ o)) (sn σ) := by
    refine ⟨by rw [c1, c2]; exact i2.1, fun a b ha hb ra rb e => ?_⟩
    by_cases za : a = o
    · by_cases zb : b = o
      · rw [za, zb]
      · exfalso
        rw [za, c5o, c5 b zb] at e
        have := (i3 b hb).2.2.2
        rw [← e] at this
        omega
    · by_cases zb : b = o
      · exfalso
        rw [zb, c5o, c5 a za] at e
        have := (i3 a ha).2.2.2
        rw [e] at this
        omega
      · rw [c5 a za, c5 b zb] at e
        rw [rs_iff, c5 a za] at ra
        rw [rs_iff, c5 b zb] at rb
        exact i2.2 a b ha hb (rs_iff.mpr ra) (rs_iff.mpr rb) e
  have hside : sI σ 1 o = 0 ∨ sI σ 1 o = 1 := (i2.1 o ho).2.2
  have hno : rs (sI σ) o = false := by
    cases h : rs (sI σ) o with
    | false => rfl
    | true => rw [rs_iff, hr, i_m1] at h; omega
  have hnm : ∀ j, o ∉ L j ∨ j ≠ 1 ∧ j ≠ 2 := by
    intro j
    by_cases h1 : j = 1
    · left; subst h1; intro hm; have := ((hL.1.1 o).mp hm).2; rw [onS_iff, hno] at this; exact absurd this.1 (by decide)
    · by_cases h2 : j = 2
      · left; subst h2; intro hm; have := ((hL.2.1 o).mp hm).2; rw [onS_iff, hno] at this; exact absurd this.1 (by decide)
      · exact Or.inr ⟨h1, h2⟩
  have pr : ∀ x, x < sn σ → 0 ≤ (sI (xRest σ o) 2 x).toInt := fun x hx => by rw [c2]; exact (i2.1 x hx).1
  have hLj := sj_val hside hL
  have ins : Line (sI (xRest σ o)) (sn σ) (sI σ 1 o) ((L (sj (sI σ 1 o))).insertIdx k o) := by
    have mem : ∀ x, x ∈ L (sj (sI σ 1 o)) → x < sn σ := fun x hx => ((hLj.1 x).mp hx).1
    refine hLj.ins hOK ?_ ho (onS_iff.mpr ⟨rs_iff.mpr (by rw [c5o]; exact i4), by rw [c1]⟩) (fun x hx => ⟨by rw [c1], by rw [c2], c5 x hx⟩) hk (fun x hx => ?_) (fun x hx hp => ?_)
    · rcases hnm (sj (sI σ 1 o)) with h | h
      · exact h
      · rcases sj_or (sI σ 1 o) with e | e
        · exact absurd e h.1
        · exact absurd e h.2
    · rw [← sb_bf (pr o ho) (pr x (mem x (List.mem_of_mem_drop hx)))]; exact hhi x hx
    · rw [← sb_bf (pr o ho) (pr x (mem x (List.mem_of_getElem? hx)))]; exact hlo x hx hp
  have keep : ∀ (b : Int32) (K : List Nat), b ≠ sI σ 1 o → Line (sI σ) (sn σ) b K → Line (sI (xRest σ o)) (sn σ) b K := by
    intro b K hb hK
    have noto : ∀ x, x ∈ K → x ≠ o := fun x hx e => by
      have := ((hK.1 x).mp hx).2
      rw [onS_iff] at this
      exact hb (by rw [← this.2, e])
    refine ⟨fun x => ?_, List.Pairwise.imp_of_mem ?_ hK.2⟩
    · by_cases zx : x = o
      · constructor
        · intro hm; exact absurd zx (noto x hm)
        · rintro ⟨-, hs⟩
          rw [onS_iff, c1, zx] at hs
          exact absurd hs.2.symm hb
      · have e : onS (sI (xRest σ o)) b x = onS (sI σ) b x := by unfold onS rs; rw [c1, c5 x zx]
        rw [e]; exact hK.1 x
    · intro a c ha hc hac
      rw [bf_at (by rw [c1]) (by rw [c2]) (by rw [c2]) (c5 a (noto a ha)) (c5 c (noto c hc))]
      exact hac
  refine ⟨⟨i1, hOK, fun x hx => ?_, by rw [rk']; omega, fun x hx hs => ?_⟩, ?_⟩
  · obtain ⟨p1, p2, p3, p4⟩ := i3 x hx
    rw [c8, rk']
    by_cases zx : x = o
    · subst zx; rw [c5o]; exact ⟨p1, p2, by omega, by omega⟩
    · rw [c5 x zx]; exact ⟨p1, p2, p3, by omega⟩
  · by_cases zx : x = o
    · subst zx
      unfold Rok
      have hp := (i3 x ho).1
      rw [c3, c8, c4o, shw_int hp]
      refine ⟨hl1, hl2, ?_, fun h0 => by rw [if_pos h0], fun hpos => ?_⟩
      · split
        · exact hl1
        · split <;> omega
      · rw [if_neg (by omega)]
        refine ⟨?_, ?_, hl3 hpos⟩ <;> split <;> omega
    · rw [rs_iff, c5 x zx] at hs
      have := i5 x hx (rs_iff.mpr hs)
      unfold Rok at *
      rw [c3, c8, c4 x zx]
      exact this
  · rcases hside with e | e
    · rw [e] at ins keep ⊢
      have e2 : sj 0 = 2 := rfl
      rw [e2] at ins ⊢
      exact ⟨keep 1 _ (by decide) hL.1, ins⟩
    · rw [e] at ins keep ⊢
      have e2 : sj 1 = 1 := rfl
      rw [e2] at ins ⊢
      exact ⟨ins, keep 0 _ (by decide) hL.2⟩
