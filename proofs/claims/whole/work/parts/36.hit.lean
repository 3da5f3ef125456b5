/-! A trade of the order that comes with the one that rests -/
theorem dI_f {I : Co} {a b f : Nat} {q : Int32} (h3 : f ≠ 3) (h7 : f ≠ 7) : dI I a b q f = I f := by
  unfold dI
  rw [s1_f h7, s1_f h7, s1_f h3, s1_f h3]
theorem dI_o {I : Co} {a b f x : Nat} {q : Int32} (ha : x ≠ a) (hb : x ≠ b) : dI I a b q f x = I f x := by
  unfold dI
  rw [s1_o hb, s1_o ha, s1_o hb, s1_o ha]
theorem dI_3a {I : Co} {a b : Nat} {q : Int32} (h : a ≠ b) : dI I a b q 3 a = I 3 a - q := by
  unfold dI
  rw [s1_f (f' := 3) (f := 7) (by decide), s1_f (f' := 3) (f := 7) (by decide), s1_so h, s1_ss]
theorem dI_3b {I : Co} {a b : Nat} {q : Int32} (h : a ≠ b) : dI I a b q 3 b = I 3 b - q := by
  unfold dI
  rw [s1_f (f' := 3) (f := 7) (by decide), s1_f (f' := 3) (f := 7) (by decide), s1_ss, s1_so (fun z => h z.symm)]
def mn (x y : Int32) : Int32 := if y < x then y else x
theorem mn_int (x y : Int32) : (mn x y).toInt = if y.toInt < x.toInt then y.toInt else x.toInt := by
  unfold mn
  by_cases h : y < x
  · rw [if_pos h, if_pos (Int32.lt_iff_toInt_lt.mp h)]
  · rw [if_neg h, if_neg (fun z => h (Int32.lt_iff_toInt_lt.mpr z))]
def hQ (σ : St) (o r : Nat) : Int32 := mn (sI σ 3 o) (sI σ 4 r)
def xHit0 (σ : St) (o r : Nat) : St := ((sn σ, dI (s1 (sI σ) 4 r (sI σ 4 r - hQ σ o r)) o r (hQ σ o r)), σ.2.1, stn σ + 1, dT (sT σ) (stn σ) (if sI σ 1 o = 0 then nI r else nI o) (if sI σ 1 o = 0 then nI o else nI r) (sI σ 2 r) (hQ σ o r), sal σ + (hQ σ o r).toInt64)
def xOut (σ : St) (r : Nat) : St := ((sn σ, s1 (sI σ) 5 r (-1)), σ.2)
def xHit (σ : St) (o r : Nat) : St := if sI (xHit0 σ o r) 3 r = 0 then xEnd (xHit0 σ o r) r else if sI (xHit0 σ o r) 4 r = 0 then xRest (xHit0 σ o r) r else xHit0 σ o r
/-- all but that r rests as it should -/
def InvX (σ : St) (r : Nat) : Prop := sn σ ≤ 250 ∧ oOK (sI σ) (sn σ) ∧ (∀ o, o < sn σ → 0 ≤ (sI σ 8 o).toInt ∧ (sI σ 8 o).toInt ≤ 100000 ∧ -1 ≤ (sI σ 5 o).toInt ∧ (sI σ 5 o).toInt < (srk σ).toInt) ∧ 0 ≤ (srk σ).toInt ∧ ∀ o, o < sn σ → o ≠ r → rs (sI σ) o = true → Rok (sI σ) o
theorem Inv0.x {σ : St} (h : Inv0 σ) (r : Nat) : InvX σ r := ⟨h.1, h.2.1, h.2.2.1, h.2.2.2.1, fun o ho _ hs => h.2.2.2.2 o ho hs⟩
theorem InvX.of {σ : St} {r : Nat} (h : InvX σ r) (hr : rs (sI σ) r = true → Rok (sI σ) r) : Inv0 σ := ⟨h.1, h.2.1, h.2.2.1, h.2.2.2.1, fun o ho hs => by
  by_cases z : o = r
  · subst z; exact hr hs
  · exact h.2.2.2.2 o ho z hs⟩
/-- columns that no line looks at are written at r alone -/
theorem InvX.cols {σ τ : St} {r : Nat} (h : InvX σ r) (hn : sn τ = sn σ) (hrk : srk τ = srk σ) (h1 : sI τ 1 = sI σ 1) (h2 : sI τ 2 = sI σ 2) (h5 : sI τ 5 = sI σ 5) (h8 : sI τ 8 = sI σ 8) (h34 : ∀ x, x < sn σ → x ≠ r → rs (sI σ) x = true → sI τ 3 x = sI σ 3 x ∧ sI τ 4 x = sI σ 4 x) : InvX τ r := by
  obtain ⟨i1, i2, i3, i4, i5⟩ := h
  refine ⟨by rw [hn]; exact i1, by rw [hn]; exact i2.cols h1 h2 h5, fun o ho => ?_, by rw [hrk]; exact i4, fun o ho hne hs => ?_⟩
  · rw [hn] at ho; rw [h8, h5, hrk]; exact i3 o ho
  · rw [hn] at ho
    have hs' : rs (sI σ) o = true := by rw [rs_iff] at *; rw [← h5]; exact hs
    obtain ⟨e3, e4⟩ := h34 o ho hne hs'
    have := i5 o ho hne hs'
    unfold Rok at *
    rw [e3, e4, h8]
    exact this
theorem LN.cols {σ τ : St} {L : Nat → List Nat} (h : LN σ L) (hn : sn τ = sn σ) (h1 : sI τ 1 = sI σ 1) (h2 : sI τ 2 = sI σ 2) (h5 : sI τ 5 = sI σ 5) : LN τ L := by
  unfold LN at *
  rw [hn]
  exact ⟨h.1.cols h1 h2 h5, h.2.cols h1 h2 h5⟩
/-- r leaves its line -/
theorem LN.out {σ : St} {L : Nat → List Nat} {r k : Nat} (hI : InvX σ r) (hL : LN σ L) (hr : r < sn σ) (hk : (L (sj (sI σ 1 r)))[k]? = some r) : Inv0 (xOut σ r) ∧ LN (xOut σ r) (fun k' => if k' = sj (sI σ 1 r) then (L (sj (sI σ 1 r))).eraseIdx k else L k') := by
  obtain ⟨i1, i2, i3, i4, i5⟩ := hI
  have c5 : ∀ x, x ≠ r → sI (xOut σ r) 5 x = sI σ 5 x := fun x hx => s1_o (I := sI σ) (f := 5) (f' := 5) (v := -1) hx
  have c5r : sI (xOut σ r) 5 r = -1 := s1_ss (sI σ) 5 r (-1)
  have cf : ∀ f, f ≠ 5 → sI (xOut σ r) f = sI σ f := fun f hf => s1_f (I := sI σ) (f := 5) (v := -1) (o := r) hf
  have hno : rs (sI (xOut σ r)) r = false := by
    cases h : rs (sI (xOut σ r)) r with
    | false => rfl
    | true => rw [rs_iff, c5r, i_m1] at h; omega
  have hside := (i2.1 r hr).2.2
  have del : Line (sI (xOut σ r)) (sn σ) (sI σ 1 r) ((L (sj (sI σ 1 r))).eraseIdx k) := (sj_val hside hL).del hk (by
    cases h : onS (sI (xOut σ r)) (sI σ 1 r) r with
    | false => rfl
    | true => rw [onS_iff, hno] at h; exact absurd h.1 (by decide)) (fun x hx => ⟨by rw [cf 1 (by decide)], by rw [cf 2 (by decide)], c5 x hx⟩)
  have keep : ∀ (b : Int32) (K : List Nat), b ≠ sI σ 1 r → Line (sI σ) (sn σ) b K → Line (sI (xOut σ r)) (sn σ) b K := by
    intro b K hb hK
    have notr : ∀ x, x ∈ K → x ≠ r := fun x hx e => by
      have := ((hK.1 x).mp hx).2
      rw [onS_iff] at this
      exact hb (by rw [← this.2, e])
    refine ⟨fun x => ?_, List.Pairwise.imp_of_mem ?_ hK.2⟩
    · by_cases zx : x = r
      · constructor
        · intro hm; exact absurd zx (notr x hm)
        · rintro ⟨-, hs⟩
          rw [onS_iff, zx, hno] at hs
          exact absurd hs.1 (by decide)
      · have e : onS (sI (xOut σ r)) b x = onS (sI σ) b x := by unfold onS rs; rw [cf 1 (by decide), c5 x zx]
        rw [e]; exact hK.1 x
    · intro a c ha hc hac
      rw [bf_at (by rw [cf 1 (by decide)]) (by rw [cf 2 (by decide)]) (by rw [cf 2 (by decide)]) (c5 a (notr a ha)) (c5 c (notr c hc))]
      exact hac
  refine ⟨⟨i1, ⟨fun o ho => by rw [cf 2 (by decide), cf 1 (by decide)]; exact i2.1 o ho, fun a b ha hb ra rb e => ?_⟩, fun o ho => ?_, i4, fun o ho hs => ?_⟩, ?_⟩
  · by_cases za : a = r
    · rw [za, hno] at ra; cases ra
    · by_cases zb : b = r
      · rw [zb, hno] at rb; cases rb
      · rw [c5 a za, c5 b zb] at e
        rw [rs_iff, c5 a za] at ra
        rw [rs_iff, c5 b zb] at rb
        exact i2.2 a b ha hb (rs_iff.mpr ra) (rs_iff.mpr rb) e
  · obtain ⟨p1, p2, p3, p4⟩ := i3 o ho
    rw [cf 8 (by decide)]
    show 0 ≤ (sI σ 8 o).toInt ∧ (sI σ 8 o).toInt ≤ 100000 ∧ -1 ≤ (sI (xOut σ r) 5 o).toInt ∧ (sI (xOut σ r) 5 o).toInt < (srk σ).toInt
    by_cases zo : o = r
    · subst zo; rw [c5r, i_m1]; exact ⟨p1, p2, by omega, by omega⟩
    · rw [c5 o zo]; exact ⟨p1, p2, p3, p4⟩
  · by_cases zo : o = r
    · rw [zo, hno] at hs; cases hs
    · rw [rs_iff, c5 o zo] at hs
      have := i5 o ho zo (rs_iff.mpr hs)
      unfold Rok at *
      rw [cf 3 (by decide), cf 4 (by decide), cf 8 (by decide)]
      exact this
  · rcases hside with e | e
    · rw [e] at del keep ⊢
      have e2 : sj 0 = 2 := rfl
      rw [e2] at del ⊢
      exact ⟨keep 1 _ (by decide) hL.1, del⟩
    · rw [e] at del keep ⊢
      have e2 : sj 1 = 1 := rfl
      rw [e2] at del ⊢
      exact ⟨del, keep 0 _ (by decide) hL.2⟩
/-- an order ends: out of its line -/
theorem LN.ende {σ : St} {L : Nat → List Nat} {r k : Nat} (hI : InvX σ r) (hL : LN σ L) (hr : r < sn σ) (hk : (L (sj (sI σ 1 r)))[k]? = some r) : Inv0 (xEnd σ r) ∧ LN (xEnd σ r) (fun k' => if k' = sj (sI σ 1 r) then (L (sj (sI σ 1 r))).eraseIdx k else L k') := by
  obtain ⟨h1, h2⟩ := LN.out hI hL hr hk
  rw [← xEnd_eq]
  have cc : ∀ f, f ≠ 3 → f ≠ 4 → s1 (s1 (s1 (sI σ) 5 r (-1)) 3 r 0) 4 r 0 f = sI (xOut σ r) f := fun f h3 h4 => by rw [s1_f h4, s1_f h3]; rfl
  refine ⟨((h1.x r).cols (τ := ((sn σ, s1 (s1 (s1 (sI σ) 5 r (-1)) 3 r 0) 4 r 0), σ.2)) rfl rfl (cc 1 (by decide) (by decide)) (cc 2 (by decide) (by decide)) (cc 5 (by decide) (by decide)) (cc 8 (by decide) (by decide)) (fun x _ hx _ => ⟨?_, ?_⟩)).of (fun hs => ?_), h2.cols (τ := ((sn σ, s1 (s1 (s1 (sI σ) 5 r (-1)) 3 r 0) 4 r 0), σ.2)) rfl (cc 1 (by decide) (by decide)) (cc 2 (by decide) (by decide)) (cc 5 (by decide) (by decide))⟩
  · show s1 (s1 (s1 (sI σ) 5 r (-1)) 3 r 0) 4 r 0 3 x = _; rw [s1_o hx, s1_o hx]; rfl
  · show s1 (s1 (s1 (sI σ) 5 r (-1)) 3 r 0) 4 r 0 4 x = _; rw [s1_o hx, s1_o hx]; rfl
  · exfalso
    rw [rs_iff] at hs
    have e : sI ((sn σ, s1 (s1 (s1 (sI σ) 5 r (-1)) 3 r 0) 4 r 0), σ.2) 5 r = -1 := by show s1 (s1 (s1 (sI σ) 5 r (-1)) 3 r 0) 4 r 0 5 r = _; rw [s1_f (f' := 5) (f := 4) (by decide), s1_f (f' := 5) (f := 3) (by decide), s1_ss]
    rw [e, i_m1] at hs
    omega
/-- one that doesn't rest ends -/
theorem LN.endN {σ : St} {L : Nat → List Nat} {r : Nat} (hI : Inv0 σ) (hL : LN σ L) (h5 : sI σ 5 r = -1) : Inv0 (xEnd σ r) ∧ LN (xEnd σ r) L := by
  rw [← xEnd_eq0 h5]
  have cc : ∀ f, f ≠ 3 → f ≠ 4 → s1 (s1 (sI σ) 3 r 0) 4 r 0 f = sI σ f := fun f h3 h4 => by rw [s1_f h4, s1_f h3]
  refine ⟨((hI.x r).cols (τ := ((sn σ, s1 (s1 (sI σ) 3 r 0) 4 r 0), σ.2)) rfl rfl (cc 1 (by decide) (by decide)) (cc 2 (by decide) (by decide)) (cc 5 (by decide) (by decide)) (cc 8 (by decide) (by decide)) (fun x _ hx _ => ⟨?_, ?_⟩)).of (fun hs => ?_), hL.cols (τ := ((sn σ, s1 (s1 (sI σ) 3 r 0) 4 r 0), σ.2)) rfl (cc 1 (by decide) (by decide)) (cc 2 (by decide) (by decide)) (cc 5 (by decide) (by decide))⟩
  · show s1 (s1 (sI σ) 3 r 0) 4 r 0 3 x = _; rw [s1_o hx, s1_o hx]
  · show s1 (s1 (sI σ) 3 r 0) 4 r 0 4 x = _; rw [s1_o hx, s1_o hx]
  · exfalso
    rw [rs_iff] at hs
    have e : sI ((sn σ, s1 (s1 (sI σ) 3 r 0) 4 r 0), σ.2) 5 r = -1 := (congrFun (cc 5 (by decide) (by decide)) r).trans h5
    rw [e, i_m1] at hs
    omega
section HIT
variable {σ : St} {o r : Nat}
theorem hit_f {f : Nat} (h3 : f ≠ 3) (h4 : f ≠ 4) (h7 : f ≠ 7) : sI (xHit0 σ o r) f = sI σ f := by
  show dI (s1 (sI σ) 4 r (sI σ 4 r - hQ σ o r)) o r (hQ σ o r) f = _
  rw [dI_f h3 h7, s1_f h4]
theorem hit_4r : sI (xHit0 σ o r) 4 r = sI σ 4 r - hQ σ o r := by
  show dI (s1 (sI σ) 4 r (sI σ 4 r - hQ σ o r)) o r (hQ σ o r) 4 r = _
  rw [dI_f (by decide) (by decide), s1_ss]
theorem hit_4x {x : Nat} (h : x ≠ r) : sI (xHit0 σ o r) 4 x = sI σ 4 x := by
  show dI (s1 (sI σ) 4 r (sI σ 4 r - hQ σ o r)) o r (hQ σ o r) 4 x = _
  rw [dI_f (by decide) (by decide), s1_so h]
theorem hit_3r (h : o ≠ r) : sI (xHit0 σ o r) 3 r = sI σ 3 r - hQ σ o r := by
  show dI (s1 (sI σ) 4 r (sI σ 4 r - hQ σ o r)) o r (hQ σ o r) 3 r = _
  rw [dI_3b h, s1_f (f' := 3) (f := 4) (by decide)]
theorem hit_3o (h : o ≠ r) : sI (xHit0 σ o r) 3 o = sI σ 3 o - hQ σ o r := by
  show dI (s1 (sI σ) 4 r (sI σ 4 r - hQ σ o r)) o r (hQ σ o r) 3 o = _
  rw [dI_3a h, s1_f (f' := 3) (f := 4) (by decide)]
theorem hit_x {f x : Nat} (ho : x ≠ o) (hr : x ≠ r) : sI (xHit0 σ o r) f x = sI σ f x := by
  show dI (s1 (sI σ) 4 r (sI σ 4 r - hQ σ o r)) o r (hQ σ o r) f x = _
  rw [dI_o ho hr, s1_o hr]
/-- how much is traded -/
theorem hit_q (hI : Inv0 σ) (hr : r < sn σ) (hs : rs (sI σ) r = true) (hl : 1 ≤ (sI σ 3 o).toInt) : 1 ≤ (hQ σ o r).toInt ∧ (hQ σ o r).toInt ≤ (sI σ 4 r).toInt ∧ (hQ σ o r).toInt ≤ (sI σ 3 o).toInt ∧ (sI σ 4 r).toInt ≤ (sI σ 3 r).toInt ∧ ((hQ σ o r).toInt = (sI σ 4 r).toInt ∨ (hQ σ o r).toInt = (sI σ 3 o).toInt) := by
  obtain ⟨k1, k2, k3, k4, k5⟩ := hI.2.2.2.2 r hr hs
  have hp := (hI.2.2.1 r hr).1
  unfold hQ
  rw [mn_int]
  by_cases h0 : (sI σ 8 r).toInt = 0
  · have := k4 h0
    split <;> omega
  · have := k5 (by omega)
    split <;> omega
theorem hit_inv {L : Nat → List Nat} (hI : Inv0 σ) (hL : LN σ L) (h5 : sI σ 5 o = -1) : InvX (xHit0 σ o r) r ∧ LN (xHit0 σ o r) L := by
  refine ⟨(hI.x r).cols (τ := xHit0 σ o r) rfl rfl (hit_f (by decide) (by decide) (by decide)) (hit_f (by decide) (by decide) (by decide)) (hit_f (by decide) (by decide) (by decide)) (hit_f (by decide) (by decide) (by decide)) (fun x _ hx hs => ?_), hL.cols (τ := xHit0 σ o r) rfl (hit_f (by decide) (by decide) (by decide)) (hit_f (by decide) (by decide) (by decide)) (hit_f (by decide) (by decide) (by decide))⟩
  have hxo : x ≠ o := fun z => by rw [rs_iff, z, h5, i_m1] at hs; omega
  exact ⟨hit_x hxo hx, hit_x hxo hx⟩
theorem hit_rok (hI : Inv0 σ) (hr : r < sn σ) (hor : o ≠ r) (hs : rs (sI σ) r = true) (hl : 1 ≤ (sI σ 3 o).toInt) (h3 : ¬ sI (xHit0 σ o r) 3 r = 0) (h4 : ¬ sI (xHit0 σ o r) 4 r = 0) : Rok (sI (xHit0 σ o r)) r := by
  obtain ⟨k1, k2, k3, k4, k5⟩ := hI.2.2.2.2 r hr hs
  obtain ⟨q1, q2, q3, q4, -⟩ := hit_q (o := o) hI hr hs hl
  have e3 : (sI (xHit0 σ o r) 3 r).toInt = (sI σ 3 r).toInt - (hQ σ o r).toInt := by rw [hit_3r hor]; exact i_sub (by omega) (by omega)
  have e4 : (sI (xHit0 σ o r) 4 r).toInt = (sI σ 4 r).toInt - (hQ σ o r).toInt := by rw [hit_4r]; exact i_sub (by omega) (by omega)
  have e8 : sI (xHit0 σ o r) 8 r = sI σ 8 r := congrFun (hit_f (by decide) (by decide) (by decide)) r
  have n3 : (sI (xHit0 σ o r) 3 r).toInt ≠ 0 := fun z => h3 (Int32.toInt_inj.mp (z.trans i0.symm))
  have n4 : (sI (xHit0 σ o r) 4 r).toInt ≠ 0 := fun z => h4 (Int32.toInt_inj.mp (z.trans i0.symm))
  unfold Rok
  rw [e8]
  rw [e3] at n3 ⊢
  rw [e4] at n4 ⊢
  refine ⟨by omega, by omega, by omega, fun h0 => by have := k4 h0; omega, fun hp => ?_⟩
  have := k5 hp
  omega
end HIT
theorem xRest_out {σ : St} {r : Nat} : xRest (xOut σ r) r = xRest σ r := by
  unfold xRest xOut
  have e : shw (s1 (sI σ) 5 r (-1)) r = shw (sI σ) r := by unfold shw; rw [s1_f (f' := 8) (f := 5) (by decide), s1_f (f' := 3) (f := 5) (by decide)]
  show ((sn σ, s1 (s1 (s1 (sI σ) 5 r (-1)) 5 r (srk σ)) 4 r (shw (s1 (sI σ) 5 r (-1)) r)), _, _) = _
  rw [s1_self, e]
/-- a line's order has left it -/
theorem CB.left {γ : mG} {M M1 : mMap} {β : BK} {oa cp : Nat → Nat} {L : Nat → List Nat} {σ : St} (hC : CB γ M β oa cp L σ) (hn : sn σ ≤ 250) {o k r0 : Nat} (ho : o < sn σ) (hg : M (ge γ) = none) (hA0 : AL γ M (bal β (sj (sI σ 1 o))) r0 (cp (sj (sI σ 1 o))) ((L (sj (sI σ 1 o))).map oa)) (hA9 : AL γ M1 (bal β (sj (sI σ 1 o))) r0 (cp (sj (sI σ 1 o))) (((L (sj (sI σ 1 o))).map oa).eraseIdx k))
    (hF9 : alF (mU M (oa o) (.inr (2, [.int (nI o), .int (sI σ 0 o), .int (sI σ 1 o), .int (sI σ 8 o), .int (sI σ 6 o), .int (sI σ 2 o), .int (sI σ 3 o), .int (sI σ 4 o), .int (-1), .int (sI σ 7 o)]))) M1 (bal β (sj (sI σ 1 o))) r0 r0) : CB γ M1 β oa cp (fun k' => if k' = sj (sI σ 1 o) then (L (sj (sI σ 1 o))).eraseIdx k else L k') (xOut σ o) ∧ frC M M1 := by
  rw [← map_del] at hA9
  rw [← oc_5] at hF9
  have hOo := hC.ord o ho
  obtain ⟨hC1, hf1⟩ := hC.setO hn ho (J := s1 (sI σ) 5 o (-1)) (fun f x hx => s1_o hx) (e := .inr (2, oc (s1 (sI σ) 5 o (-1)) o)) rfl
  have hg1 := mU_g (e := .inr (2, oc (s1 (sI σ) 5 o (-1)) o)) hg hOo
  obtain ⟨hC2, hf2⟩ := hC1.line hg1 (sj_or _) (hA0.setO hOo (by decide)) hA9 hF9
  rw [up_same] at hC2
  exact ⟨hC2, hf1.tr hf2⟩
theorem out_f {σ : St} {r f : Nat} (h : f ≠ 5) : sI (xOut σ r) f = sI σ f := by
  show s1 (sI σ) 5 r (-1) f = _
  rw [s1_f h]
theorem nd_len : ∀ (n : Nat) (L : List Nat), L.Nodup → (∀ x, x ∈ L → x < n) → L.length ≤ n := by
  intro n
  induction n with
  | zero =>
    intro L _ h
    cases L with
    | nil => exact Nat.le_refl _
    | cons a t => exact absurd (h a List.mem_cons_self) (Nat.not_lt_zero a)
  | succ n ih =>
    intro L hn h
    by_cases hm : n ∈ L
    · have h1 := ih (L.erase n) (hn.erase n) (fun x hx => by
        have := (List.Nodup.mem_erase_iff hn).mp hx
        have := h x this.2
        omega)
      rw [List.length_erase_of_mem hm] at h1
      omega
    · have := ih L hn (fun x hx => by
        have h1 := h x hx
        have : x ≠ n := fun z => hm (z ▸ hx)
        omega)
      omega
theorem Line.len {I : Co} {n : Nat} {s : Int32} {L : List Nat} (h : Line I n s L) (hn : n ≤ 250) : L.length ≤ 250 := Nat.le_trans (nd_len n L h.nodup (fun x hx => ((h.1 x).mp hx).1)) hn
