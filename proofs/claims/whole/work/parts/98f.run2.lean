/-! Every call keeps what holds between the calls -/
theorem RIN.t {σ : St} {k : Nat} (h : RIN σ k) (hk : k ≤ 512) : stn σ ≤ 30000 ∧ (srk σ).toInt ≤ 500000000 := ⟨by have := h.2.2.2.2.2.2.1; omega, by have := h.2.2.2.2.2.2.2; omega⟩
theorem RIN.up {σ : St} {k : Nat} (h : RIN σ k) : RIN σ (k + 1) := ⟨h.1, h.2.1, h.2.2.1, h.2.2.2.1, h.2.2.2.2.1, h.2.2.2.2.2.1, by have := h.2.2.2.2.2.2.1; omega, by have := h.2.2.2.2.2.2.2; omega⟩
theorem rin_end {σ : St} {k o : Nat} (h : RIN σ k) (ho : o < sn σ) (hI : Inv0 (xEnd σ o)) : RIN (xEnd σ o) k := by
  obtain ⟨-, hB, hY, hM, hZ, hT, hΦ, hR⟩ := h
  obtain ⟨y1, y2⟩ := end_ny (o := o) hY hM
  refine ⟨hI, hB, y1, y2, end_nz (hZ.x o), fun x hx => ?_, ?_, hR⟩
  · have hx' : sn σ ≤ x := hx
    rw [end_x (by omega), end_x (by omega)]; exact hT x hx'
  · have := end_phi (τ := σ) ho
    show stn σ + phS (sI (xEnd σ o)) (sn σ) ≤ _
    omega
theorem rin_can {σ : St} {k : Nat} {w : Int32} (h : RIN σ k) : ∀ i, i ≤ sn σ → RIN (xCan σ w i).1 k := by
  intro i
  induction i with
  | zero => intro _; exact h
  | succ i ih =>
    intro hi
    have h1 := ih (by omega)
    have hs := (can_sn σ w i).1
    unfold xCan
    split
    · exact rin_end h1 (by rw [hs]; omega) (LN.ende0 h1.1 (by rw [hs]; omega))
    · exact h1
theorem rin_call {σ : St} {k : Nat} (h : RIN σ k) : RIN (oPh σ 0) k := ⟨h.1, h.2.1, fun z => absurd z (show ¬ (0 : Int32) = 1 by decide), fun z => absurd z (show ¬ (0 : Int32) = 1 by decide), h.2.2.2.2.1, h.2.2.2.2.2.1, h.2.2.2.2.2.2.1, h.2.2.2.2.2.2.2⟩
theorem rin_band {σ : St} {k : Nat} {a b : Int32} (h : RIN σ k) (h1 : rg 1 2000 a = true) (h2 : rg 0 2000 b = true) : RIN (oBand σ a b) k := by
  have q1 := rg_i h1
  have q2 := rg_i h2
  rw [i_1, show (2000 : Int32).toInt = 2000 by decide] at q1
  rw [i0, show (2000 : Int32).toInt = 2000 by decide] at q2
  exact ⟨h.1, ⟨q1, q2⟩, h.2.2.1, h.2.2.2.1, h.2.2.2.2.1, h.2.2.2.2.2.1, h.2.2.2.2.2.2.1, h.2.2.2.2.2.2.2⟩
theorem rin_0 : RIN σ0 0 := by
  refine ⟨⟨by decide, ⟨fun o ho => absurd ho (Nat.not_lt_zero _), fun a b ha => absurd ha (Nat.not_lt_zero _)⟩, fun o ho => absurd ho (Nat.not_lt_zero _), by decide, fun o ho => absurd ho (Nat.not_lt_zero _)⟩, ⟨⟨by decide, by decide⟩, by decide, by decide⟩, fun z => absurd z (by decide), fun z => absurd z (by decide), fun o ho => absurd ho (Nat.not_lt_zero _), fun x _ => ⟨rfl, rfl⟩, by decide, by decide⟩
section AMEND
variable {σ : St} {k m : Nat} {p q : Int32} {L : Nat → List Nat}
abbrev aT (σ : St) (k : Nat) (p q : Int32) : St := xAsk (xOut σ k) k p q
theorem aT_x {f x : Nat} (h : x ≠ k) : sI (aT σ k p q) f x = sI σ f x := (ask_x h).trans (by show s1 (sI σ) 5 k (-1) f x = _; exact s1_o h)
theorem aT_5 : sI (aT σ k p q) 5 k = -1 := by rw [ask_f (by decide) (by decide)]; show s1 (sI σ) 5 k (-1) 5 k = -1; exact s1_ss _ _ _ _
theorem aT_f {f : Nat} (h2 : f ≠ 2) (h3 : f ≠ 3) (h5 : f ≠ 5) : sI (aT σ k p q) f = sI σ f := (ask_f h2 h3).trans (out_f h5)
theorem aT_inv (hI : Inv0 σ) (hL : LN σ L) (hk : k < sn σ) (hs : rs (sI σ) k = true) (hp : 0 ≤ p.toInt ∧ p.toInt ≤ 2000) : Inv0 (aT σ k p q) ∧ ∃ L', LN (aT σ k p q) L' ∧ L' (sj (opp (sI σ 1 k))) = L (sj (opp (sI σ 1 k))) := by
  have hsd := (hI.2.1.1 k hk).2.2
  have hK : Line (sI σ) (sn σ) (sI σ 1 k) (L (sj (sI σ 1 k))) := sj_val hsd hL
  obtain ⟨i, hi, e⟩ := List.getElem_of_mem ((hK.1 k).mpr ⟨hk, onS_t hs rfl⟩)
  obtain ⟨h1, h2⟩ := LN.out (hI.x k) hL hk (k := i) (by rw [List.getElem?_eq_getElem hi, e])
  have h5 : sI (xOut σ k) 5 k = -1 := by show s1 (sI σ) 5 k (-1) 5 k = -1; exact s1_ss _ _ _ _
  exact ⟨h1.ask h5 hp, _, h2.ask h5, if_neg (sj_opp hsd)⟩
theorem inv_x4 {τ : St} {v : Int32} (hI : Inv0 τ) (h5 : sI τ 5 k = -1) : Inv0 (x4 τ k v) := by
  obtain ⟨h1, h2, h3, h4, h6⟩ := hI
  have e : ∀ f, f ≠ 4 → sI (x4 τ k v) f = sI τ f := fun f hf => x4_f hf
  refine ⟨h1, ⟨fun o ho => by rw [e 2 (by decide), e 1 (by decide)]; exact h2.1 o ho, fun a b ha hb ra rb hab => ?_⟩, fun o ho => by rw [e 8 (by decide), e 5 (by decide)]; exact h3 o ho, h4, fun o ho hs => ?_⟩
  · rw [e 5 (by decide)] at hab
    rw [rs_at (congrFun (e 5 (by decide)) a)] at ra
    rw [rs_at (congrFun (e 5 (by decide)) b)] at rb
    exact h2.2 a b ha hb ra rb hab
  · rw [rs_at (congrFun (e 5 (by decide)) o)] at hs
    have ho' : o ≠ k := fun z => by rw [z, rs_m1 h5] at hs; cases hs
    have := h6 o ho hs
    unfold Rok at this ⊢
    rw [e 3 (by decide), e 8 (by decide), x4_r ho']
    exact this
theorem rAm_inv (hI : Inv0 σ) (hL : LN σ L) (hk : k < sn σ) (hs : rs (sI σ) k = true) (hp : 0 ≤ p.toInt ∧ p.toInt ≤ 2000) : Inv0 (rAm σ k p q) ∧ ∃ L', LN (rAm σ k p q) L' := by
  obtain ⟨h1, L', h2, -⟩ := aT_inv (q := q) hI hL hk hs hp
  rw [rAm_x4]
  exact ⟨inv_x4 h1 aT_5, L', h2.cols rfl (x4_f (by decide)) (x4_f (by decide)) (x4_f (by decide))⟩
/-- the reference lets the same come as the class -/
theorem rAm_come (hI : Inv0 σ) (hL : LN σ L) (hk : k < sn σ) (hs : rs (sI σ) k = true) (hp : 0 ≤ p.toInt ∧ p.toInt ≤ 2000) (hq : 0 ≤ q.toInt) (hrk : (srk σ).toInt ≤ 500000000) : xCome (cov (rAm σ k p q) k) (rAm σ k p q) k = xCome (cgw (aT σ k p q) (L (sj (opp (sI σ 1 k)))) k) (aT σ k p q) k := by
  obtain ⟨h1, L', h2, h3⟩ := aT_inv (q := q) hI hL hk hs hp
  have e1 : sI (aT σ k p q) 1 = sI σ 1 := aT_f (by decide) (by decide) (by decide)
  have hc := cov_cgw (σ := aT σ k p q) (o := k) h1 h2 hk
  rw [e1, h3] at hc
  rw [rAm_x4, x4_cov, x4_come h1 h2 hk aT_5 (by rw [ask_3]; exact hq) hrk, hc]
theorem rin_amend {g : Bool} (h : RIN σ m) (hL : LN σ L) (hm : m ≤ 512) (hk : k < sn σ) (hs : rs (sI σ) k = true) (hv1 : rg 0 2000 p = true) (hv2 : rg 1 100000 q = true) (hv3 : fpk q (sI σ 8 k) = true) :
    stn (xCome g (aT σ k p q) k) ≤ 51 * (m + 1) ∧ ((srk (xCome g (aT σ k p q) k)).toInt ≤ (srk σ).toInt + 100001 → Inv0 (xCome g (aT σ k p q) k) → RIN (xCome g (aT σ k p q) k) (m + 1)) := by
  obtain ⟨hI, hB, hY, hM, hZ, hT, hΦ, hR⟩ := h
  have hp0 := rg_i hv1
  have hq0 := rg_i hv2
  rw [i0, show (2000 : Int32).toInt = 2000 by decide] at hp0
  rw [i_1, show (100000 : Int32).toInt = 100000 by decide] at hq0
  obtain ⟨h1, L', h2, -⟩ := aT_inv (q := q) hI hL hk hs hp0
  have hrk : (srk (aT σ k p q)).toInt ≤ 500000000 := by show (srk σ).toInt ≤ _; omega
  have e3 : sI (aT σ k p q) 3 k = q := ask_3
  have e8 : sI (aT σ k p q) 8 k = sI σ 8 k := congrFun (aT_f (by decide) (by decide) (by decide)) k
  have h8 := hI.2.2.1 k hk
  have hsub : ∀ x, x < sn σ → rs (sI (aT σ k p q)) x = true → rs (sI σ) x = true ∧ sI (aT σ k p q) 1 x = sI σ 1 x ∧ sI (aT σ k p q) 2 x = sI σ 2 x := by
    intro x hx hr
    have ex : x ≠ k := fun z => by rw [z, rs_m1 aT_5] at hr; cases hr
    rw [rs_at (aT_x ex)] at hr
    exact ⟨hr, aT_x ex, aT_x ex⟩
  have hnz : NZx (aT σ k p q) k := fun x hx ex hr => by
    rw [rs_at (aT_x ex)] at hr
    rw [aT_x ex, aT_x ex]
    exact hZ x hx hr
  have hphi0 : phS (sI (aT σ k p q)) (sn σ) ≤ phS (sI σ) (sn σ) := phS_le (fun x _ => by
    by_cases ex : x = k
    · subst ex; rw [phO_no (rs_m1 aT_5)]; exact Nat.zero_le _
    · rw [phO_cols (aT_x ex) (aT_x ex) (aT_x ex) (aT_x ex)]; exact Nat.le_refl _)
  have hphi := come_phi (g := g) h1 h2 hk aT_5 (by rw [e3]; omega) (by rw [e3, e8]; exact fpk_i hv3 h8.1 h8.2.1) hrk
  have e9 : stn (aT σ k p q) = stn σ := rfl
  have e10 : sn (aT σ k p q) = sn σ := rfl
  rw [e9, e10] at hphi
  obtain ⟨y1, y2⟩ := come_ny (g := g) h1 h2 hk aT_5 (by rw [e3]; omega) (by rw [e3]; omega) hrk (ny_sub (σ := σ) (τ := aT σ k p q) rfl (fun z => z) hsub hY) (nm_sub (σ := σ) (τ := aT σ k p q) rfl (fun z => z) hsub hM)
  refine ⟨by omega, fun hs2 hI2 => ⟨hI2, come_BD hk hB, y1, y2, come_nz h1 h2 hk aT_5 (by rw [e3]; omega) hrk hnz, come_TZ hk (fun x hx => ?_), ?_, by omega⟩⟩
  · have hx' : sn σ ≤ x := hx
    rw [aT_x (by omega), aT_x (by omega)]; exact hT x hx'
  · rw [(come_far (g := g) (σ := aT σ k p q) hk).1]
    show stn (xCome g (aT σ k p q) k) + phS (sI (xCome g (aT σ k p q) k)) (sn σ) ≤ 51 * (m + 1)
    omega
theorem rin_less (h : RIN σ m) (hk : k < sn σ) (hs : rs (sI σ) k = true) (hq : 1 ≤ q.toInt) (hle : q ≤ sI σ 3 k) : RIN (xLess σ k q) m := by
  obtain ⟨hI, hB, hY, hM, hZ, hT, hΦ, hR⟩ := h
  have hle' := Int32.le_iff_toInt_le.mp hle
  have f1 : sI (xLess σ k q) 1 = sI σ 1 := less_f (by decide) (by decide)
  have f2 : sI (xLess σ k q) 2 = sI σ 2 := less_f (by decide) (by decide)
  have f5 : sI (xLess σ k q) 5 = sI σ 5 := less_f (by decide) (by decide)
  have f8 : sI (xLess σ k q) 8 = sI σ 8 := less_f (by decide) (by decide)
  have hsub : ∀ x, x < sn σ → rs (sI (xLess σ k q)) x = true → rs (sI σ) x = true ∧ sI (xLess σ k q) 1 x = sI σ 1 x ∧ sI (xLess σ k q) 2 x = sI σ 2 x := fun x _ hr => ⟨by rw [← rs_at (congrFun f5 x)]; exact hr, congrFun f1 x, congrFun f2 x⟩
  refine ⟨less_inv hI hk hs hq hle', hB, ny_sub (σ := σ) (τ := xLess σ k q) rfl (fun z => z) hsub hY, nm_sub (σ := σ) (τ := xLess σ k q) rfl (fun z => z) hsub hM, fun x hx hr => ?_, fun x hx => ?_, ?_, hR⟩
  · rw [rs_at (congrFun f5 x)] at hr
    have ex : x ≠ k := fun z => by rw [z, hs] at hr; cases hr
    rw [less_x ex, less_x ex]
    exact hZ x hx hr
  · have hx' : sn σ ≤ x := hx
    rw [less_x (by omega), less_x (by omega)]; exact hT x hx'
  · show stn σ + phS (sI (xLess σ k q)) (sn σ) ≤ _
    have : phS (sI (xLess σ k q)) (sn σ) ≤ phS (sI σ) (sn σ) := phS_le (fun x hx => by
      by_cases ex : x = k
      · subst ex
        have hr := hI.2.2.2.2 x hx hs
        unfold phO
        rw [rs_at (congrFun f5 x), f8, if_pos hs, if_pos hs]
        split
        · exact Nat.le_refl _
        · refine Nat.add_le_add_left (slc_mono ?_) 1
          rw [less_3, less_4, mn_int]
          split <;> omega
      · rw [phO_cols (less_x ex) (less_x ex) (less_x ex) (less_x ex)]; exact Nat.le_refl _)
    omega
end AMEND
section OPENR
variable {σ : St} {p : Int32} {v : Int64}
theorem dl_4c {b a o : Nat} (hs : rs (sI (xDl σ b a p v)) o = true) : rs (sI σ) o = true ∧ sI (xDl σ b a p v) 4 o = sI σ 4 o := by
  have key : ∀ (τ : St) (r : Nat), rs (sI (xFin τ r)) o = true → rs (sI τ) o = true ∧ sI (xFin τ r) 4 o = sI τ 4 o := by
    intro τ r h
    by_cases e : o = r
    · subst e; have := fin_rs h; rw [this.1] at h ⊢; exact ⟨h, rfl⟩
    · rw [rs_at (fin_x e)] at h; exact ⟨h, fin_x e⟩
  obtain ⟨h1, e1⟩ := key _ _ hs
  obtain ⟨h2, e2⟩ := key _ _ h1
  have d5 : sI (xDeal σ b a p (oQ σ b a v)) 5 = sI σ 5 := deal_f (by decide) (by decide)
  have d4 : sI (xDeal σ b a p (oQ σ b a v)) 4 = sI σ 4 := deal_f (by decide) (by decide)
  exact ⟨by rw [← rs_at (congrFun d5 o)]; exact h2, e1.trans (e2.trans (congrFun d4 o))⟩
theorem one_4c {o : Nat} : ∀ {k : Nat} {σ : St} {p : Int32} {v : Int64}, rs (sI (xOne k σ p v)) o = true → rs (sI σ) o = true ∧ sI (xOne k σ p v) 4 o = sI σ 4 o := by
  intro k
  induction k with
  | zero => intro σ p v h; exact ⟨h, rfl⟩
  | succ k ih =>
    intro σ p v h
    by_cases hv : 0 < v
    · cases hb : fst (sI σ) 1 (sn σ) with
      | none => rw [xOne_nb hb] at h ⊢; exact ⟨h, rfl⟩
      | some b =>
        cases ha : fst (sI σ) 0 (sn σ) with
        | none => rw [xOne_na ha] at h ⊢; exact ⟨h, rfl⟩
        | some a =>
          rw [xOne_go hv hb ha] at h ⊢
          obtain ⟨h1, e1⟩ := ih h
          obtain ⟨h2, e2⟩ := dl_4c h1
          exact ⟨h2, e1.trans e2⟩
    · rw [xOne_no hv] at h ⊢; exact ⟨h, rfl⟩
theorem one_2 : ∀ {k : Nat} {σ : St} {p : Int32} {v : Int64}, (xOne k σ p v).2.1 = σ.2.1 := by
  intro k
  induction k with
  | zero => intro σ p v; rfl
  | succ k ih =>
    intro σ p v
    by_cases hv : 0 < v
    · cases hb : fst (sI σ) 1 (sn σ) with
      | none => rw [xOne_nb hb]
      | some b =>
        cases ha : fst (sI σ) 0 (sn σ) with
        | none => rw [xOne_na ha]
        | some a => rw [xOne_go hv hb ha, ih, dl_4]
    · rw [xOne_no hv]
theorem one_far {x f : Nat} : ∀ {k : Nat} {σ : St} {p : Int32} {v : Int64}, sn σ ≤ x → sI (xOne k σ p v) f x = sI σ f x := by
  intro k
  induction k with
  | zero => intro σ p v _; rfl
  | succ k ih =>
    intro σ p v hx
    by_cases hv : 0 < v
    · cases hb : fst (sI σ) 1 (sn σ) with
      | none => rw [xOne_nb hb]
      | some b =>
        cases ha : fst (sI σ) 0 (sn σ) with
        | none => rw [xOne_na ha]
        | some a =>
          have h1 := fst_lt hb
          have h2 := fst_lt ha
          rw [xOne_go hv hb ha, ih (by rw [dl_sn]; exact hx)]
          unfold xDl
          rw [fin_x (by omega), fin_x (by omega)]
          exact dI_o (by omega) (by omega)
    · rw [xOne_no hv]
theorem rin_open {L : Nat → List Nat} {k : Nat} (h : RIN σ k) (hL : LN σ L) :
    stn (xOp σ (aAt (sI σ) (L 1) (L 2) (srf σ) 2000)) ≤ 51 * (k + 1) ∧ (InvB (oPh (xSts (xOp σ (aAt (sI σ) (L 1) (L 2) (srf σ) 2000)) (sn σ)) 1) → RIN (oPh (xSts (xOp σ (aAt (sI σ) (L 1) (L 2) (srf σ) 2000)) (sn σ)) 1) (k + 1)) := by
  obtain ⟨hI, hB, hY, hM, hZ, hT, hΦ, hR⟩ := h
  obtain ⟨ok1, ok2⟩ := open_ok hI hL
  have hA := aAt_nn (I := sI σ) (K1 := L 1) (K2 := L 2) (rf := srf σ) 2000 (Nat.le_refl _)
  obtain ⟨A, hAe⟩ : ∃ A, A = aAt (sI σ) (L 1) (L 2) (srf σ) 2000 := ⟨_, rfl⟩
  rw [← hAe] at ok1 ok2 hA ⊢
  have hw : ∀ o, o < sn σ → rs (sI σ) o = true → Rwk (sI σ) o := fun o ho hs => (hI.2.2.2.2 o ho hs).wk
  have hw1 := one_rw (k := 250) (p := A.1) (v := A.2.1) hI.2.1 hw
  have hphi := one_phi (k := 250) (p := A.1) (v := A.2.1) hI.2.1 hw
  have eop : stn (xOp σ A) = stn (xOne 250 σ A.1 A.2.1) := by
    unfold xOp
    split
    · rfl
    · rename_i z; rw [xOne_no z]
  have hsn : sn (xOp σ A) = sn σ := op_sn
  have hp8 : ∀ o, o < sn (xOp σ A) → 0 ≤ (sI (xOp σ A) 8 o).toInt := fun o ho => by
    rw [hsn] at ho
    rw [op_cols, one_f (f := 8) (by decide) (by decide) (by decide) (by decide)]
    exact (hI.2.2.1 o ho).1
  have hrw : ∀ o, o < sn (xOp σ A) → ¬ sI (xOp σ A) 5 o = -1 → Rwk (sI (xOp σ A)) o := fun o ho h5 => by
    rw [hsn] at ho
    have h9 := (op_5 (a := A) hI ho).resolve_left h5
    rw [op_cols] at h9 ⊢
    exact hw1 o ho h9
  have h4 : ∀ o, o < sn (xOp σ A) → ¬ sI (xOp σ A) 5 o = -1 → 0 < (sI (xOp σ A) 8 o).toInt → (sI (xOp σ A) 4 o).toInt ≤ (sI (xOp σ A) 8 o).toInt := fun o ho h5 h8 => by
    rw [hsn] at ho
    have h9 := (op_5 (a := A) hI ho).resolve_left h5
    rw [op_cols] at h9 h8 ⊢
    rw [one_f (f := 8) (by decide) (by decide) (by decide) (by decide)] at h8 ⊢
    obtain ⟨c1, c2⟩ := one_4c h9
    rw [c2]
    exact ((hI.2.2.2.2 o ho c1).2.2.2.2 h8).2.1
  have hsts := sts_phi hp8 h4 (k := sn σ) (by rw [hsn]; exact Nat.le_refl _)
  rw [hsn, op_cols] at hsts
  refine ⟨by omega, fun hBB => ?_⟩
  obtain ⟨i1, i2⟩ := open_inv hp8 hrw (n := sn σ) hsn.symm hBB
  have hs2 := sts_sn (xOp σ A) (sn σ)
  have hrk : srk (xOp σ A) = srk σ ∧ sbd (xOp σ A) = sbd σ := by
    unfold xOp
    split
    · show (xOne 250 σ A.1 A.2.1).2.1.2.2.2 = _ ∧ (xOne 250 σ A.1 A.2.1).2.1.2.2.1 = _
      rw [one_2]; exact ⟨rfl, rfl⟩
    · exact ⟨rfl, rfl⟩
  have hsnf : sn (oPh (xSts (xOp σ A) (sn σ)) 1) = sn σ := hs2.1.trans hsn
  have hNZ : NZ (xOp σ A) := by
    have := one_nz (k := 250) (p := A.1) (v := A.2.1) hI.2.1 hZ
    unfold xOp
    split
    · exact this
    · exact hZ
  refine ⟨i1, ?_, ok2, fun _ o ho hs => i2 o (by rw [hsnf] at ho; rw [hsn]; exact ho) hs, sts_nz hNZ _, fun x hx => ?_, ?_, ?_⟩
  · have e1 : srf (oPh (xSts (xOp σ A) (sn σ)) 1) = srf (xOp σ A) := by show (xSts (xOp σ A) (sn σ)).2.1.2.1 = _; rw [hs2.2]
    have e2 : sbd (oPh (xSts (xOp σ A) (sn σ)) 1) = sbd (xOp σ A) := by show (xSts (xOp σ A) (sn σ)).2.1.2.2.1 = _; rw [hs2.2]
    unfold BD
    rw [e1, e2, hrk.2]
    refine ⟨?_, hB.2⟩
    unfold xOp
    split
    · rename_i z
      exact ⟨hA.2.2.2 z, hA.2.2.1⟩
    · exact hB.1
  · rw [hsnf] at hx
    have e : ∀ f, sI (oPh (xSts (xOp σ A) (sn σ)) 1) f x = sI σ f x := fun f => by
      show sI (xSts (xOp σ A) (sn σ)) f x = _
      rw [sts_late hx, op_cols, one_far hx]
    rw [e, e]; exact hT x hx
  · rw [hsnf]
    have e1 : stn (oPh (xSts (xOp σ A) (sn σ)) 1) = stn (xOp σ A) := by show (xSts (xOp σ A) (sn σ)).2.2.1 = _; rw [hs2.2]
    have e2 : phS (sI (oPh (xSts (xOp σ A) (sn σ)) 1)) (sn σ) = phS (sI (xSts (xOp σ A) (sn σ))) (sn σ) := rfl
    rw [e1, e2, eop]
    omega
  · have e1 : srk (oPh (xSts (xOp σ A) (sn σ)) 1) = srk (xOp σ A) := by show (xSts (xOp σ A) (sn σ)).2.1.2.2.2 = _; rw [hs2.2]
    rw [e1, hrk.1]
    omega
end OPENR
