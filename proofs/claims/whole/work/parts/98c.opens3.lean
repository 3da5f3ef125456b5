/-! Behind clearing: nobody could trade -/
theorem gs_int {f : Nat → Int64} : ∀ {k : Nat}, k ≤ 1000 → (∀ x, x < k → 0 ≤ (f x).toInt ∧ (f x).toInt ≤ 100000) → (gs f k).toInt = gI (fun x => (f x).toInt) k ∧ 0 ≤ (gs f k).toInt ∧ (gs f k).toInt ≤ 100000 * k := by
  intro k
  induction k with
  | zero => intro _ _; exact ⟨rfl, (by decide : (0 : Int) ≤ (0 : Int64).toInt), (by decide : (0 : Int64).toInt ≤ 100000 * ((0 : Nat) : Int))⟩
  | succ k ih =>
    intro hk h
    obtain ⟨h1, h2, h3⟩ := ih (by omega) (fun x hx => h x (by omega))
    have h4 := h k (by omega)
    have e : (gs f k + f k).toInt = (gs f k).toInt + (f k).toInt := by
      rw [Int64.toInt_add, Int.bmod_def]
      omega
    refine ⟨?_, ?_, ?_⟩
    · show (gs f k + f k).toInt = gI _ k + _
      rw [e, h1]
    · show 0 ≤ (gs f k + f k).toInt
      rw [e]; omega
    · show (gs f k + f k).toInt ≤ _
      rw [e]; omega
section OP3
variable {I : Co} {n : Nat}
theorem gs_tP {c : Nat → Prop} [∀ o, Decidable (c o)] (hn : n ≤ 250) (hw : ∀ o, o < n → c o → 1 ≤ (I 3 o).toInt ∧ (I 3 o).toInt ≤ 100000) : (gs (fun o => if c o then (I 3 o).toInt64 else 0) n).toInt = tP I (fun o => decide (c o)) n := by
  rw [(gs_int (by omega) (fun x hx => ?_)).1]
  · unfold tP
    refine gI_congr (fun o _ => ?_)
    by_cases h : c o
    · rw [if_pos h, if_pos (decide_eq_true h), Int32.toInt_toInt64]
    · rw [if_neg h, if_neg (fun z => h (of_decide_eq_true z))]; rfl
  · by_cases h : c x
    · rw [if_pos h, Int32.toInt_toInt64]
      have := hw x hx h
      omega
    · rw [if_neg h]; decide
theorem tP_le {P P' : Nat → Bool} (hw : ∀ o, o < n → P' o = true → 0 ≤ (I 3 o).toInt) (h : ∀ o, o < n → P o = true → P' o = true) : tP I P n ≤ tP I P' n := by
  unfold tP
  refine gI_le (fun o ho => ?_)
  by_cases h1 : P o = true
  · rw [if_pos h1, if_pos (h o ho h1)]; exact Int.le_refl _
  · rw [if_neg h1]
    by_cases h2 : P' o = true
    · rw [if_pos h2]; exact hw o ho h2
    · rw [if_neg h2]; exact Int.le_refl _
theorem aMv_le (w o : Int64) : (aMv w o).toInt ≤ w.toInt ∧ (aMv w o).toInt ≤ o.toInt ∧ ((aMv w o).toInt = w.toInt ∨ (aMv w o).toInt = o.toInt) := by
  unfold aMv
  by_cases h : o < w
  · rw [if_pos h]; have := Int64.lt_iff_toInt_lt.mp h; exact ⟨by omega, Int.le_refl _, Or.inr rfl⟩
  · rw [if_neg h]; have := Int64.le_iff_toInt_le.mp (Int64.not_lt.mp h); exact ⟨Int.le_refl _, this, Or.inl rfl⟩
theorem wgh_max {p rf : Int32} {w o : Int64} {a : AU} (h0 : AUk a) : a.2.1.toInt ≤ (aWgh p w o rf a).2.1.toInt ∧ (aMv w o).toInt ≤ (aWgh p w o rf a).2.1.toInt ∧ ((aWgh p w o rf a).2.1 = a.2.1 ∨ (aWgh p w o rf a).2.1 = aMv w o) := by
  have h00 := Int64.le_iff_toInt_le.mp h0.1
  rw [show (0 : Int64).toInt = 0 by decide] at h00
  unfold aWgh
  by_cases h : 0 < aMv w o ∧ aBet p (aMv w o) (w - o) rf a = true
  · rw [if_pos h]
    refine ⟨?_, Int.le_refl _, Or.inr rfl⟩
    show a.2.1.toInt ≤ (aMv w o).toInt
    have h2 := h.2
    unfold aBet at h2
    by_cases e : aMv w o = a.2.1
    · rw [e]; exact Int.le_refl _
    · rw [if_neg e] at h2
      have := Int64.lt_iff_toInt_lt.mp (of_decide_eq_true h2)
      omega
  · rw [if_neg h]
    refine ⟨Int.le_refl _, ?_, Or.inl rfl⟩
    by_cases h1 : 0 < aMv w o
    · have h2 : ¬ aBet p (aMv w o) (w - o) rf a = true := fun z => h ⟨h1, z⟩
      unfold aBet at h2
      by_cases e : aMv w o = a.2.1
      · rw [e]; exact Int.le_refl _
      · rw [if_neg e] at h2
        have := Int64.le_iff_toInt_le.mp (Int64.not_lt.mp (fun z => h2 (decide_eq_true z)))
        exact this
    · have := Int64.le_iff_toInt_le.mp (Int64.not_lt.mp h1)
      rw [show (0 : Int64).toInt = 0 by decide] at this
      omega
theorem aAt_max {K1 K2 : List Nat} {rf : Int32} : ∀ {k : Nat}, k ≤ 2000 → (∀ q, 1 ≤ q → q ≤ k → (aMv (sIf I (fun r => tk I r (nI q)) K1) (sIf I (fun r => tk I r (nI q)) K2)).toInt ≤ (aAt I K1 K2 rf k).2.1.toInt) ∧ ((aAt I K1 K2 rf k).2.1 = 0 ∨ ∃ q, 1 ≤ q ∧ q ≤ k ∧ (aAt I K1 K2 rf k).2.1 = aMv (sIf I (fun r => tk I r (nI q)) K1) (sIf I (fun r => tk I r (nI q)) K2)) := by
  intro k
  induction k with
  | zero => intro _; exact ⟨fun q h1 h2 => by omega, Or.inl rfl⟩
  | succ k ih =>
    intro hk
    obtain ⟨h1, h2⟩ := ih (by omega)
    obtain ⟨w1, w2, w3⟩ := wgh_max (p := nI (k + 1)) (rf := rf) (w := sIf I (fun r => tk I r (nI (k + 1))) K1) (o := sIf I (fun r => tk I r (nI (k + 1))) K2) (aAt_nn (I := I) (K1 := K1) (K2 := K2) (rf := rf) k (by omega))
    refine ⟨fun q hq1 hq2 => ?_, ?_⟩
    · by_cases e : q = k + 1
      · subst e; exact w2
      · exact Int.le_trans (h1 q hq1 (by omega)) w1
    · rcases w3 with e | e
      · rcases h2 with h2 | ⟨q, q1, q2, q3⟩
        · exact Or.inl (e.trans h2)
        · exact Or.inr ⟨q, q1, by omega, e.trans q3⟩
      · exact Or.inr ⟨k + 1, by omega, Nat.le_refl _, e⟩
end OP3
theorem one_f {f : Nat} (h3 : f ≠ 3) (h4 : f ≠ 4) (h5 : f ≠ 5) (h7 : f ≠ 7) : ∀ {k : Nat} {σ : St} {p : Int32} {v : Int64}, sI (xOne k σ p v) f = sI σ f := by
  intro k
  induction k with
  | zero => intro σ p v; rfl
  | succ k ih =>
    intro σ p v
    by_cases hv : 0 < v
    · cases hb : fst (sI σ) 1 (sn σ) with
      | none => rw [xOne_nb hb]
      | some b =>
        cases ha : fst (sI σ) 0 (sn σ) with
        | none => rw [xOne_na ha]
        | some a => rw [xOne_go hv hb ha, ih, dl_f h3 h4 h5 h7]
    · rw [xOne_no hv]
theorem sts_f {σ : St} {f : Nat} (h3 : f ≠ 3) (h4 : f ≠ 4) (h5 : f ≠ 5) : ∀ k, sI (xSts σ k) f = sI σ f := by
  intro k
  induction k with
  | zero => rfl
  | succ k ih => exact (start_f h3 h4 h5).trans ih
theorem sts_5 {σ : St} {x : Nat} : ∀ k, sI (xSts σ k) 5 x = sI σ 5 x ∨ sI (xSts σ k) 5 x = -1 := by
  intro k
  induction k with
  | zero => exact Or.inl rfl
  | succ k ih =>
    show sI (xStart (xSts σ k) k) 5 x = _ ∨ sI (xStart (xSts σ k) k) 5 x = _
    by_cases e : x = k
    · subst e
      unfold xStart
      split
      · exact ih
      · split
        · exact Or.inr end_5
        · rw [show sI (xShow (xSts σ x) x) 5 x = sI (xSts σ x) 5 x from congrFun (show_f (by decide)) x]; exact ih
    · rw [show sI (xStart (xSts σ k) k) 5 x = sI (xSts σ k) 5 x from start_x e]; exact ih
theorem op_cols {σ : St} {a : AU} : sI (xOp σ a) = sI (xOne 250 σ a.1 a.2.1) := by
  unfold xOp
  split
  · rfl
  · rename_i h; rw [xOne_no h]
theorem Rok.wk {I : Co} {o : Nat} (h : Rok I o) : Rwk I o := ⟨h.1, h.2.1, fun z => (h.2.2.2.2 z).2.2⟩
theorem tP_on {I : Co} {n o : Nat} {s : Int32} (ho : o < n) (hon : onS I s o = true) (hw : ∀ x, x < n → rs I x = true → 1 ≤ (I 3 x).toInt) : 1 ≤ tP I (uB I s o) n := by
  have hu : uB I s o o = true := by unfold uB; rw [hon, decide_eq_true rfl]; rfl
  have h1 := gI_one (f := fun x => if uB I s o x = true then (I 3 x).toInt else 0) ho (fun x hx => by
    by_cases h : uB I s o x = true
    · rw [if_pos h]
      have h2 := ((Bool.and_eq_true _ _).mp h).1
      have := hw x hx (onS_iff.mp h2).1
      omega
    · rw [if_neg h]; exact Int.le_refl _)
  have h2 := hw o ho (onS_iff.mp hon).1
  have h3 : (if uB I s o o = true then (I 3 o).toInt else 0) = (I 3 o).toInt := if_pos hu
  unfold tP
  have h1' : (if uB I s o o = true then (I 3 o).toInt else 0) ≤ gI (fun x => if uB I s o x = true then (I 3 x).toInt else 0) n := h1
  rw [h3] at h1'
  omega
theorem open_ok {σ : St} {L : Nat → List Nat} (hI : Inv0 σ) (hL : LN σ L) : OneOK 250 σ (aAt (sI σ) (L 1) (L 2) (srf σ) 2000).1 (aAt (sI σ) (L 1) (L 2) (srf σ) 2000).2.1 ∧ NY (oPh (xSts (xOp σ (aAt (sI σ) (L 1) (L 2) (srf σ) 2000)) (sn σ)) 1) := by
  obtain ⟨A, hA⟩ : ∃ A, A = aAt (sI σ) (L 1) (L 2) (srf σ) 2000 := ⟨_, rfl⟩
  rw [← hA]
  have hn := hI.1
  have hO := hI.2.1
  have hw : ∀ o, o < sn σ → rs (sI σ) o = true → Rwk (sI σ) o := fun o ho hs => (hI.2.2.2.2 o ho hs).wk
  obtain ⟨m1, m2⟩ := aAt_max (I := sI σ) (K1 := L 1) (K2 := L 2) (rf := srf σ) (k := 2000) (Nat.le_refl _)
  have hk := aAt_nn (I := sI σ) (K1 := L 1) (K2 := L 2) (rf := srf σ) 2000 (Nat.le_refl _)
  rw [← hA] at m1 m2 hk
  have v0 : 0 ≤ A.2.1.toInt := by
    have := Int64.le_iff_toInt_le.mp hk.1
    rw [show (0 : Int64).toInt = 0 by decide] at this
    exact this
  have hWi : ∀ q, (WT (sI σ) (sn σ) q).toInt = tP (sI σ) (fun o => decide (q ≤ pr (sI σ) o ∧ rs (sI σ) o = true ∧ ¬ sI σ 1 o = 0)) (sn σ) := fun q => gs_tP hn (fun o ho h => ⟨(hw o ho h.2.1).1, (hw o ho h.2.1).2.1⟩)
  have hOi : ∀ q, (OT (sI σ) (sn σ) q).toInt = tP (sI σ) (fun o => decide (pr (sI σ) o ≤ q ∧ rs (sI σ) o = true ∧ sI σ 1 o = 0)) (sn σ) := fun q => gs_tP hn (fun o ho h => ⟨(hw o ho h.2.1).1, (hw o ho h.2.1).2.1⟩)
  have nnS : ∀ s o, o < sn σ → onS (sI σ) s o = true → 0 ≤ (sI σ 3 o).toInt := fun s o ho h => by have := (hw o ho (onS_iff.mp h).1).1; omega
  have t1 : A.2.1.toInt ≤ tP (sI σ) (onS (sI σ) 1) (sn σ) ∧ A.2.1.toInt ≤ tP (sI σ) (onS (sI σ) 0) (sn σ) := by
    rcases m2 with e | ⟨q, q1, q2, e⟩
    · rw [e, show (0 : Int64).toInt = 0 by decide]
      exact ⟨gI_nn (fun o ho => by by_cases h : onS (sI σ) 1 o = true; rw [if_pos h]; exact nnS 1 o ho h; rw [if_neg h]; exact Int.le_refl _), gI_nn (fun o ho => by by_cases h : onS (sI σ) 0 o = true; rw [if_pos h]; exact nnS 0 o ho h; rw [if_neg h]; exact Int.le_refl _)⟩
    · rw [e]
      obtain ⟨a1, a2, -⟩ := aMv_le (sIf (sI σ) (fun r => tk (sI σ) r (nI q)) (L 1)) (sIf (sI σ) (fun r => tk (sI σ) r (nI q)) (L 2))
      rw [← WT_line hO hL.1 q2, ← OT_line hO hL.2 q2] at a1 a2 ⊢
      rw [hWi] at a1
      rw [hOi] at a2
      refine ⟨Int.le_trans a1 (tP_le (nnS 1) (fun o ho h => ?_)), Int.le_trans a2 (tP_le (nnS 0) (fun o ho h => ?_))⟩
      · have z := of_decide_eq_true h
        exact onS_t z.2.1 ((hO.1 o ho).2.2.resolve_left z.2.2)
      · have z := of_decide_eq_true h
        exact onS_t z.2.1 z.2.2
  obtain ⟨main1, main2⟩ := one_main (p := A.1) (k := 250) (σ := σ) (v := A.2.1) hO hw v0 t1.1 t1.2 (Nat.le_trans (gN2_le _) hn)
  refine ⟨main1, ?_⟩
  have hw1 := one_rw (k := 250) (p := A.1) (v := A.2.1) hO hw
  -- who rests behind it, in the start's numbers
  have back : ∀ x, x < sn σ → rs (sI (oPh (xSts (xOp σ A) (sn σ)) 1)) x = true → rs (sI σ) x = true ∧ sI (oPh (xSts (xOp σ A) (sn σ)) 1) 1 x = sI σ 1 x ∧ sI (oPh (xSts (xOp σ A) (sn σ)) 1) 2 x = sI σ 2 x ∧ 1 ≤ (sI σ 2 x).toInt ∧ A.2.1.toInt + 1 ≤ tP (sI σ) (uB (sI σ) (sI σ 1 x) x) (sn σ) := by
    intro x hx hs
    have c1 : sI (oPh (xSts (xOp σ A) (sn σ)) 1) 1 = sI σ 1 := (sts_f (by decide) (by decide) (by decide) _).trans (by rw [op_cols]; exact one_f (by decide) (by decide) (by decide) (by decide))
    have c2 : sI (oPh (xSts (xOp σ A) (sn σ)) 1) 2 = sI σ 2 := (sts_f (by decide) (by decide) (by decide) _).trans (by rw [op_cols]; exact one_f (by decide) (by decide) (by decide) (by decide))
    have r1 : rs (sI (xOne 250 σ A.1 A.2.1)) x = true := by
      rw [← op_cols]
      rcases sts_5 (σ := xOp σ A) (x := x) (sn σ) with e | e
      · rw [← rs_at e]; exact hs
      · have hs' : rs (sI (xSts (xOp σ A) (sn σ))) x = true := hs
        rw [rs_m1 e] at hs'; cases hs'
    have hon : onS (sI (xOne 250 σ A.1 A.2.1)) (sI σ 1 x) x = true := onS_t r1 (congrFun (one_f (by decide) (by decide) (by decide) (by decide)) x)
    obtain ⟨k1, k2⟩ := main2 (sI σ 1 x) x (hO.1 x hx).2.2 hx hon
    have k3 := tP_on (n := sn σ) hx hon (fun y hy hr => (hw1 y hy hr).1)
    have hp8 : ∀ o, o < sn (xOp σ A) → 0 ≤ (sI (xOp σ A) 8 o).toInt := fun o ho => by
      rw [op_sn] at ho
      rw [op_cols, one_f (f := 8) (by decide) (by decide) (by decide) (by decide)]
      exact (hI.2.2.1 o ho).1
    have hrw : ∀ o, o < sn (xOp σ A) → ¬ sI (xOp σ A) 5 o = -1 → Rwk (sI (xOp σ A)) o := fun o ho h5 => by
      rw [op_sn] at ho
      have h9 := (op_5 (a := A) hI ho).resolve_left h5
      rw [op_cols] at h9 ⊢
      exact hw1 o ho h9
    have hz := ((sts_rok hp8 hrw (sn σ) (by rw [op_sn]; exact Nat.le_refl _)).1 x hx hs).2
    have hz2 : ¬ sI σ 2 x = 0 := by rw [← congrFun c2 x]; exact hz
    refine ⟨(onS_iff.mp k1).1, congrFun c1 x, congrFun c2 x, ?_, by omega⟩
    have := (hO.1 x hx).1
    have := i_ne0 hz2
    omega
  -- a buyer and a seller that could trade: more would have gone at the buyer's price
  have no : ∀ B S, B < sn σ → S < sn σ → sI σ 1 B = 1 → sI σ 1 S = 0 → rs (sI (oPh (xSts (xOp σ A) (sn σ)) 1)) B = true → rs (sI (oPh (xSts (xOp σ A) (sn σ)) 1)) S = true → ¬ (sI σ 2 S).toInt ≤ (sI σ 2 B).toInt := by
    intro B S hB hS sB sS rB rS hle
    obtain ⟨-, -, -, pB, uBb⟩ := back B hB rB
    obtain ⟨-, -, -, pS, uSb⟩ := back S hS rS
    rw [sB] at uBb
    rw [sS] at uSb
    have hbB := hO.1 B hB
    have hbS := hO.1 S hS
    obtain ⟨P, hP⟩ : ∃ P : Nat, P = (sI σ 2 B).toInt.toNat := ⟨_, rfl⟩
    have hP1 : (P : Int) = (sI σ 2 B).toInt := by omega
    have hmx := m1 P (by omega) (by omega)
    rw [← WT_line hO hL.1 (by omega), ← OT_line hO hL.2 (by omega)] at hmx
    obtain ⟨-, -, a3⟩ := aMv_le (WT (sI σ) (sn σ) P) (OT (sI σ) (sn σ) P)
    have g1 : tP (sI σ) (uB (sI σ) 1 B) (sn σ) ≤ (WT (sI σ) (sn σ) P).toInt := by
      rw [hWi]
      refine tP_le (fun o ho h => by have := (hw o ho (of_decide_eq_true h).2.1).1; omega) (fun x hx h => ?_)
      obtain ⟨h1, h2⟩ := (Bool.and_eq_true _ _).mp h
      obtain ⟨h3, h4⟩ := onS_iff.mp h1
      have hne : ¬ sI σ 1 x = 0 := by rw [h4]; decide
      refine decide_eq_true ⟨?_, h3, hne⟩
      have hbx := hO.1 x hx
      unfold pr
      by_cases hz : sI σ 2 x = 0
      · rw [if_pos ⟨hz, hne⟩]; omega
      · rw [if_neg (fun z => hz z.1)]
        have hz' := i_ne0 hz
        rcases (Bool.or_eq_true _ _).mp h2 with e | e
        · have e' := of_decide_eq_true e
          subst e'; omega
        · rw [bf_iff, h4, show (1 : Int32).toInt = 1 by decide] at e
          omega
    have g2 : tP (sI σ) (uB (sI σ) 0 S) (sn σ) ≤ (OT (sI σ) (sn σ) P).toInt := by
      rw [hOi]
      refine tP_le (fun o ho h => by have := (hw o ho (of_decide_eq_true h).2.1).1; omega) (fun x hx h => ?_)
      obtain ⟨h1, h2⟩ := (Bool.and_eq_true _ _).mp h
      obtain ⟨h3, h4⟩ := onS_iff.mp h1
      refine decide_eq_true ⟨?_, h3, h4⟩
      have hbx := hO.1 x hx
      unfold pr
      rw [if_neg (fun z => z.2 h4)]
      rcases (Bool.or_eq_true _ _).mp h2 with e | e
      · have e' := of_decide_eq_true e
        subst e'; omega
      · rw [bf_iff, h4, i0] at e
        omega
    rcases a3 with e | e <;> omega
  intro _ x y hx hy rx ry hs
  have hx' : x < sn σ := by have h9 : sn (oPh (xSts (xOp σ A) (sn σ)) 1) = sn σ := ((sts_sn _ _).1).trans op_sn; rw [← h9]; exact hx
  have hy' : y < sn σ := by have h9 : sn (oPh (xSts (xOp σ A) (sn σ)) 1) = sn σ := ((sts_sn _ _).1).trans op_sn; rw [← h9]; exact hy
  obtain ⟨-, x1, x2, x3, -⟩ := back x hx' rx
  obtain ⟨-, y1, y2, y3, -⟩ := back y hy' ry
  rw [x1, y1] at hs
  have hnx : ¬ sI σ 2 x = 0 := fun z => by rw [z, i0] at x3; omega
  rw [y2, tk_at x1 x2]
  cases ht : tk (sI σ) x (sI σ 2 y) with
  | false => rfl
  | true =>
    exfalso
    unfold tk at ht
    rw [decide_eq_false hnx, Bool.false_or] at ht
    rcases (hO.1 x hx').2.2 with e | e
    · rw [if_pos e] at ht
      have sy : sI σ 1 y = 1 := (hO.1 y hy').2.2.resolve_left (fun z => hs (e.trans z.symm))
      exact no y x hy' hx' sy e ry rx (Int32.le_iff_toInt_le.mp (of_decide_eq_true ht))
    · rw [if_neg (by rw [e]; decide)] at ht
      have sy : sI σ 1 y = 0 := (hO.1 y hy').2.2.resolve_right (fun z => hs (e.trans z.symm))
      exact no x y hx' hy' e sy rx ry (Int32.le_iff_toInt_le.mp (of_decide_eq_true ht))
