/-! An order ends: what is needed of the rest -/
def InvB (σ : St) : Prop := sn σ ≤ 250 ∧ oOK (sI σ) (sn σ) ∧ (∀ o, o < sn σ → 0 ≤ (sI σ 8 o).toInt ∧ (sI σ 8 o).toInt ≤ 100000 ∧ -1 ≤ (sI σ 5 o).toInt ∧ (sI σ 5 o).toInt < (srk σ).toInt) ∧ 0 ≤ (srk σ).toInt
theorem Inv0.b {σ : St} (h : Inv0 σ) : InvB σ := ⟨h.1, h.2.1, h.2.2.1, h.2.2.2.1⟩
theorem InvX.b {σ : St} {r : Nat} (h : InvX σ r) : InvB σ := ⟨h.1, h.2.1, h.2.2.1, h.2.2.2.1⟩
theorem InvB.cols {σ τ : St} (h : InvB σ) (hn : sn τ = sn σ) (hrk : srk τ = srk σ) (h1 : sI τ 1 = sI σ 1) (h2 : sI τ 2 = sI σ 2) (h5 : sI τ 5 = sI σ 5) (h8 : sI τ 8 = sI σ 8) : InvB τ := by
  obtain ⟨i1, i2, i3, i4⟩ := h
  refine ⟨by rw [hn]; exact i1, by rw [hn]; exact i2.cols h1 h2 h5, fun o ho => ?_, by rw [hrk]; exact i4⟩
  rw [hn] at ho; rw [h8, h5, hrk]; exact i3 o ho
/-- the same lines, with numbers that are as they should -/
def fk (σ : St) : St := ((sn σ, fun f x => if f = 3 ∨ f = 4 then 1 else if f = 8 then 0 else sI σ f x), σ.2)
theorem fk_f {σ : St} {f : Nat} (h3 : f ≠ 3) (h4 : f ≠ 4) (h8 : f ≠ 8) : sI (fk σ) f = sI σ f := by
  funext x
  show (if f = 3 ∨ f = 4 then (1 : Int32) else if f = 8 then 0 else sI σ f x) = _
  rw [if_neg (by omega), if_neg h8]
theorem fk_inv {σ : St} (h : InvB σ) : Inv0 (fk σ) := by
  obtain ⟨i1, i2, i3, i4⟩ := h
  have f1 := fk_f (σ := σ) (f := 1) (by decide) (by decide) (by decide)
  have f2 := fk_f (σ := σ) (f := 2) (by decide) (by decide) (by decide)
  have f5 := fk_f (σ := σ) (f := 5) (by decide) (by decide) (by decide)
  refine ⟨i1, i2.cols f1 f2 f5, fun o ho => ?_, i4, fun o ho _ => ?_⟩
  · have := i3 o ho
    rw [f5]
    exact ⟨show (0 : Int) ≤ (0 : Int32).toInt by decide, show (0 : Int32).toInt ≤ 100000 by decide, this.2.2.1, this.2.2.2⟩
  · exact ⟨show 1 ≤ (1 : Int32).toInt by decide, show (1 : Int32).toInt ≤ 100000 by decide, show 1 ≤ (1 : Int32).toInt by decide, fun _ => rfl, fun h => absurd (show 0 < (0 : Int32).toInt from h) (by decide)⟩
section ENDE
variable {σ : St} {r x f : Nat}
theorem end_f (h3 : f ≠ 3) (h4 : f ≠ 4) (h5 : f ≠ 5) : sI (xEnd σ r) f = sI σ f := by
  show s1 (s1 (s1 (sI σ) 3 r 0) 4 r 0) 5 r (-1) f = _
  rw [s1_f h5, s1_f h4, s1_f h3]
theorem end_x (h : x ≠ r) : sI (xEnd σ r) f x = sI σ f x := by
  show s1 (s1 (s1 (sI σ) 3 r 0) 4 r 0) 5 r (-1) f x = _
  rw [s1_o h, s1_o h, s1_o h]
theorem end_5 : sI (xEnd σ r) 5 r = -1 := by
  show s1 (s1 (s1 (sI σ) 3 r 0) 4 r 0) 5 r (-1) 5 r = _
  rw [s1_ss]
theorem end_3 : sI (xEnd σ r) 3 r = 0 := by
  show s1 (s1 (s1 (sI σ) 3 r 0) 4 r 0) 5 r (-1) 3 r = _
  rw [s1_f (f' := 3) (f := 5) (by decide), s1_f (f' := 3) (f := 4) (by decide), s1_ss]
theorem end_4 : sI (xEnd σ r) 4 r = 0 := by
  show s1 (s1 (s1 (sI σ) 3 r 0) 4 r 0) 5 r (-1) 4 r = _
  rw [s1_f (f' := 4) (f := 5) (by decide), s1_ss]
theorem end_nr : rs (sI (xEnd σ r)) r = false := by
  cases h : rs (sI (xEnd σ r)) r with
  | false => rfl
  | true => rw [rs_iff, end_5, i_m1] at h; omega
theorem end_fk5 : sI (xEnd (fk σ) r) 5 = sI (xEnd σ r) 5 := by
  funext y
  by_cases e : y = r
  · subst e; rw [end_5, end_5]
  · rw [end_x e, end_x e, fk_f (by decide) (by decide) (by decide)]
theorem end_fkf (h3 : f ≠ 3) (h4 : f ≠ 4) (h5 : f ≠ 5) (h8 : f ≠ 8) : sI (xEnd (fk σ) r) f = sI (xEnd σ r) f := by
  rw [end_f h3 h4 h5, end_f h3 h4 h5, fk_f h3 h4 h8]
theorem end_backB (h : Inv0 (xEnd (fk σ) r)) (hB : InvB σ) : InvB (xEnd σ r) := by
  obtain ⟨i1, i2, i3, i4, -⟩ := h
  have f1 := end_fkf (σ := σ) (r := r) (f := 1) (by decide) (by decide) (by decide) (by decide)
  have f2 := end_fkf (σ := σ) (r := r) (f := 2) (by decide) (by decide) (by decide) (by decide)
  refine ⟨i1, i2.cols f1.symm f2.symm end_fk5.symm, fun o ho => ?_, i4⟩
  have h1 := i3 o ho
  have h2 := hB.2.2.1 o ho
  rw [end_fk5] at h1
  rw [end_f (f := 8) (by decide) (by decide) (by decide)]
  exact ⟨h2.1, h2.2.1, h1.2.2.1, h1.2.2.2⟩
theorem end_backL {L : Nat → List Nat} (h : LN (xEnd (fk σ) r) L) : LN (xEnd σ r) L :=
  h.cols rfl (end_fkf (by decide) (by decide) (by decide) (by decide)).symm (end_fkf (by decide) (by decide) (by decide) (by decide)).symm end_fk5.symm
theorem fk_L {L : Nat → List Nat} (h : LN σ L) : LN (fk σ) L := h.cols rfl (fk_f (by decide) (by decide) (by decide)) (fk_f (by decide) (by decide) (by decide)) (fk_f (by decide) (by decide) (by decide))
theorem LN.endB {L : Nat → List Nat} {k : Nat} (hB : InvB σ) (hL : LN σ L) (hr : r < sn σ) (hk : (L (sj (sI σ 1 r)))[k]? = some r) : InvB (xEnd σ r) ∧ LN (xEnd σ r) (fun k' => if k' = sj (sI σ 1 r) then (L (sj (sI σ 1 r))).eraseIdx k else L k') := by
  have f1 := fk_f (σ := σ) (f := 1) (by decide) (by decide) (by decide)
  obtain ⟨h1, h2⟩ := LN.ende (σ := fk σ) (r := r) (k := k) ((fk_inv hB).x r) (fk_L hL) hr (by rw [f1]; exact hk)
  rw [f1] at h2
  exact ⟨end_backB h1 hB, end_backL h2⟩
theorem LN.endNB {L : Nat → List Nat} (hB : InvB σ) (hL : LN σ L) (h5 : sI σ 5 r = -1) : InvB (xEnd σ r) ∧ LN (xEnd σ r) L := by
  have f5 := fk_f (σ := σ) (f := 5) (by decide) (by decide) (by decide)
  obtain ⟨h1, h2⟩ := LN.endN (σ := fk σ) (r := r) (fk_inv hB) (fk_L hL) (by rw [f5]; exact h5)
  exact ⟨end_backB h1 hB, end_backL h2⟩
theorem end_inv (hI : InvX σ r) (hB : InvB (xEnd σ r)) : Inv0 (xEnd σ r) := by
  refine ⟨hB.1, hB.2.1, hB.2.2.1, hB.2.2.2, fun o ho hs => ?_⟩
  by_cases e : o = r
  · rw [e, end_nr] at hs; cases hs
  · have h9 := hI.2.2.2.2 o ho e (by rw [rs_iff] at *; rw [end_x e] at hs; exact hs)
    unfold Rok at *
    rw [end_x e, end_x e, end_x e]
    exact h9
end ENDE
theorem c_B_finish (l : Launch) (γ : mG) (M : mMap) (β : BK) (oa cp : Nat → Nat) (L : Nat → List Nat) (σ : St) (hC : CB γ M β oa cp L σ) (hB : InvB σ) (hL : LN σ L) (o : Nat) (ho : o < sn σ) : Met l y_B_finish w_B_finish ({ frames := 4, cells := 0, slots := 0, locals := 116 } : Room) (mPc γ M [.ref (bx β), .ref (oa o)]) (mQv γ (fun M' => ∃ L', CB γ M' β oa cp L' (xEnd σ o) ∧ InvB (xEnd σ o) ∧ LN (xEnd σ o) L' ∧ frC M M')) 0 0 (mA (gz γ)) := by
  by_cases h5 : sI σ 5 o = -1
  · exact (c_B_finishN l γ M β oa cp L σ hC hB.1 o ho h5).mono (mQv.mono (fun M' h => ⟨L, h.1, (LN.endNB hB hL h5).1, (LN.endNB hB hL h5).2, h.2⟩))
  · have hLj : Line (sI σ) (sn σ) (sI σ 1 o) (L (sj (sI σ 1 o))) := sj_val (hB.2.1.1 o ho).2.2 hL
    have hr : rs (sI σ) o = true := by
      rw [rs_iff]
      have h9 := (hB.2.2.1 o ho).2.2.1
      have h8 : (sI σ 5 o).toInt ≠ -1 := fun z => h5 (Int32.toInt_inj.mp (z.trans i_m1.symm))
      omega
    obtain ⟨k, hk⟩ := List.getElem?_of_mem ((hLj.1 o).mpr ⟨ho, onS_iff.mpr ⟨hr, rfl⟩⟩)
    exact (c_B_finishR l γ M β oa cp L σ hC hB.1 o ho h5 hLj.nodup (fun y hy => ((hLj.1 y).mp hy).1) (hLj.len hB.1) k hk).mono (mQv.mono (fun M' h => ⟨_, h.1, (LN.endB hB hL ho hk).1, (LN.endB hB hL ho hk).2, h.2⟩))
/-- going on begins for an order; an order of which nothing is left ends -/
def xStart (σ : St) (o : Nat) : St := if sI σ 5 o = -1 then σ else if sI σ 2 o = 0 then xEnd σ o else xShow σ o
def xFin (σ : St) (o : Nat) : St := if sI σ 3 o = 0 then xEnd σ o else σ
theorem show_f {σ : St} {o f : Nat} (h : f ≠ 4) : sI (xShow σ o) f = sI σ f := by
  show s1 (sI σ) 4 o (shw (sI σ) o) f = _
  rw [s1_f h]
