/-! Clearing, step by step -/
theorem onS_same {I J : Co} {s : Int32} {x : Nat} (h1 : J 1 x = I 1 x) (h5 : J 5 x = I 5 x) : onS J s x = onS I s x := by
  unfold onS rs
  rw [h1, h5]
theorem i_sub0 {x q : Int32} (h1 : 1 ≤ x.toInt) (h2 : x.toInt ≤ 100000) (q1 : 1 ≤ q.toInt) (q2 : q.toInt ≤ x.toInt) : (x - q).toInt = x.toInt - q.toInt := i_sub (by omega) (by omega)
theorem tP_step {I J : Co} {P P' : Nat → Bool} {n r t : Nat} {q : Int32} (hr : r < n) (hx : ∀ x, x < n → x ≠ r → x ≠ t → J 3 x = I 3 x ∧ P' x = P x) (ht : t ≠ r → P t = false ∧ P' t = false) (hP : P r = true) (hb : 1 ≤ (I 3 r).toInt ∧ (I 3 r).toInt ≤ 100000) (q1 : 1 ≤ q.toInt) (q2 : q.toInt ≤ (I 3 r).toInt)
    (h0 : I 3 r - q = 0 → P' r = false) (h1 : ¬ I 3 r - q = 0 → P' r = true ∧ J 3 r = I 3 r - q) : tP J P' n = tP I P n - q.toInt := by
  unfold tP
  rw [gI_at (f := fun x => if P x = true then (I 3 x).toInt else 0) (g := fun x => if P' x = true then (J 3 x).toInt else 0) hr (fun x hxn hxr => ?_)]
  · have hs := i_sub0 hb.1 hb.2 q1 q2
    have : (if P' r = true then (J 3 r).toInt else 0) = (I 3 r).toInt - q.toInt := by
      by_cases hz : I 3 r - q = 0
      · rw [h0 hz, if_neg (by decide)]
        have := congrArg Int32.toInt hz
        rw [hs, i0] at this
        omega
      · rw [(h1 hz).1, if_pos rfl, (h1 hz).2, hs]
    rw [this, if_pos hP]
    omega
  · by_cases hxt : x = t
    · subst hxt
      have := ht hxr
      show (if P' x = true then _ else _) = (if P x = true then _ else _)
      rw [this.1, this.2, if_neg Bool.false_ne_true, if_neg Bool.false_ne_true]
    · have := hx x hxn hxr hxt
      rw [this.1, this.2]
section STEP
variable {σ : St} {a b : Nat} {p : Int32} {v : Int64}
/-- the two that trade next -/
def Two (σ : St) (b a : Nat) : Prop := fst (sI σ) 1 (sn σ) = some b ∧ fst (sI σ) 0 (sn σ) = some a
theorem Two.facts (hO : oOK (sI σ) (sn σ)) (h : Two σ b a) : (b < sn σ ∧ onS (sI σ) 1 b = true ∧ ∀ o, o < sn σ → onS (sI σ) 1 o = true → o = b ∨ bf (sI σ) b o = true) ∧ (a < sn σ ∧ onS (sI σ) 0 a = true ∧ ∀ o, o < sn σ → onS (sI σ) 0 o = true → o = a ∨ bf (sI σ) a o = true) ∧ b ≠ a := by
  have h1 := fst_some hO (Nat.le_refl _) h.1
  have h2 := fst_some hO (Nat.le_refl _) h.2
  refine ⟨h1, h2, fun e => ?_⟩
  have e1 := (onS_iff.mp h1.2.1).2
  have e2 := (onS_iff.mp h2.2.1).2
  rw [e, e2] at e1
  exact absurd e1 (by decide)
theorem dl_tot (hO : oOK (sI σ) (sn σ)) (hw : ∀ o, o < sn σ → rs (sI σ) o = true → Rwk (sI σ) o) (h : Two σ b a) (hv : 0 < v) : tP (sI (xDl σ b a p v)) (onS (sI (xDl σ b a p v)) 1) (sn σ) = tP (sI σ) (onS (sI σ) 1) (sn σ) - (oQ σ b a v).toInt ∧ tP (sI (xDl σ b a p v)) (onS (sI (xDl σ b a p v)) 0) (sn σ) = tP (sI σ) (onS (sI σ) 0) (sn σ) - (oQ σ b a v).toInt := by
  obtain ⟨⟨b1, b2, b3⟩, ⟨a1, a2, a3⟩, hba⟩ := h.facts hO
  have wb := hw b b1 (onS_iff.mp b2).1
  have wa := hw a a1 (onS_iff.mp a2).1
  obtain ⟨q1, q2, q3⟩ := oQ_in (σ := σ) (v := v) wb.1 wa.1 hv
  obtain ⟨c0, c1, c2, c3, c4⟩ := dl_cols (σ := σ) (p := p) (v := v) hba
  have f1 : sI (xDl σ b a p v) 1 = sI σ 1 := dl_f (by decide) (by decide) (by decide) (by decide)
  have sb := (onS_iff.mp b2).2
  have sa := (onS_iff.mp a2).2
  constructor
  · refine tP_step (t := a) b1 (fun x _ h1 h2 => ⟨c0 3 x h1 h2, onS_same (c0 1 x h1 h2) (c0 5 x h1 h2)⟩) (fun _ => ⟨onS_f2 (by rw [sa]; decide), onS_f2 (by rw [f1, sa]; decide)⟩) b2 ⟨wb.1, wb.2.1⟩ q1 q2 (fun z => onS_f1 (rs_m1 (c1 z))) (fun z => ⟨(onS_same (congrFun f1 b) (c2 z).1).trans b2, (c2 z).2⟩)
  · refine tP_step (t := b) a1 (fun x _ h1 h2 => ⟨c0 3 x h2 h1, onS_same (c0 1 x h2 h1) (c0 5 x h2 h1)⟩) (fun _ => ⟨onS_f2 (by rw [sb]; decide), onS_f2 (by rw [f1, sb]; decide)⟩) a2 ⟨wa.1, wa.2.1⟩ q1 q3 (fun z => onS_f1 (rs_m1 (c3 z))) (fun z => ⟨(onS_same (congrFun f1 a) (c4 z).1).trans a2, (c4 z).2⟩)
theorem dl_up (hO : oOK (sI σ) (sn σ)) (hw : ∀ o, o < sn σ → rs (sI σ) o = true → Rwk (sI σ) o) (h : Two σ b a) (hv : 0 < v) {s : Int32} {o : Nat} (hs : s = 0 ∨ s = 1) (ho : o < sn σ) (hon : onS (sI (xDl σ b a p v)) s o = true) : onS (sI σ) s o = true ∧ tP (sI (xDl σ b a p v)) (uB (sI (xDl σ b a p v)) s o) (sn σ) = tP (sI σ) (uB (sI σ) s o) (sn σ) - (oQ σ b a v).toInt := by
  obtain ⟨⟨b1, b2, b3⟩, ⟨a1, a2, a3⟩, hba⟩ := h.facts hO
  have wb := hw b b1 (onS_iff.mp b2).1
  have wa := hw a a1 (onS_iff.mp a2).1
  obtain ⟨q1, q2, q3⟩ := oQ_in (σ := σ) (v := v) wb.1 wa.1 hv
  obtain ⟨c0, c1, c2, c3, c4⟩ := dl_cols (σ := σ) (p := p) (v := v) hba
  have f1 : sI (xDl σ b a p v) 1 = sI σ 1 := dl_f (by decide) (by decide) (by decide) (by decide)
  have f2 : sI (xDl σ b a p v) 2 = sI σ 2 := dl_f (by decide) (by decide) (by decide) (by decide)
  have sb := (onS_iff.mp b2).2
  have sa := (onS_iff.mp a2).2
  have o5 : sI (xDl σ b a p v) 5 o = sI σ 5 o := by
    rcases dl_5 (σ := σ) (b := b) (a := a) (o := o) (p := p) (v := v) with e | e
    · exact e
    · have := (onS_iff.mp hon).1
      rw [rs_m1 e] at this; cases this
  have ho2 : onS (sI σ) s o = true := (onS_same (congrFun f1 o) o5).symm.trans hon
  refine ⟨ho2, ?_⟩
  have hbf : ∀ x, sI (xDl σ b a p v) 5 x = sI σ 5 x → bf (sI (xDl σ b a p v)) x o = bf (sI σ) x o := fun x hx => bf_at (congrFun f1 x) (congrFun f2 x) (congrFun f2 o) hx o5
  have hx0 : ∀ x, x ≠ b → x ≠ a → sI (xDl σ b a p v) 3 x = sI σ 3 x ∧ uB (sI (xDl σ b a p v)) s o x = uB (sI σ) s o x := fun x h1 h2 => ⟨c0 3 x h1 h2, by unfold uB; rw [onS_same (c0 1 x h1 h2) (c0 5 x h1 h2), hbf x (c0 5 x h1 h2)]⟩
  have so := (onS_iff.mp ho2).2
  rcases hs with e | e
  · subst e
    have hPa : uB (sI σ) 0 o a = true := by
      unfold uB
      rw [a2, Bool.true_and]
      rcases a3 o ho ho2 with e | e
      · rw [decide_eq_true e.symm]; rfl
      · rw [e, Bool.or_true]
    refine tP_step (t := b) a1 (fun x _ h1 h2 => hx0 x h2 h1) (fun _ => ⟨by unfold uB; rw [onS_f2 (by rw [sb]; decide)]; rfl, by unfold uB; rw [onS_f2 (by rw [f1, sb]; decide)]; rfl⟩) hPa ⟨wa.1, wa.2.1⟩ q1 q3 (fun z => by unfold uB; rw [onS_f1 (rs_m1 (c3 z))]; rfl) (fun z => ⟨?_, (c4 z).2⟩)
    have : uB (sI (xDl σ b a p v)) 0 o a = uB (sI σ) 0 o a := by unfold uB; rw [onS_same (congrFun f1 a) (c4 z).1, hbf a (c4 z).1]
    rw [this]; exact hPa
  · subst e
    have hPb : uB (sI σ) 1 o b = true := by
      unfold uB
      rw [b2, Bool.true_and]
      rcases b3 o ho ho2 with e | e
      · rw [decide_eq_true e.symm]; rfl
      · rw [e, Bool.or_true]
    refine tP_step (t := a) b1 (fun x _ h1 h2 => hx0 x h1 h2) (fun _ => ⟨by unfold uB; rw [onS_f2 (by rw [sa]; decide)]; rfl, by unfold uB; rw [onS_f2 (by rw [f1, sa]; decide)]; rfl⟩) hPb ⟨wb.1, wb.2.1⟩ q1 q2 (fun z => by unfold uB; rw [onS_f1 (rs_m1 (c1 z))]; rfl) (fun z => ⟨?_, (c2 z).2⟩)
    have : uB (sI (xDl σ b a p v)) 1 o b = uB (sI σ) 1 o b := by unfold uB; rw [onS_same (congrFun f1 b) (c2 z).1, hbf b (c2 z).1]
    rw [this]; exact hPb
theorem gN2_le2 {P P' : Nat → Bool} : ∀ {k : Nat}, (∀ o, o < k → P' o = true → P o = true) → gN2 P' k ≤ gN2 P k := by
  intro k
  induction k with
  | zero => intro _; exact Nat.le_refl _
  | succ k ih =>
    intro h
    have h1 := ih (fun o ho => h o (by omega))
    have h2 := h k (by omega)
    show gN2 P' k + (if P' k = true then 1 else 0) ≤ gN2 P k + (if P k = true then 1 else 0)
    by_cases e : P' k = true
    · rw [if_pos e, if_pos (h2 e)]; omega
    · rw [if_neg e]; omega
theorem gN2_lt {P P' : Nat → Bool} {r : Nat} (hr1 : P r = true) (hr2 : P' r = false) : ∀ {k : Nat}, r < k → (∀ o, o < k → P' o = true → P o = true) → gN2 P' k + 1 ≤ gN2 P k := by
  intro k
  induction k with
  | zero => intro h; exact absurd h (Nat.not_lt_zero _)
  | succ k ih =>
    intro hr h
    show gN2 P' k + (if P' k = true then 1 else 0) + 1 ≤ gN2 P k + (if P k = true then 1 else 0)
    by_cases e : r = k
    · subst e
      have := gN2_le2 (P := P) (P' := P') (k := r) (fun o ho => h o (by omega))
      rw [hr1, hr2, if_pos rfl, if_neg (by decide)]
      omega
    · have h1 := ih (by omega) (fun o ho => h o (by omega))
      have h2 := h k (by omega)
      by_cases e2 : P' k = true
      · rw [if_pos e2, if_pos (h2 e2)]; omega
      · rw [if_neg e2]; omega
theorem dl_cr (hO : oOK (sI σ) (sn σ)) (hw : ∀ o, o < sn σ → rs (sI σ) o = true → Rwk (sI σ) o) (h : Two σ b a) (hv : 0 < v) (hq : (oQ σ b a v).toInt = (sI σ 3 b).toInt ∨ (oQ σ b a v).toInt = (sI σ 3 a).toInt) : cR (sI (xDl σ b a p v)) (sn σ) + 1 ≤ cR (sI σ) (sn σ) := by
  obtain ⟨⟨b1, b2, b3⟩, ⟨a1, a2, a3⟩, hba⟩ := h.facts hO
  have wb := hw b b1 (onS_iff.mp b2).1
  have wa := hw a a1 (onS_iff.mp a2).1
  obtain ⟨q1, q2, q3⟩ := oQ_in (σ := σ) (v := v) wb.1 wa.1 hv
  obtain ⟨c0, c1, c2, c3, c4⟩ := dl_cols (σ := σ) (p := p) (v := v) hba
  have hsub : ∀ o, o < sn σ → rs (sI (xDl σ b a p v)) o = true → rs (sI σ) o = true := by
    intro o _ hs
    rcases dl_5 (σ := σ) (b := b) (a := a) (o := o) (p := p) (v := v) with e | e
    · rw [← rs_at e]; exact hs
    · rw [rs_m1 e] at hs; cases hs
  rcases hq with e | e
  · have z : sI σ 3 b - oQ σ b a v = 0 := Int32.toInt_inj.mp (by rw [i_sub0 wb.1 wb.2.1 q1 q2, i0]; omega)
    exact gN2_lt (r := b) (onS_iff.mp b2).1 (rs_m1 (c1 z)) b1 hsub
  · have z : sI σ 3 a - oQ σ b a v = 0 := Int32.toInt_inj.mp (by rw [i_sub0 wa.1 wa.2.1 q1 q3, i0]; omega)
    exact gN2_lt (r := a) (onS_iff.mp a2).1 (rs_m1 (c3 z)) a1 hsub
theorem OneOK.z {k : Nat} (h : ¬ 0 < v) : OneOK k σ p v := by
  cases k with
  | zero => exact h
  | succ k => exact fun z => absurd z h
theorem xOne_z {k : Nat} (h : ¬ 0 < v) : xOne k σ p v = σ := by
  cases k with
  | zero => rfl
  | succ k => exact xOne_no h
theorem tP_0 {I : Co} {P : Nat → Bool} {n : Nat} (h : ∀ o, o < n → P o = false) : tP I P n = 0 := by
  unfold tP
  rw [gI_congr (g := fun _ => 0) (fun o ho => by rw [h o ho]; rfl)]
  have : ∀ k, gI (fun _ => 0) k = 0 := by
    intro k
    induction k with
    | zero => rfl
    | succ k ih => show gI _ k + 0 = 0; rw [ih]; rfl
  exact this n
theorem gN2_0 {P : Nat → Bool} : ∀ {k : Nat}, gN2 P k = 0 → ∀ o, o < k → P o = false := by
  intro k
  induction k with
  | zero => intro _ o ho; exact absurd ho (Nat.not_lt_zero _)
  | succ k ih =>
    intro h o ho
    have h' : gN2 P k + (if P k = true then 1 else 0) = 0 := h
    by_cases e : o = k
    · subst e
      cases hp : P o with
      | false => rfl
      | true => rw [hp, if_pos rfl] at h'; omega
    · exact ih (by omega) o (by omega)
end STEP
theorem one_main {p : Int32} : ∀ {k : Nat} {σ : St} {v : Int64}, oOK (sI σ) (sn σ) → (∀ o, o < sn σ → rs (sI σ) o = true → Rwk (sI σ) o) → 0 ≤ v.toInt → v.toInt ≤ tP (sI σ) (onS (sI σ) 1) (sn σ) → v.toInt ≤ tP (sI σ) (onS (sI σ) 0) (sn σ) → cR (sI σ) (sn σ) ≤ k →
    OneOK k σ p v ∧ ∀ s o, (s = 0 ∨ s = 1) → o < sn σ → onS (sI (xOne k σ p v)) s o = true → onS (sI σ) s o = true ∧ tP (sI (xOne k σ p v)) (uB (sI (xOne k σ p v)) s o) (sn σ) = tP (sI σ) (uB (sI σ) s o) (sn σ) - v.toInt := by
  intro k
  induction k with
  | zero =>
    intro σ v hO hw h0 h1 h2 hc
    have hno : ∀ o, o < sn σ → rs (sI σ) o = false := gN2_0 (Nat.le_zero.mp hc)
    rw [tP_0 (fun o ho => onS_f1 (hno o ho))] at h1
    have hv : ¬ 0 < v := fun z => by have := Int64.lt_iff_toInt_lt.mp z; rw [show (0 : Int64).toInt = 0 by decide] at this; omega
    refine ⟨hv, fun s o _ ho hon => ?_⟩
    have h9 := hno o ho
    have h8 : rs (sI σ) o = true := (onS_iff.mp hon).1
    rw [h8] at h9; cases h9
  | succ k ih =>
    intro σ v hO hw h0 h1 h2 hc
    by_cases hv : 0 < v
    · have hv0 := Int64.lt_iff_toInt_lt.mp hv
      rw [show (0 : Int64).toInt = 0 by decide] at hv0
      have some1 : ∀ s, v.toInt ≤ tP (sI σ) (onS (sI σ) s) (sn σ) → ∃ r, fst (sI σ) s (sn σ) = some r := by
        intro s hs
        cases hf : fst (sI σ) s (sn σ) with
        | some r => exact ⟨r, rfl⟩
        | none => rw [tP_0 (fst_none hf)] at hs; omega
      obtain ⟨b, hb⟩ := some1 1 h1
      obtain ⟨a, ha⟩ := some1 0 h2
      have h : Two σ b a := ⟨hb, ha⟩
      obtain ⟨⟨b1, b2, b3⟩, ⟨a1, a2, a3⟩, hba⟩ := h.facts hO
      have wb := hw b b1 (onS_iff.mp b2).1
      have wa := hw a a1 (onS_iff.mp a2).1
      obtain ⟨q1, q2, q3⟩ := oQ_in (σ := σ) (v := v) wb.1 wa.1 hv
      obtain ⟨q4, q5⟩ := oQ_v (σ := σ) (b := b) (a := a) wb.1 wa.1 wb.2.1 hv
      obtain ⟨t1, t2⟩ := dl_tot (p := p) hO hw h hv
      have hvq : (v - (oQ σ b a v).toInt64).toInt = v.toInt - (oQ σ b a v).toInt := by
        rw [Int64.toInt_sub, Int32.toInt_toInt64, Int.bmod_def]
        have := Int64.toInt_lt v
        omega
      have hsn : sn (xDl σ b a p v) = sn σ := dl_sn
      have key : OneOK k (xDl σ b a p v) p (v - (oQ σ b a v).toInt64) ∧ ∀ s o, (s = 0 ∨ s = 1) → o < sn σ → onS (sI (xOne k (xDl σ b a p v) p (v - (oQ σ b a v).toInt64))) s o = true → onS (sI (xDl σ b a p v)) s o = true ∧ tP (sI (xOne k (xDl σ b a p v) p (v - (oQ σ b a v).toInt64))) (uB (sI (xOne k (xDl σ b a p v) p (v - (oQ σ b a v).toInt64))) s o) (sn σ) = tP (sI (xDl σ b a p v)) (uB (sI (xDl σ b a p v)) s o) (sn σ) - (v.toInt - (oQ σ b a v).toInt) := by
        by_cases hz : v.toInt - (oQ σ b a v).toInt = 0
        · have hn0 : ¬ 0 < v - (oQ σ b a v).toInt64 := fun z => by have := Int64.lt_iff_toInt_lt.mp z; rw [hvq, show (0 : Int64).toInt = 0 by decide] at this; omega
          refine ⟨OneOK.z hn0, fun s o _ _ hon => ?_⟩
          rw [xOne_z hn0] at hon ⊢
          exact ⟨hon, by omega⟩
        · have hcr := dl_cr (p := p) hO hw h hv (by rcases q5 with e | e | e; exact Or.inl e; exact Or.inr e; omega)
          have := ih (σ := xDl σ b a p v) (v := v - (oQ σ b a v).toInt64) (by rw [hsn]; exact dl_ok hO) (by rw [hsn]; exact dl_rw hw b1 a1 (onS_iff.mp b2).1 (onS_iff.mp a2).1 hba hv) (by rw [hvq]; omega) (by rw [hvq, hsn, t1]; omega) (by rw [hvq, hsn, t2]; omega) (by rw [hsn]; omega)
          rw [hsn, hvq] at this
          exact this
      refine ⟨fun _ => ⟨b, a, hb, ha, hba, key.1⟩, fun s o hs ho hon => ?_⟩
      rw [xOne_go hv hb ha] at hon ⊢
      obtain ⟨k1, k2⟩ := key.2 s o hs ho hon
      obtain ⟨k3, k4⟩ := dl_up (p := p) hO hw h hv hs ho k1
      exact ⟨k3, by rw [k2, k4]; omega⟩
    · have hv0 : v.toInt = 0 := by
        have := Int64.le_iff_toInt_le.mp (Int64.not_lt.mp hv)
        rw [show (0 : Int64).toInt = 0 by decide] at this
        omega
      refine ⟨OneOK.z hv, fun s o _ _ hon => ?_⟩
      rw [xOne_z hv] at hon ⊢
      exact ⟨hon, by omega⟩
