/-! Amending, in numbers -/
def xLess (σ : St) (k : Nat) (q : Int32) : St := ((sn σ, s1 (s1 (sI σ) 3 k q) 4 k (mn (sI σ 4 k) q)), σ.2)
def xAsk (τ : St) (k : Nat) (p q : Int32) : St := ((sn τ, s1 (s1 (sI τ) 2 k p) 3 k q), τ.2)
def xAm (g : Bool) (σ : St) (k : Nat) (p q : Int32) : St := if p = sI σ 2 k ∧ q ≤ sI σ 3 k then xLess σ k q else xCome g (xAsk (xOut σ k) k p q) k
theorem oc_ask (I : Co) (o : Nat) (p q : Int32) : oc (s1 (s1 I 2 o p) 3 o q) o = [.int (nI o), .int (I 0 o), .int (I 1 o), .int (I 8 o), .int (I 6 o), .int p, .int q, .int (I 4 o), .int (I 5 o), .int (I 7 o)] := by
  rw [oc_3]
  simp [s1_ss, s1_f]
theorem oc_less (I : Co) (o : Nat) (q v : Int32) : oc (s1 (s1 I 3 o q) 4 o v) o = [.int (nI o), .int (I 0 o), .int (I 1 o), .int (I 8 o), .int (I 6 o), .int (I 2 o), .int q, .int v, .int (I 5 o), .int (I 7 o)] := by
  rw [oc_4]
  simp [s1_ss, s1_f]
section ASK
variable {τ : St} {k x f : Nat} {p q : Int32}
theorem ask_f (h2 : f ≠ 2) (h3 : f ≠ 3) : sI (xAsk τ k p q) f = sI τ f := by
  show s1 (s1 (sI τ) 2 k p) 3 k q f = _
  rw [s1_f h3, s1_f h2]
theorem ask_x (h : x ≠ k) : sI (xAsk τ k p q) f x = sI τ f x := by
  show s1 (s1 (sI τ) 2 k p) 3 k q f x = _
  rw [s1_o h, s1_o h]
theorem ask_2 : sI (xAsk τ k p q) 2 k = p := by
  show s1 (s1 (sI τ) 2 k p) 3 k q 2 k = _
  rw [s1_f (f' := 2) (f := 3) (by decide), s1_ss]
theorem ask_3 : sI (xAsk τ k p q) 3 k = q := by
  show s1 (s1 (sI τ) 2 k p) 3 k q 3 k = _
  rw [s1_ss]
theorem Inv0.ask (hI : Inv0 τ) (hr : sI τ 5 k = -1) (hp : 0 ≤ p.toInt ∧ p.toInt ≤ 2000) : Inv0 (xAsk τ k p q) := by
  obtain ⟨i1, i2, i3, i4, i5⟩ := hI
  have c1 := ask_f (τ := τ) (k := k) (p := p) (q := q) (f := 1) (by decide) (by decide)
  have c5 := ask_f (τ := τ) (k := k) (p := p) (q := q) (f := 5) (by decide) (by decide)
  have c8 := ask_f (τ := τ) (k := k) (p := p) (q := q) (f := 8) (by decide) (by decide)
  have rse : ∀ o, rs (sI (xAsk τ k p q)) o = rs (sI τ) o := fun o => by unfold rs; rw [c5]
  refine ⟨i1, ⟨fun o ho => ?_, fun a b ha hb ra rb e => ?_⟩, fun o ho => ?_, i4, fun o ho hs => ?_⟩
  · rw [c1]
    by_cases z : o = k
    · subst z; rw [ask_2]; exact ⟨hp.1, hp.2, (i2.1 o ho).2.2⟩
    · rw [ask_x z]; exact i2.1 o ho
  · rw [rse] at ra rb
    rw [c5] at e
    exact i2.2 a b ha hb ra rb e
  · rw [c8, c5]; exact i3 o ho
  · rw [rse] at hs
    have z : o ≠ k := fun z => by rw [z, rs_iff, hr, i_m1] at hs; omega
    have h9 := i5 o ho hs
    unfold Rok at *
    rw [ask_x z, ask_x z, ask_x z]
    exact h9
theorem Line.ask {s : Int32} {K : List Nat} (h : Line (sI τ) (sn τ) s K) (hr : sI τ 5 k = -1) : Line (sI (xAsk τ k p q)) (sn τ) s K := by
  have c1 := ask_f (τ := τ) (k := k) (p := p) (q := q) (f := 1) (by decide) (by decide)
  have c5 := ask_f (τ := τ) (k := k) (p := p) (q := q) (f := 5) (by decide) (by decide)
  have ne : ∀ y, y ∈ K → y ≠ k := fun y hy z => by
    have h9 := ((h.1 y).mp hy).2
    rw [onS_iff, rs_iff, z, hr, i_m1] at h9
    omega
  refine ⟨fun o => ?_, List.Pairwise.imp_of_mem ?_ h.2⟩
  · rw [onS_cols c1 c5]; exact h.1 o
  · intro a b ha hb hab
    rw [bf_at (by rw [c1]) (ask_x (ne a ha)) (ask_x (ne b hb)) (by rw [c5]) (by rw [c5])]
    exact hab
theorem LN.ask {L : Nat → List Nat} (h : LN τ L) (hr : sI τ 5 k = -1) : LN (xAsk τ k p q) L := ⟨h.1.ask hr, h.2.ask hr⟩
end ASK
theorem less_f {σ : St} {k f : Nat} {q : Int32} (h3 : f ≠ 3) (h4 : f ≠ 4) : sI (xLess σ k q) f = sI σ f := by
  show s1 (s1 (sI σ) 3 k q) 4 k (mn (sI σ 4 k) q) f = _
  rw [s1_f h4, s1_f h3]
theorem less_x {σ : St} {k x f : Nat} {q : Int32} (h : x ≠ k) : sI (xLess σ k q) f x = sI σ f x := by
  show s1 (s1 (sI σ) 3 k q) 4 k (mn (sI σ 4 k) q) f x = _
  rw [s1_o h, s1_o h]
theorem less_3 {σ : St} {k : Nat} {q : Int32} : sI (xLess σ k q) 3 k = q := by
  show s1 (s1 (sI σ) 3 k q) 4 k (mn (sI σ 4 k) q) 3 k = _
  rw [s1_f (f' := 3) (f := 4) (by decide), s1_ss]
theorem less_4 {σ : St} {k : Nat} {q : Int32} : sI (xLess σ k q) 4 k = mn (sI σ 4 k) q := by
  show s1 (s1 (sI σ) 3 k q) 4 k (mn (sI σ 4 k) q) 4 k = _
  rw [s1_ss]
theorem less_inv {σ : St} {k : Nat} {q : Int32} (hI : Inv0 σ) (hk : k < sn σ) (hr : rs (sI σ) k = true) (h1 : 1 ≤ q.toInt) (h2 : q.toInt ≤ (sI σ 3 k).toInt) : Inv0 (xLess σ k q) := by
  refine ((hI.x k).cols (τ := xLess σ k q) rfl rfl (less_f (by decide) (by decide)) (less_f (by decide) (by decide)) (less_f (by decide) (by decide)) (less_f (by decide) (by decide)) (fun x _ hx _ => ⟨less_x hx, less_x hx⟩)).of (fun _ => ?_)
  obtain ⟨r1, r2, r3, r4, r5⟩ := hI.2.2.2.2 k hk hr
  unfold Rok
  rw [less_3, less_4, less_f (f := 8) (by decide) (by decide), mn_int]
  refine ⟨h1, by omega, by split <;> omega, fun z => ?_, fun z => ?_⟩
  · have := r4 z
    split <;> omega
  · have := r5 z
    split <;> omega
theorem sj_opp {b : Int32} (h : b = 0 ∨ b = 1) : sj (opp b) ≠ sj b := by rcases h with e | e <;> subst e <;> decide
theorem am_tn {g : Bool} {σ : St} {k : Nat} {p q : Int32} : stn σ ≤ stn (xAm g σ k p q) := by
  unfold xAm
  split
  · exact Nat.le_refl _
  · unfold xCome
    split
    · rw [tail_tn]
      split
      · exact Nat.le_refl _
      · exact meet_tn (σ := xAsk (xOut σ k) k p q)
    · exact Nat.le_refl _
