/-! A new order, in numbers -/
def nCol (I : Co) (n : Nat) (w b p q k f : Int32) : Co := fun c x => if x = n then (if c = 0 then w else if c = 1 then b else if c = 2 then p else if c = 3 then q else if c = 4 then 0 else if c = 5 then -1 else if c = 6 then f else if c = 7 then 0 else k) else I c x
def xNew (σ : St) (w b p q k f : Int32) : St := ((sn σ + 1, nCol (sI σ) (sn σ) w b p q k f), σ.2)
theorem nar_b {b : Int32} (h : b = 0 ∨ b = 1) : narrow .boolean (.int b) = .int b := by rcases h with e | e <;> subst e <;> rfl
theorem oc_new (I : Co) (n : Nat) (w b p q k f : Int32) : oc (nCol I n w b p q k f) n = [.int (nI n), .int w, .int b, .int k, .int f, .int p, .int q, .int 0, .int (-1), .int 0] := by
  unfold oc nCol
  simp
section NEW
variable {σ : St} {w b p q k f : Int32}
theorem new_o {c x : Nat} (h : x ≠ sn σ) : sI (xNew σ w b p q k f) c x = sI σ c x := if_neg h
theorem new_n {c : Nat} : sI (xNew σ w b p q k f) c (sn σ) = (if c = 0 then w else if c = 1 then b else if c = 2 then p else if c = 3 then q else if c = 4 then 0 else if c = 5 then -1 else if c = 6 then f else if c = 7 then 0 else k) := if_pos rfl
theorem new_rs : rs (sI (xNew σ w b p q k f)) (sn σ) = false := by
  have e : sI (xNew σ w b p q k f) 5 (sn σ) = -1 := new_n
  unfold rs
  rw [e]
  decide
theorem new_rso {x : Nat} (h : x ≠ sn σ) : rs (sI (xNew σ w b p q k f)) x = rs (sI σ) x := by
  unfold rs
  rw [new_o h]
theorem Inv0.new (hI : Inv0 σ) (hn : sn σ < 250) (hb : b = 0 ∨ b = 1) (hp : 0 ≤ p.toInt ∧ p.toInt ≤ 2000) (hk : 0 ≤ k.toInt ∧ k.toInt ≤ 100000) : Inv0 (xNew σ w b p q k f) := by
  obtain ⟨i1, i2, i3, i4, i5⟩ := hI
  have lt : ∀ o, o < sn σ + 1 → o ≠ sn σ → o < sn σ := fun o h1 h2 => by omega
  refine ⟨by show sn σ + 1 ≤ 250; omega, ⟨fun o ho => ?_, fun x y hx hy rx ry e => ?_⟩, fun o ho => ?_, i4, fun o ho hs => ?_⟩
  · by_cases z : o = sn σ
    · subst z
      rw [show sI (xNew σ w b p q k f) 2 (sn σ) = p from new_n, show sI (xNew σ w b p q k f) 1 (sn σ) = b from new_n]
      exact ⟨hp.1, hp.2, hb⟩
    · rw [new_o z, new_o z]; exact i2.1 o (lt o ho z)
  · have zx : x ≠ sn σ := fun z => by rw [z, new_rs] at rx; cases rx
    have zy : y ≠ sn σ := fun z => by rw [z, new_rs] at ry; cases ry
    rw [new_rso zx] at rx
    rw [new_rso zy] at ry
    rw [new_o zx, new_o zy] at e
    exact i2.2 x y (lt x hx zx) (lt y hy zy) rx ry e
  · by_cases z : o = sn σ
    · subst z
      rw [show sI (xNew σ w b p q k f) 8 (sn σ) = k from new_n, show sI (xNew σ w b p q k f) 5 (sn σ) = -1 from new_n, i_m1]
      exact ⟨hk.1, hk.2, by omega, by show -1 < (srk σ).toInt; omega⟩
    · rw [new_o z, new_o z]; exact i3 o (lt o ho z)
  · have z : o ≠ sn σ := fun z => by rw [z, new_rs] at hs; cases hs
    rw [new_rso z] at hs
    have h9 := i5 o (lt o ho z) hs
    unfold Rok at *
    rw [new_o z, new_o z, new_o z]
    exact h9
theorem Line.new {s : Int32} {K : List Nat} (h : Line (sI σ) (sn σ) s K) : Line (sI (xNew σ w b p q k f)) (sn σ + 1) s K := by
  have ne : ∀ y, y ∈ K → y ≠ sn σ := fun y hy z => by have := ((h.1 y).mp hy).1; omega
  refine ⟨fun o => ?_, List.Pairwise.imp_of_mem ?_ h.2⟩
  · rw [h.1 o]
    by_cases z : o = sn σ
    · constructor
      · rintro ⟨h1, -⟩; omega
      · rintro ⟨-, h2⟩
        rw [onS_iff, z, new_rs] at h2
        exact absurd h2.1 (by decide)
    · have e : onS (sI (xNew σ w b p q k f)) s o = onS (sI σ) s o := by unfold onS; rw [new_rso z, new_o z]
      rw [e]
      constructor
      · rintro ⟨h1, h2⟩; exact ⟨by omega, h2⟩
      · rintro ⟨h1, h2⟩; exact ⟨by omega, h2⟩
  · intro x y hx hy hxy
    rw [bf_at (new_o (ne x hx)) (new_o (ne x hx)) (new_o (ne y hy)) (new_o (ne x hx)) (new_o (ne y hy))]
    exact hxy
theorem LN.new {L : Nat → List Nat} (h : LN σ L) : LN (xNew σ w b p q k f) L := ⟨h.1.new, h.2.new⟩
end NEW
theorem CB.add {γ : mG} {M : mMap} {β : BK} {oa cp : Nat → Nat} {L : Nat → List Nat} {σ : St} (h : CB γ M β oa cp L σ) (hg : M (ge γ) = none) (hL : ∀ j, j = 1 ∨ j = 2 → ∀ y, y ∈ L j → y < sn σ) : ∃ r, AL γ M (bal β 0) r (cp 0) ((List.range (sn σ)).map oa) ∧ ∀ (q r' : Nat) (M' : mMap) (J : Co), M q = none → q ≠ ge γ → (∀ f x, x < sn σ → J f x = sI σ f x) → AL γ M' (bal β 0) r' (cN (cp 0) (sn σ)) ((List.range (sn σ)).map oa ++ [q]) → alF (mU M q (.inr (2, oc J (sn σ)))) M' (bal β 0) r r' → CB γ M' β (va_up oa (sn σ) q) (va_up cp 0 (cN (cp 0) (sn σ))) L ((sn σ + 1, J), σ.2) ∧ frC M M' := by
  obtain ⟨ar, ta, ap, av, az, h1, h2, h3, h4, h5, h6, h7⟩ := h
  have hA0 := h7.1 0 (by omega)
  have e0 : lx oa ta (sn σ) (stn σ) L 0 = (List.range (sn σ)).map oa := if_pos rfl
  rw [e0] at hA0
  refine ⟨ar 0, hA0, ?_⟩
  intro q r' M' J hq hqe hJ hA hF
  have hS1 : FL4 γ (mU M q (.inr (2, oc J (sn σ)))) (bal β) ar cp (lx oa ta (sn σ) (stn σ) L) := h7.new hq
  have hg1 : (mU M q (.inr (2, oc J (sn σ)))) (ge γ) = none := by rw [mU_ne hqe.symm]; exact hg
  have hA01 := hS1.1 0 (by omega)
  have up : ∀ (b ci : Nat) (fs : List Value), ci ≠ 0 → M b = some (.inr (ci, fs)) → M' b = some (.inr (ci, fs)) := fun b ci fs hc0 hb => hF.keepO hA01 hg1 (mU_to (m_fne hb hq) hb) hc0
  have hS := hS1.step hg1 (j := 0) (by omega) hF hA
  have mo : ∀ (K : List Nat), (∀ y, y ∈ K → y < sn σ) → K.map (va_up oa (sn σ) q) = K.map oa := fun K hK => List.map_congr_left (fun i hi => if_neg (by have := hK i hi; omega))
  have el : ∀ k, k < 4 → (if k = 0 then (List.range (sn σ)).map oa ++ [q] else lx oa ta (sn σ) (stn σ) L k) = lx (va_up oa (sn σ) q) ta (sn σ + 1) (stn σ) L k := by
    intro k hk
    unfold lx
    by_cases z : k = 0
    · rw [if_pos z, if_pos z, List.range_succ, List.map_append, mo _ (fun y hy => List.mem_range.mp hy)]
      congr 1
      show [q] = [va_up oa (sn σ) q (sn σ)]
      rw [show va_up oa (sn σ) q (sn σ) = q from if_pos rfl]
    · rw [if_neg z, if_neg z, if_neg z]
      by_cases z3 : k = 3
      · rw [if_pos z3, if_pos z3]
      · rw [if_neg z3, if_neg z3, mo _ (hL k (by omega))]
  have hS' : FL4 γ M' (bal β) (va_up ar 0 r') (va_up cp 0 (cN (cp 0) (sn σ))) (lx (va_up oa (sn σ) q) ta (sn σ + 1) (stn σ) L) := ⟨fun j hj => by rw [← el j hj]; exact hS.1 j hj, hS.2⟩
  refine ⟨⟨va_up ar 0 r', ta, ap, av, az, up _ _ _ (by decide) h1, ⟨up _ _ _ (by decide) h2.1, up _ _ _ (by decide) h2.2⟩, up _ _ _ (by decide) h3, up _ _ _ (by decide) h4, fun i hi => ?_, fun i hi => up _ _ _ (by decide) (h6 i hi), hS'⟩, (frC.new hq).tr (frC.al hF hA01 hg1)⟩
  by_cases z : i = sn σ
  · subst z
    rw [show va_up oa (sn σ) q (sn σ) = q from if_pos rfl]
    exact hF.keepO hA01 hg1 (mU_eq _ _ _) (by decide)
  · have hi' : i < sn σ := by have : i < sn σ + 1 := hi; omega
    rw [show va_up oa (sn σ) q i = oa i from if_neg z]
    show M' (oa i) = some (.inr (2, oc J i))
    rw [oc_congr (fun f _ => hJ f i hi')]
    exact up _ _ _ (by decide) (h5 i hi')
