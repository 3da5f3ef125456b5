/-! The class's state: a book's cells hold the numbers σ -/
abbrev St : Type := (Nat × Co) × (Int32 × Int32 × Int32 × Int32) × (Nat × Co × Int64)
abbrev sn (σ : St) : Nat := σ.1.1
abbrev sI (σ : St) : Co := σ.1.2
abbrev sph (σ : St) : Int32 := σ.2.1.1
abbrev srf (σ : St) : Int32 := σ.2.1.2.1
abbrev sbd (σ : St) : Int32 := σ.2.1.2.2.1
abbrev srk (σ : St) : Int32 := σ.2.1.2.2.2
abbrev stn (σ : St) : Nat := σ.2.2.1
abbrev sT (σ : St) : Co := σ.2.2.2.1
abbrev sal (σ : St) : Int64 := σ.2.2.2.2
/-- where the book's fixed cells lie: the book, its lists, its sides, its log, its auction -/
abbrev BK : Type := Nat × (Nat → Nat) × (Nat → Nat) × Nat × Nat
abbrev bx (β : BK) : Nat := β.1
abbrev bal (β : BK) : Nat → Nat := β.2.1
abbrev bsd (β : BK) : Nat → Nat := β.2.2.1
abbrev btl (β : BK) : Nat := β.2.2.2.1
abbrev bau (β : BK) : Nat := β.2.2.2.2
def bkc (β : BK) (p : Int32 × Int32 × Int32 × Int32) : List Value := [.ref (bal β 0), .ref (bsd β 1), .ref (bsd β 2), .ref (btl β), .ref (bau β), .int p.1, .int p.2.1, .int p.2.2.1, .int p.2.2.2]
def lx (oa ta : Nat → Nat) (n tn : Nat) (L : Nat → List Nat) : Nat → List Nat := fun j => if j = 0 then (List.range n).map oa else if j = 3 then (List.range tn).map ta else (L j).map oa
def CB (γ : mG) (M : mMap) (β : BK) (oa cp : Nat → Nat) (L : Nat → List Nat) (σ : St) : Prop := ∃ (ar ta : Nat → Nat) (ap : Int32) (av az : Int64), M (bx β) = some (.inr (6, bkc β σ.2.1)) ∧ (M (bsd β 1) = some (.inr (3, [.ref (bal β 1)])) ∧ M (bsd β 2) = some (.inr (3, [.ref (bal β 2)]))) ∧ M (btl β) = some (.inr (5, [.ref (bal β 3), .long (sal σ)])) ∧ M (bau β) = some (.inr (1, [.int ap, .long av, .long az])) ∧ OR M oa (sI σ) (sn σ) ∧ TR M ta (sT σ) (stn σ) ∧ FL4 γ M (bal β) ar cp (lx oa ta (sn σ) (stn σ) L)
section CBS
variable {γ : mG} {M M' : mMap} {β : BK} {oa cp : Nat → Nat} {L : Nat → List Nat} {σ : St}
theorem CB.ord (h : CB γ M β oa cp L σ) : OR M oa (sI σ) (sn σ) := by
  obtain ⟨ar, ta, ap, av, az, h1, h2, h3, h4, h5, h6, h7⟩ := h
  exact h5
theorem CB.book (h : CB γ M β oa cp L σ) : M (bx β) = some (.inr (6, bkc β σ.2.1)) := by
  obtain ⟨ar, ta, ap, av, az, h1, -⟩ := h
  exact h1
theorem CB.side (h : CB γ M β oa cp L σ) {j : Nat} (hj : j = 1 ∨ j = 2) : M (bsd β j) = some (.inr (3, [.ref (bal β j)])) := by
  obtain ⟨ar, ta, ap, av, az, h1, h2, -⟩ := h
  rcases hj with e | e
  · rw [e]; exact h2.1
  · rw [e]; exact h2.2
theorem CB.log (h : CB γ M β oa cp L σ) : M (btl β) = some (.inr (5, [.ref (bal β 3), .long (sal σ)])) := by
  obtain ⟨ar, ta, ap, av, az, h1, h2, h3, -⟩ := h
  exact h3
theorem lx_j {ta : Nat → Nat} {n tn j : Nat} (hj : j = 1 ∨ j = 2) : lx oa ta n tn L j = (L j).map oa := by
  unfold lx
  rw [if_neg (by omega), if_neg (by omega)]
theorem CB.list (h : CB γ M β oa cp L σ) {j : Nat} (hj : j = 1 ∨ j = 2) : ∃ r, AL γ M (bal β j) r (cp j) ((L j).map oa) := by
  obtain ⟨ar, ta, ap, av, az, h1, h2, h3, h4, h5, h6, h7⟩ := h
  have := h7.1 j (by omega)
  rw [lx_j hj] at this
  exact ⟨_, this⟩
/-- an order's columns are written -/
theorem CB.setO (h : CB γ M β oa cp L σ) (hn : sn σ ≤ 250) {o : Nat} (ho : o < sn σ) {J : Co} (hJ : ∀ f x, x ≠ o → J f x = sI σ f x) {e : va_E} (he : e = .inr (2, oc J o)) : CB γ (mU M (oa o) e) β oa cp L ((sn σ, J), σ.2) ∧ frC M (mU M (oa o) e) := by
  obtain ⟨ar, ta, ap, av, az, h1, h2, h3, h4, h5, h6, h7⟩ := h
  have ho' := h5 o ho
  exact ⟨⟨ar, ta, ap, av, az, mU_to (m_kind h1 ho' (fun z => by cases z)) h1, ⟨mU_to (m_kind h2.1 ho' (fun z => by cases z)) h2.1, mU_to (m_kind h2.2 ho' (fun z => by cases z)) h2.2⟩, mU_to (m_kind h3 ho' (fun z => by cases z)) h3, mU_to (m_kind h4 ho' (fun z => by cases z)) h4, h5.set hn ho hJ he, fun i hi => mU_to (m_kind (h6 i hi) ho' (fun z => by cases z)) (h6 i hi), h7.setO ho' (by decide)⟩, frC.setO ho' (by decide)⟩
/-- the book's own numbers are written -/
theorem CB.setB (h : CB γ M β oa cp L σ) {p : Int32 × Int32 × Int32 × Int32} {e : va_E} (he : e = .inr (6, bkc β p)) : CB γ (mU M (bx β) e) β oa cp L (σ.1, p, σ.2.2) ∧ frC M (mU M (bx β) e) := by
  obtain ⟨ar, ta, ap, av, az, h1, h2, h3, h4, h5, h6, h7⟩ := h
  subst he
  exact ⟨⟨ar, ta, ap, av, az, mU_eq _ _ _, ⟨mU_to (m_kind h2.1 h1 (fun z => by cases z)) h2.1, mU_to (m_kind h2.2 h1 (fun z => by cases z)) h2.2⟩, mU_to (m_kind h3 h1 (fun z => by cases z)) h3, mU_to (m_kind h4 h1 (fun z => by cases z)) h4, fun i hi => mU_to (m_kind (h5 i hi) h1 (fun z => by cases z)) (h5 i hi), fun i hi => mU_to (m_kind (h6 i hi) h1 (fun z => by cases z)) (h6 i hi), h7.setO h1 (by decide)⟩, frC.setO h1 (by decide)⟩
/-- a side's line changes -/
theorem CB.line (h : CB γ M β oa cp L σ) (hg : M (ge γ) = none) {j r r' c' : Nat} (hj : j = 1 ∨ j = 2) {K : List Nat} (hA0 : AL γ M (bal β j) r (cp j) ((L j).map oa)) (hA : AL γ M' (bal β j) r' c' (K.map oa)) (hF : alF M M' (bal β j) r r') : CB γ M' β oa (va_up cp j c') (fun k => if k = j then K else L k) σ ∧ frC M M' := by
  obtain ⟨ar, ta, ap, av, az, h1, h2, h3, h4, h5, h6, h7⟩ := h
  have hr : r = ar j := by
    have hA1 := h7.1 j (by omega)
    obtain ⟨⟨md, e1⟩, -⟩ := hA0
    obtain ⟨⟨md', e2⟩, -⟩ := hA1
    rw [e1] at e2
    have := congrArg (fun z => match z with | some (.inr (_, [_, .ref v, _])) => v | _ => 0) e2
    exact this
  subst hr
  have hAj := h7.1 j (by omega)
  have hS := h7.step hg (by omega) hF hA
  refine ⟨⟨va_up ar j r', ta, ap, av, az, hF.keepO hAj hg h1 (by decide), ⟨hF.keepO hAj hg h2.1 (by decide), hF.keepO hAj hg h2.2 (by decide)⟩, hF.keepO hAj hg h3 (by decide), hF.keepO hAj hg h4 (by decide), fun i hi => hF.keepO hAj hg (h5 i hi) (by decide), fun i hi => hF.keepO hAj hg (h6 i hi) (by decide), ?_⟩, frC.al hF hAj hg⟩
  have e : (fun k => if k = j then K.map oa else lx oa ta (sn σ) (stn σ) L k) = lx oa ta (sn σ) (stn σ) (fun k => if k = j then K else L k) := by
    funext k
    unfold lx
    by_cases z : k = j
    · rw [if_pos z, if_neg (by omega), if_neg (by omega)]
      show K.map oa = (if k = j then K else L k).map oa
      rw [if_pos z]
    · rw [if_neg z]
      show _ = if k = 0 then _ else if k = 3 then _ else (if k = j then K else L k).map oa
      rw [if_neg z]
  rw [e] at hS
  exact hS
/-- a trade is kept -/
theorem CB.trade (h : CB γ M β oa cp L σ) (hg : M (ge γ) = none) : ∃ (r : Nat) (xs : List Nat), AL γ M (bal β 3) r (cp 3) xs ∧ mEl M 4 xs ∧ xs.length = stn σ ∧ ∀ (q r' : Nat) (b0 s0 p0 q0 : Int32) (M' : mMap) (T' : Co), M q = none → q ≠ ge γ → (∀ k i, k < 4 → i < stn σ → T' k i = sT σ k i) → T' 0 (stn σ) = b0 → T' 1 (stn σ) = s0 → T' 2 (stn σ) = p0 → T' 3 (stn σ) = q0 → AL γ M' (bal β 3) r' (cN (cp 3) xs.length) (xs ++ [q]) → alF (mU (mU M (btl β) (.inr (5, [.ref (bal β 3), .long (sal σ + q0.toInt64)]))) q (.inr (4, [.int b0, .int s0, .int p0, .int q0]))) M' (bal β 3) r r' →
    CB γ M' β oa (va_up cp 3 (cN (cp 3) (stn σ))) L (σ.1, σ.2.1, stn σ + 1, T', sal σ + q0.toInt64) ∧ frC M M' := by
  obtain ⟨ar, ta, ap, av, az, h1, h2, h3, h4, h5, h6, h7⟩ := h
  have hA3 := h7.1 3 (by omega)
  have e3 : lx oa ta (sn σ) (stn σ) L 3 = (List.range (stn σ)).map ta := by unfold lx; rw [if_neg (by omega), if_pos rfl]
  have hel : mEl M 4 ((List.range (stn σ)).map ta) := by
    refine ⟨Or.inr rfl, fun x hx => ?_⟩
    obtain ⟨i, hi, rfl⟩ := List.mem_map.mp hx
    exact ⟨_, h6 i (List.mem_range.mp hi)⟩
  rw [e3] at hA3
  refine ⟨ar 3, _, hA3, hel, by rw [List.length_map, List.length_range], ?_⟩
  intro q r' b0 s0 p0 q0 M' T' hq hqe hT t0 t1 t2 t3 hA hF
  have hlen : ((List.range (stn σ)).map ta).length = stn σ := by rw [List.length_map, List.length_range]
  have hqt : q ≠ btl β := (m_fne h3 hq).symm
  have hq1 : (mU M (btl β) (.inr (5, [.ref (bal β 3), .long (sal σ + q0.toInt64)]))) q = none := (mU_ne hqt).trans hq
  have hS1 : FL4 γ (mU (mU M (btl β) (.inr (5, [.ref (bal β 3), .long (sal σ + q0.toInt64)]))) q (.inr (4, [.int b0, .int s0, .int p0, .int q0]))) (bal β) ar cp (lx oa ta (sn σ) (stn σ) L) := (h7.setO h3 (by decide)).new hq1
  have hg1 : (mU (mU M (btl β) (.inr (5, [.ref (bal β 3), .long (sal σ + q0.toInt64)]))) q (.inr (4, [.int b0, .int s0, .int p0, .int q0]))) (ge γ) = none := by
    rw [mU_ne hqe.symm, mU_ne (fun z => by rw [z, h3] at hg; cases hg)]
    exact hg
  have hA31 := hS1.1 3 (by omega)
  have up : ∀ (b ci : Nat) (fs : List Value), ci ≠ 0 → ci ≠ 5 → M b = some (.inr (ci, fs)) → M' b = some (.inr (ci, fs)) := fun b ci fs hc0 hc5 hb =>
    hF.keepO hA31 hg1 (mU_to (m_fne hb hq) (mU_to (m_kind hb h3 (fun z => by cases z; exact hc5 rfl)) hb)) hc0
  have hS := hS1.step hg1 (j := 3) (by omega) hF hA
  rw [hlen] at hS
  have el : (fun k => if k = 3 then (List.range (stn σ)).map ta ++ [q] else lx oa ta (sn σ) (stn σ) L k) = lx oa (va_up ta (stn σ) q) (sn σ) (stn σ + 1) L := by
    funext k
    unfold lx
    by_cases z : k = 3
    · rw [if_pos z, if_neg (by omega), if_pos z, List.range_succ, List.map_append]
      congr 1
      · apply List.map_congr_left
        intro i hi
        have := List.mem_range.mp hi
        exact (if_neg (by omega)).symm
      · show [q] = [va_up ta (stn σ) q (stn σ)]
        rw [show va_up ta (stn σ) q (stn σ) = q from if_pos rfl]
    · rw [if_neg z, if_neg z]
      by_cases z0 : k = 0
      · rw [if_pos z0, if_pos z0]
      · rw [if_neg z0, if_neg z0, if_neg z]
  rw [el] at hS
  refine ⟨⟨va_up ar 3 r', va_up ta (stn σ) q, ap, av, az, up _ _ _ (by decide) (by decide) h1, ⟨up _ _ _ (by decide) (by decide) h2.1, up _ _ _ (by decide) (by decide) h2.2⟩, ?_, up _ _ _ (by decide) (by decide) h4, fun i hi => up _ _ _ (by decide) (by decide) (h5 i hi), fun i hi => ?_, hS⟩, ?_⟩
  · exact hF.keepO hA31 hg1 (mU_to hqt.symm (mU_eq _ _ _)) (by decide)
  · by_cases z : i = stn σ
    · subst z
      rw [show va_up ta (stn σ) q (stn σ) = q from if_pos rfl]
      have := hF.keepO hA31 hg1 (mU_eq _ _ _) (by decide)
      rw [← t0, ← t1, ← t2, ← t3] at this
      exact this
    · have hi' : i < stn σ := by have : i < stn σ + 1 := hi; omega
      show M' (va_up ta (stn σ) q i) = some (.inr (4, [.int (T' 0 i), .int (T' 1 i), .int (T' 2 i), .int (T' 3 i)]))
      rw [show va_up ta (stn σ) q i = ta i from if_neg z, hT 0 i (by omega) hi', hT 1 i (by omega) hi', hT 2 i (by omega) hi', hT 3 i (by omega) hi']
      exact up _ _ _ (by decide) (by decide) (h6 i hi')
  · exact ((frC.setO h3 (by decide)).tr (frC.new hq1)).tr (frC.al hF hA31 hg1)
end CBS
