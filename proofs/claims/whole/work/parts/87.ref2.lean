/-! The reference: firstOf, isCut, isCovered, meet, comes -/
def fI : Option Nat → Int32
  | none => -1
  | some f => nI f
section FST
variable {I : Co} {s : Int32} {k f : Nat}
theorem fst_nt (h : fst I s k = none) (h1 : onS I s k = true) : fst I s (k + 1) = some k := by unfold fst; rw [h]; exact if_pos h1
theorem fst_nf (h : fst I s k = none) (h1 : onS I s k = false) : fst I s (k + 1) = none := by unfold fst; rw [h]; exact if_neg (by rw [h1]; decide)
theorem fst_st (h : fst I s k = some f) (h1 : onS I s k = true) (h2 : bf I k f = true) : fst I s (k + 1) = some k := by unfold fst; rw [h]; exact if_pos (by rw [h1, h2]; rfl)
theorem fst_sf (h : fst I s k = some f) (h1 : (onS I s k && bf I k f) = false) : fst I s (k + 1) = some f := by unfold fst; rw [h]; exact if_neg (by rw [h1]; decide)
theorem fst_lt : ∀ {k f : Nat}, fst I s k = some f → f < k := by
  intro k
  induction k with
  | zero => intro f h; cases h
  | succ k ih =>
    intro f h
    cases hf : fst I s k with
    | none =>
      by_cases h1 : onS I s k = true
      · rw [fst_nt hf h1] at h; cases h; omega
      · rw [fst_nf hf (by simpa using h1)] at h; cases h
    | some g =>
      by_cases h1 : (onS I s k && bf I k g) = true
      · have e : fst I s (k + 1) = some k := by unfold fst; rw [hf]; exact if_pos h1
        rw [e] at h; cases h; omega
      · rw [fst_sf hf (by simpa using h1)] at h; cases h; have := ih hf; omega
theorem onS_t (h1 : rs I k = true) (h2 : I 1 k = s) : onS I s k = true := by unfold onS; rw [h1, decide_eq_true h2]; rfl
theorem onS_f1 (h1 : rs I k = false) : onS I s k = false := by unfold onS; rw [h1]; rfl
theorem onS_f2 (h2 : ¬ I 1 k = s) : onS I s k = false := by unfold onS; rw [decide_eq_false h2, Bool.and_false]
end FST
def cutP (σ : St) (o r x : Nat) : Bool := rs (sI σ) x && (decide (sI σ 1 x = sI σ 1 r) && (bf (sI σ) x r && (byc (srf σ) (sbd σ) (sI σ 2 x) || !tk (sI σ) o (sI σ 2 x))))
def cutN (σ : St) (o r : Nat) : Nat → Bool
  | 0 => byc (srf σ) (sbd σ) (sI σ 2 r)
  | k + 1 => cutN σ o r k || cutP σ o r k
def goes (σ : St) (o r : Nat) : Bool := rs (sI σ) r && (decide (¬ sI σ 1 r = sI σ 1 o) && (tk (sI σ) o (sI σ 2 r) && !cutN σ o r (sn σ)))
def gsum (σ : St) (o : Nat) : Nat → Int64 := gs (fun r => if goes σ o r = true then (sI σ 3 r).toInt64 else 0)
def cov (σ : St) (o : Nat) : Bool := decide ((sI σ 3 o).toInt64 ≤ gsum σ o (sn σ))
theorem gsum_t {σ : St} {o k : Nat} (h : goes σ o k = true) : gsum σ o (k + 1) = gsum σ o k + (sI σ 3 k).toInt64 := by show _ + (if _ then _ else _) = _; rw [if_pos h]; rfl
theorem gsum_f {σ : St} {o k : Nat} (h : goes σ o k = false) : gsum σ o (k + 1) = gsum σ o k + 0 := by show _ + (if _ then _ else _) = _; rw [if_neg (by rw [h]; decide)]; rfl
theorem hit0_eq {σ : St} {o r : Nat} : ((sn (xDeal σ o r (sI σ 2 r) (hQ σ o r)), s1 (sI (xDeal σ o r (sI σ 2 r) (hQ σ o r))) 4 r (sI (xDeal σ o r (sI σ 2 r) (hQ σ o r)) 4 r - hQ σ o r)), (xDeal σ o r (sI σ 2 r) (hQ σ o r)).2) = xHit0 σ o r := by
  have e : s1 (dI (sI σ) o r (hQ σ o r)) 4 r (sI σ 4 r - hQ σ o r) = dI (s1 (sI σ) 4 r (sI σ 4 r - hQ σ o r)) o r (hQ σ o r) := by
    unfold dI
    rw [s1_comm (f := 7) (g := 4) (by decide), s1_comm (f := 7) (g := 4) (by decide), s1_comm (f := 3) (g := 4) (by decide), s1_comm (f := 3) (g := 4) (by decide)]
    rfl
  unfold xHit0
  rw [← e]
  rfl
theorem hQ_lt {σ : St} {o r : Nat} (h : sI σ 3 o < sI σ 4 r) : sI σ 3 o = hQ σ o r := by
  unfold hQ mn
  rw [if_neg (Int32.not_lt.mpr (Int32.le_of_lt h))]
theorem hQ_ge {σ : St} {o r : Nat} (h : sI σ 4 r ≤ sI σ 3 o) : sI σ 4 r = hQ σ o r := by
  unfold hQ mn
  by_cases e : sI σ 4 r < sI σ 3 o
  · rw [if_pos e]
  · rw [if_neg e]; exact Int32.le_antisymm h (Int32.not_lt.mp e)
set_option maxHeartbeats 4000000 in
set_option maxRecDepth 100000 in
theorem c_M_firstOf (l : Launch) (γ : mG) (M : mMap) (μ : RK) (σ : St) (ε : RE) (hR : RM γ M μ σ ε) (hn : sn σ ≤ 250) (b0 : Int32) : Met l y_M_firstOf w_M_firstOf ({ frames := 1, cells := 0, slots := 0, locals := 23 } : Room) (mPc γ M [.ref (rx μ), .int b0]) (mQi γ (fun r M' => r = fI (fst (sI σ) b0 (sn σ)) ∧ M' = M)) 0 0 (mA (gz γ)) := by
  refine m_enter (by decide) (Nat.le_of_ble_eq_true rfl) ?_
  intro p e s m below meth c ls S hr hlk hnm hl hw
  have hl : lv_has ls 5 [(0, .ref (rx μ)), (1, .int b0)] := hl
  have hR := hR.q
  refine lv_iconst (v := (-1)) S.1 S.2.1 d_M_firstOf_0 (by decide) ?_
  refine lv_istore_n S.1 S.2.1 d_M_firstOf_1 rfl hl (by decide) rfl (fun ls hl => ?_)
  have hl : lv_has ls 5 [(2, .int (-1)), (0, .ref (rx μ)), (1, .int b0)] := hl
  refine lv_iconst (v := 0) S.1 S.2.1 d_M_firstOf_2 (by decide) ?_
  refine lv_istore_n S.1 S.2.1 d_M_firstOf_3 rfl hl (by decide) rfl (fun ls hl => ?_)
  have hl : lv_has ls 5 [(3, .int 0), (2, .int (-1)), (0, .ref (rx μ)), (1, .int b0)] := hl
  have loop : ∀ (d o : Nat) (H : Heap) (locs : List Loc) (ls : Array Slot), o + d = sn σ → lv_has ls 5 [(3, .int (nI o)), (2, .int (fI (fst (sI σ) b0 o))), (1, .int b0), (0, .ref (rx μ))] → mW γ M s H locs → W p l e ({ frames := 1, cells := 0, slots := 0, locals := 23 } : Room) s m #[.ref (rx μ), .int b0] below meth c H locs 0 0 (MQ below (mQi γ (fun r M' => r = fI (fst (sI σ) b0 (sn σ)) ∧ M' = M)) #[.ref (rx μ), .int b0] s 0 0 (mA (gz γ))) (F0 m 4 ls []) := by
    intro d
    induction d with
    | zero =>
      intro o H locs ls hi hl hw
      have hi2 : o = sn σ := by omega
      refine lv_iload_n S.1 S.2.1 d_M_firstOf_4 rfl (lv_at hl 0 rfl) ?_
      refine lv_aload_n S.1 S.2.1 d_M_firstOf_5 rfl (lv_at hl 3 rfl) ?_
      refine m_get S hw cl_M hR.obj 5 (by decide) g693 (fun _ h => h) rfl d_M_firstOf_6 ?_
      refine lv_icmp_ge (tgt := 67) S.1 S.2.1 d_M_firstOf_9 rfl (fun _ => ?_) (fun h => absurd (nI_le (by omega) (by omega)) h)
      refine lv_iload_n S.1 S.2.1 d_M_firstOf_67 rfl (lv_at hl 1 rfl) ?_
      exact m_iret S hlk hr rfl hw (⟨by rw [hi2], rfl⟩) (Nat.le_refl _) (Nat.le_refl _) d_M_firstOf_68
    | succ d ih =>
      intro o H locs ls hi hl hw
      have ho : o < sn σ := by omega
      cases hf : fst (sI σ) b0 o with
      | none =>
        rw [hf] at hl
        have hl : lv_has ls 5 [(3, .int (nI o)), (2, .int (-1)), (1, .int b0), (0, .ref (rx μ))] := hl
        refine lv_iload_n S.1 S.2.1 d_M_firstOf_4 rfl (lv_at hl 0 rfl) ?_
        refine lv_aload_n S.1 S.2.1 d_M_firstOf_5 rfl (lv_at hl 3 rfl) ?_
        refine m_get S hw cl_M hR.obj 5 (by decide) g693 (fun _ h => h) rfl d_M_firstOf_6 ?_
        refine lv_icmp_ge (tgt := 67) S.1 S.2.1 d_M_firstOf_9 rfl (fun h => absurd h (nI_ge (by omega) (by omega))) (fun _ => ?_)
        refine lv_aload_n S.1 S.2.1 d_M_firstOf_12 rfl (lv_at hl 3 rfl) ?_
        refine lv_iload_n S.1 S.2.1 d_M_firstOf_13 rfl (lv_at hl 0 rfl) ?_
        refine m_ci hw (va_runV (As := [.int (nI o)]) (rest := []) S (c_M_rests l γ M μ σ ε hR.1 hn o ho) (m_cwV 1 S g793 g795 g26 g48 g796 rfl rfl ⟨by decide +kernel, by decide +kernel, by decide +kernel⟩ ⟨(Nat.le_of_ble_eq_true rfl), (Nat.le_of_ble_eq_true rfl)⟩) (hw.preV hR.obj cl_M.1) rfl rfl hl.1 rfl (lv_room (Nat.le_of_ble_eq_true rfl)) d_M_firstOf_14 ⟨(Nat.zero_le _), (Nat.zero_le _)⟩) (fun r1 M1 H locs hp hw => ?_)
        obtain ⟨rfl, hM1⟩ := hp
        rw [hM1] at hw
        refine lv_if_eq (tgt := 34) S.1 S.2.1 d_M_firstOf_17 rfl (fun h17 => ?_) (fun h17 => ?_)
        · refine lv_iconst (v := 0) S.1 S.2.1 d_M_firstOf_34 (by decide) ?_
          refine lv_istore S.1 S.2.1 d_M_firstOf_35 hl (by decide) rfl (fun ls hl => ?_)
          have hl : lv_has ls 5 [(4, .int 0), (3, .int (nI o)), (2, .int (-1)), (1, .int b0), (0, .ref (rx μ))] := hl
          refine lv_iload S.1 S.2.1 d_M_firstOf_37 (lv_at hl 0 rfl) ?_
          refine lv_if_eq (tgt := 59) S.1 S.2.1 d_M_firstOf_39 rfl (fun _ => ?_) (fun h => absurd (show (0 : Int32) = 0 from rfl) h)
          refine lv_iload_n S.1 S.2.1 d_M_firstOf_59 rfl (lv_at hl 2 rfl) ?_
          refine lv_istore_n S.1 S.2.1 d_M_firstOf_60 rfl hl (by decide) rfl (fun ls hl => ?_)
          have hl : lv_has ls 5 [(2, .int (-1)), (4, .int 0), (3, .int (nI o)), (1, .int b0), (0, .ref (rx μ))] := hl
          refine lv_iinc (k := 2) (v := nI (o + 1)) S.1 S.2.1 d_M_firstOf_61 hl rfl (nI_1 o) (by decide) rfl (fun ls hl => ?_)
          have hl : lv_has ls 5 [(3, .int (nI (o + 1))), (2, .int (-1)), (4, .int 0), (1, .int b0), (0, .ref (rx μ))] := hl
          refine lv_goto (tgt := 4) S.1 S.2.1 d_M_firstOf_64 rfl ?_
          have hl := lv_sub hl [0, 1, 3, 4] rfl
          have hX : fst (sI σ) b0 (o + 1) = none := fst_nf hf (onS_f1 (b2i_0.mp h17))
          exact ih (o + 1) H locs ls (by omega) (by rw [hX]; exact hl) hw
        · refine lv_aload_n S.1 S.2.1 d_M_firstOf_20 rfl (lv_at hl 3 rfl) ?_
          refine m_get S hw cl_M hR.obj 7 (by decide) g695 (fun _ h => h) rfl d_M_firstOf_21 ?_
          refine lv_iload_n S.1 S.2.1 d_M_firstOf_24 rfl (lv_at hl 0 rfl) ?_
          refine m_rldz (o := o) S hw hR (by omega) d_M_firstOf_25 ?_
          refine lv_iload_n S.1 S.2.1 d_M_firstOf_26 rfl (lv_at hl 2 rfl) ?_
          refine lv_icmp_ne (tgt := 34) S.1 S.2.1 d_M_firstOf_27 rfl (fun h27 => ?_) (fun h27 => ?_)
          · refine lv_iconst (v := 0) S.1 S.2.1 d_M_firstOf_34 (by decide) ?_
            refine lv_istore S.1 S.2.1 d_M_firstOf_35 hl (by decide) rfl (fun ls hl => ?_)
            have hl : lv_has ls 5 [(4, .int 0), (3, .int (nI o)), (2, .int (-1)), (1, .int b0), (0, .ref (rx μ))] := hl
            refine lv_iload S.1 S.2.1 d_M_firstOf_37 (lv_at hl 0 rfl) ?_
            refine lv_if_eq (tgt := 59) S.1 S.2.1 d_M_firstOf_39 rfl (fun _ => ?_) (fun h => absurd (show (0 : Int32) = 0 from rfl) h)
            refine lv_iload_n S.1 S.2.1 d_M_firstOf_59 rfl (lv_at hl 2 rfl) ?_
            refine lv_istore_n S.1 S.2.1 d_M_firstOf_60 rfl hl (by decide) rfl (fun ls hl => ?_)
            have hl : lv_has ls 5 [(2, .int (-1)), (4, .int 0), (3, .int (nI o)), (1, .int b0), (0, .ref (rx μ))] := hl
            refine lv_iinc (k := 2) (v := nI (o + 1)) S.1 S.2.1 d_M_firstOf_61 hl rfl (nI_1 o) (by decide) rfl (fun ls hl => ?_)
            have hl : lv_has ls 5 [(3, .int (nI (o + 1))), (2, .int (-1)), (4, .int 0), (1, .int b0), (0, .ref (rx μ))] := hl
            refine lv_goto (tgt := 4) S.1 S.2.1 d_M_firstOf_64 rfl ?_
            have hl := lv_sub hl [0, 1, 3, 4] rfl
            have hX : fst (sI σ) b0 (o + 1) = none := fst_nf hf (onS_f2 h27)
            exact ih (o + 1) H locs ls (by omega) (by rw [hX]; exact hl) hw
          · refine lv_iconst (v := 1) S.1 S.2.1 d_M_firstOf_30 (by decide) ?_
            refine lv_goto (tgt := 35) S.1 S.2.1 d_M_firstOf_31 rfl ?_
            refine lv_istore S.1 S.2.1 d_M_firstOf_35 hl (by decide) rfl (fun ls hl => ?_)
            have hl : lv_has ls 5 [(4, .int 1), (3, .int (nI o)), (2, .int (-1)), (1, .int b0), (0, .ref (rx μ))] := hl
            refine lv_iload S.1 S.2.1 d_M_firstOf_37 (lv_at hl 0 rfl) ?_
            refine lv_if_eq (tgt := 59) S.1 S.2.1 d_M_firstOf_39 rfl (fun h => absurd h (show ¬ (1 : Int32) = 0 by decide)) (fun _ => ?_)
            refine lv_iload_n S.1 S.2.1 d_M_firstOf_42 rfl (lv_at hl 2 rfl) ?_
            refine lv_if_lt (tgt := 55) S.1 S.2.1 d_M_firstOf_43 rfl (fun _ => ?_) (fun h => absurd (show (-1 : Int32) < 0 by decide) h)
            refine lv_iload_n S.1 S.2.1 d_M_firstOf_55 rfl (lv_at hl 1 rfl) ?_
            refine lv_goto (tgt := 60) S.1 S.2.1 d_M_firstOf_56 rfl ?_
            refine lv_istore_n S.1 S.2.1 d_M_firstOf_60 rfl hl (by decide) rfl (fun ls hl => ?_)
            have hl : lv_has ls 5 [(2, .int (nI o)), (4, .int 1), (3, .int (nI o)), (1, .int b0), (0, .ref (rx μ))] := hl
            refine lv_iinc (k := 2) (v := nI (o + 1)) S.1 S.2.1 d_M_firstOf_61 hl rfl (nI_1 o) (by decide) rfl (fun ls hl => ?_)
            have hl : lv_has ls 5 [(3, .int (nI (o + 1))), (2, .int (nI o)), (4, .int 1), (1, .int b0), (0, .ref (rx μ))] := hl
            refine lv_goto (tgt := 4) S.1 S.2.1 d_M_firstOf_64 rfl ?_
            have hl := lv_sub hl [0, 1, 3, 4] rfl
            have hX : fst (sI σ) b0 (o + 1) = some o := fst_nt hf (onS_t (b2i_n0.mp h17) h27)
            exact ih (o + 1) H locs ls (by omega) (by rw [hX]; exact hl) hw
      | some f =>
        rw [hf] at hl
        have hfo := fst_lt hf
        have hl : lv_has ls 5 [(3, .int (nI o)), (2, .int (nI f)), (1, .int b0), (0, .ref (rx μ))] := hl
        refine lv_iload_n S.1 S.2.1 d_M_firstOf_4 rfl (lv_at hl 0 rfl) ?_
        refine lv_aload_n S.1 S.2.1 d_M_firstOf_5 rfl (lv_at hl 3 rfl) ?_
        refine m_get S hw cl_M hR.obj 5 (by decide) g693 (fun _ h => h) rfl d_M_firstOf_6 ?_
        refine lv_icmp_ge (tgt := 67) S.1 S.2.1 d_M_firstOf_9 rfl (fun h => absurd h (nI_ge (by omega) (by omega))) (fun _ => ?_)
        refine lv_aload_n S.1 S.2.1 d_M_firstOf_12 rfl (lv_at hl 3 rfl) ?_
        refine lv_iload_n S.1 S.2.1 d_M_firstOf_13 rfl (lv_at hl 0 rfl) ?_
        refine m_ci hw (va_runV (As := [.int (nI o)]) (rest := []) S (c_M_rests l γ M μ σ ε hR.1 hn o ho) (m_cwV 1 S g793 g795 g26 g48 g796 rfl rfl ⟨by decide +kernel, by decide +kernel, by decide +kernel⟩ ⟨(Nat.le_of_ble_eq_true rfl), (Nat.le_of_ble_eq_true rfl)⟩) (hw.preV hR.obj cl_M.1) rfl rfl hl.1 rfl (lv_room (Nat.le_of_ble_eq_true rfl)) d_M_firstOf_14 ⟨(Nat.zero_le _), (Nat.zero_le _)⟩) (fun r1 M1 H locs hp hw => ?_)
        obtain ⟨rfl, hM1⟩ := hp
        rw [hM1] at hw
        refine lv_if_eq (tgt := 34) S.1 S.2.1 d_M_firstOf_17 rfl (fun h17 => ?_) (fun h17 => ?_)
        · refine lv_iconst (v := 0) S.1 S.2.1 d_M_firstOf_34 (by decide) ?_
          refine lv_istore S.1 S.2.1 d_M_firstOf_35 hl (by decide) rfl (fun ls hl => ?_)
          have hl : lv_has ls 5 [(4, .int 0), (3, .int (nI o)), (2, .int (nI f)), (1, .int b0), (0, .ref (rx μ))] := hl
          refine lv_iload S.1 S.2.1 d_M_firstOf_37 (lv_at hl 0 rfl) ?_
          refine lv_if_eq (tgt := 59) S.1 S.2.1 d_M_firstOf_39 rfl (fun _ => ?_) (fun h => absurd (show (0 : Int32) = 0 from rfl) h)
          refine lv_iload_n S.1 S.2.1 d_M_firstOf_59 rfl (lv_at hl 2 rfl) ?_
          refine lv_istore_n S.1 S.2.1 d_M_firstOf_60 rfl hl (by decide) rfl (fun ls hl => ?_)
          have hl : lv_has ls 5 [(2, .int (nI f)), (4, .int 0), (3, .int (nI o)), (1, .int b0), (0, .ref (rx μ))] := hl
          refine lv_iinc (k := 2) (v := nI (o + 1)) S.1 S.2.1 d_M_firstOf_61 hl rfl (nI_1 o) (by decide) rfl (fun ls hl => ?_)
          have hl : lv_has ls 5 [(3, .int (nI (o + 1))), (2, .int (nI f)), (4, .int 0), (1, .int b0), (0, .ref (rx μ))] := hl
          refine lv_goto (tgt := 4) S.1 S.2.1 d_M_firstOf_64 rfl ?_
          have hl := lv_sub hl [0, 1, 3, 4] rfl
          have hX : fst (sI σ) b0 (o + 1) = some f := fst_sf hf (by rw [(onS_f1 (b2i_0.mp h17))]; rfl)
          exact ih (o + 1) H locs ls (by omega) (by rw [hX]; exact hl) hw
        · refine lv_aload_n S.1 S.2.1 d_M_firstOf_20 rfl (lv_at hl 3 rfl) ?_
          refine m_get S hw cl_M hR.obj 7 (by decide) g695 (fun _ h => h) rfl d_M_firstOf_21 ?_
          refine lv_iload_n S.1 S.2.1 d_M_firstOf_24 rfl (lv_at hl 0 rfl) ?_
          refine m_rldz (o := o) S hw hR (by omega) d_M_firstOf_25 ?_
          refine lv_iload_n S.1 S.2.1 d_M_firstOf_26 rfl (lv_at hl 2 rfl) ?_
          refine lv_icmp_ne (tgt := 34) S.1 S.2.1 d_M_firstOf_27 rfl (fun h27 => ?_) (fun h27 => ?_)
          · refine lv_iconst (v := 0) S.1 S.2.1 d_M_firstOf_34 (by decide) ?_
            refine lv_istore S.1 S.2.1 d_M_firstOf_35 hl (by decide) rfl (fun ls hl => ?_)
            have hl : lv_has ls 5 [(4, .int 0), (3, .int (nI o)), (2, .int (nI f)), (1, .int b0), (0, .ref (rx μ))] := hl
            refine lv_iload S.1 S.2.1 d_M_firstOf_37 (lv_at hl 0 rfl) ?_
            refine lv_if_eq (tgt := 59) S.1 S.2.1 d_M_firstOf_39 rfl (fun _ => ?_) (fun h => absurd (show (0 : Int32) = 0 from rfl) h)
            refine lv_iload_n S.1 S.2.1 d_M_firstOf_59 rfl (lv_at hl 2 rfl) ?_
            refine lv_istore_n S.1 S.2.1 d_M_firstOf_60 rfl hl (by decide) rfl (fun ls hl => ?_)
            have hl : lv_has ls 5 [(2, .int (nI f)), (4, .int 0), (3, .int (nI o)), (1, .int b0), (0, .ref (rx μ))] := hl
            refine lv_iinc (k := 2) (v := nI (o + 1)) S.1 S.2.1 d_M_firstOf_61 hl rfl (nI_1 o) (by decide) rfl (fun ls hl => ?_)
            have hl : lv_has ls 5 [(3, .int (nI (o + 1))), (2, .int (nI f)), (4, .int 0), (1, .int b0), (0, .ref (rx μ))] := hl
            refine lv_goto (tgt := 4) S.1 S.2.1 d_M_firstOf_64 rfl ?_
            have hl := lv_sub hl [0, 1, 3, 4] rfl
            have hX : fst (sI σ) b0 (o + 1) = some f := fst_sf hf (by rw [(onS_f2 h27)]; rfl)
            exact ih (o + 1) H locs ls (by omega) (by rw [hX]; exact hl) hw
          · refine lv_iconst (v := 1) S.1 S.2.1 d_M_firstOf_30 (by decide) ?_
            refine lv_goto (tgt := 35) S.1 S.2.1 d_M_firstOf_31 rfl ?_
            refine lv_istore S.1 S.2.1 d_M_firstOf_35 hl (by decide) rfl (fun ls hl => ?_)
            have hl : lv_has ls 5 [(4, .int 1), (3, .int (nI o)), (2, .int (nI f)), (1, .int b0), (0, .ref (rx μ))] := hl
            refine lv_iload S.1 S.2.1 d_M_firstOf_37 (lv_at hl 0 rfl) ?_
            refine lv_if_eq (tgt := 59) S.1 S.2.1 d_M_firstOf_39 rfl (fun h => absurd h (show ¬ (1 : Int32) = 0 by decide)) (fun _ => ?_)
            refine lv_iload_n S.1 S.2.1 d_M_firstOf_42 rfl (lv_at hl 2 rfl) ?_
            refine lv_if_lt (tgt := 55) S.1 S.2.1 d_M_firstOf_43 rfl (fun h => absurd h (nI_pos (by omega))) (fun _ => ?_)
            refine lv_aload_n S.1 S.2.1 d_M_firstOf_46 rfl (lv_at hl 4 rfl) ?_
            refine lv_iload_n S.1 S.2.1 d_M_firstOf_47 rfl (lv_at hl 1 rfl) ?_
            refine lv_iload_n S.1 S.2.1 d_M_firstOf_48 rfl (lv_at hl 2 rfl) ?_
            refine m_ci hw (va_runV (As := [.int (nI o), .int (nI f)]) (rest := []) S (c_M_isBefore l γ M μ σ ε hR.1 hn o f ho (by omega)) (m_cwV 2 S g812 g814 g30 g48 g815 rfl rfl ⟨by decide +kernel, by decide +kernel, by decide +kernel⟩ ⟨(Nat.le_of_ble_eq_true rfl), (Nat.le_of_ble_eq_true rfl)⟩) (hw.preV hR.obj cl_M.1) rfl rfl hl.1 rfl (lv_room (Nat.le_of_ble_eq_true rfl)) d_M_firstOf_49 ⟨(Nat.zero_le _), (Nat.zero_le _)⟩) (fun r1 M1 H locs hp hw => ?_)
            obtain ⟨rfl, hM1⟩ := hp
            rw [hM1] at hw
            refine lv_if_eq (tgt := 59) S.1 S.2.1 d_M_firstOf_52 rfl (fun h52 => ?_) (fun h52 => ?_)
            · refine lv_iload_n S.1 S.2.1 d_M_firstOf_59 rfl (lv_at hl 2 rfl) ?_
              refine lv_istore_n S.1 S.2.1 d_M_firstOf_60 rfl hl (by decide) rfl (fun ls hl => ?_)
              have hl : lv_has ls 5 [(2, .int (nI f)), (4, .int 1), (3, .int (nI o)), (1, .int b0), (0, .ref (rx μ))] := hl
              refine lv_iinc (k := 2) (v := nI (o + 1)) S.1 S.2.1 d_M_firstOf_61 hl rfl (nI_1 o) (by decide) rfl (fun ls hl => ?_)
              have hl : lv_has ls 5 [(3, .int (nI (o + 1))), (2, .int (nI f)), (4, .int 1), (1, .int b0), (0, .ref (rx μ))] := hl
              refine lv_goto (tgt := 4) S.1 S.2.1 d_M_firstOf_64 rfl ?_
              have hl := lv_sub hl [0, 1, 3, 4] rfl
              have hX : fst (sI σ) b0 (o + 1) = some f := fst_sf hf (by rw [b2i_0.mp h52, Bool.and_false])
              exact ih (o + 1) H locs ls (by omega) (by rw [hX]; exact hl) hw
            · refine lv_iload_n S.1 S.2.1 d_M_firstOf_55 rfl (lv_at hl 1 rfl) ?_
              refine lv_goto (tgt := 60) S.1 S.2.1 d_M_firstOf_56 rfl ?_
              refine lv_istore_n S.1 S.2.1 d_M_firstOf_60 rfl hl (by decide) rfl (fun ls hl => ?_)
              have hl : lv_has ls 5 [(2, .int (nI o)), (4, .int 1), (3, .int (nI o)), (1, .int b0), (0, .ref (rx μ))] := hl
              refine lv_iinc (k := 2) (v := nI (o + 1)) S.1 S.2.1 d_M_firstOf_61 hl rfl (nI_1 o) (by decide) rfl (fun ls hl => ?_)
              have hl : lv_has ls 5 [(3, .int (nI (o + 1))), (2, .int (nI o)), (4, .int 1), (1, .int b0), (0, .ref (rx μ))] := hl
              refine lv_goto (tgt := 4) S.1 S.2.1 d_M_firstOf_64 rfl ?_
              have hl := lv_sub hl [0, 1, 3, 4] rfl
              have hX : fst (sI σ) b0 (o + 1) = some o := fst_st hf (onS_t (b2i_n0.mp h17) h27) (b2i_n0.mp h52)
              exact ih (o + 1) H locs ls (by omega) (by rw [hX]; exact hl) hw
  have hl := lv_sub hl [0, 1, 3, 2] rfl
  exact loop _ 0 _ _ ls (Nat.zero_add _) hl hw
set_option maxHeartbeats 4000000 in
set_option maxRecDepth 100000 in
theorem c_M_isCut (l : Launch) (γ : mG) (M : mMap) (μ : RK) (σ : St) (ε : RE) (hR : RM γ M μ σ ε) (hn : sn σ ≤ 250) (hO : oOK (sI σ) (sn σ)) (hB : BD σ) (o r0 : Nat) (ho : o < sn σ) (hr0 : r0 < sn σ) : Met l y_M_isCut w_M_isCut ({ frames := 2, cells := 0, slots := 0, locals := 42 } : Room) (mPc γ M [.ref (rx μ), .int (nI o), .int (nI r0)]) (mQi γ (fun r M' => r = b2i (cutN σ o r0 (sn σ)) ∧ M' = M)) 0 0 (mA (gz γ)) := by
  refine m_enter (by decide) (Nat.le_of_ble_eq_true rfl) ?_
  intro p e s m below meth c ls S hr hlk hnm hl hw
  have hl : lv_has ls 5 [(0, .ref (rx μ)), (1, .int (nI o)), (2, .int (nI r0))] := hl
  have hR := hR.q
  refine lv_aload_n S.1 S.2.1 d_M_isCut_0 rfl (lv_at hl 0 rfl) ?_
  refine lv_aload_n S.1 S.2.1 d_M_isCut_1 rfl (lv_at hl 0 rfl) ?_
  refine m_get S hw cl_M hR.obj 8 (by decide) g696 (fun _ h => h) rfl d_M_isCut_2 ?_
  refine lv_iload_n S.1 S.2.1 d_M_isCut_5 rfl (lv_at hl 2 rfl) ?_
  refine m_rld (o := r0) S hw hR 2 (by decide) (by omega) d_M_isCut_6 ?_
  refine m_ci hw (va_runV (As := [.int ((sI σ) 2 r0)]) (rest := []) S (c_M_isBeyond l γ M μ σ ε hR.1 hB (sI σ 2 r0) (⟨(hO.1 r0 hr0).1, (hO.1 r0 hr0).2.1⟩)) (m_cwV 1 S g805 g807 g29 g48 g808 rfl rfl ⟨by decide +kernel, by decide +kernel, by decide +kernel⟩ ⟨(Nat.le_of_ble_eq_true rfl), (Nat.le_of_ble_eq_true rfl)⟩) (hw.preV hR.obj cl_M.1) rfl rfl hl.1 rfl (lv_room (Nat.le_of_ble_eq_true rfl)) d_M_isCut_7 ⟨(Nat.zero_le _), (Nat.zero_le _)⟩) (fun r1 M1 H locs hp hw => ?_)
  obtain ⟨rfl, hM1⟩ := hp
  rw [hM1] at hw
  refine lv_istore_n S.1 S.2.1 d_M_isCut_10 rfl hl (by decide) rfl (fun ls hl => ?_)
  have hl : lv_has ls 5 [(3, .int (b2i (byc (srf σ) (sbd σ) (sI σ 2 r0)))), (0, .ref (rx μ)), (1, .int (nI o)), (2, .int (nI r0))] := hl
  refine lv_iconst (v := 0) S.1 S.2.1 d_M_isCut_11 (by decide) ?_
  refine lv_istore S.1 S.2.1 d_M_isCut_12 hl (by decide) rfl (fun ls hl => ?_)
  have hl : lv_has ls 5 [(4, .int 0), (3, .int (b2i (byc (srf σ) (sbd σ) (sI σ 2 r0)))), (0, .ref (rx μ)), (1, .int (nI o)), (2, .int (nI r0))] := hl
  have loop : ∀ (d x : Nat) (H : Heap) (locs : List Loc) (ls : Array Slot), x + d = sn σ → lv_has ls 5 [(4, .int (nI x)), (3, .int (b2i (cutN σ o r0 x))), (2, .int (nI r0)), (1, .int (nI o)), (0, .ref (rx μ))] → mW γ M s H locs → W p l e ({ frames := 2, cells := 0, slots := 0, locals := 42 } : Room) s m #[.ref (rx μ), .int (nI o), .int (nI r0)] below meth c H locs 0 0 (MQ below (mQi γ (fun r M' => r = b2i (cutN σ o r0 (sn σ)) ∧ M' = M)) #[.ref (rx μ), .int (nI o), .int (nI r0)] s 0 0 (mA (gz γ))) (F0 m 14 ls []) := by
    intro d
    induction d with
    | zero =>
      intro x H locs ls hi hl hw
      have hi2 : x = sn σ := by omega
      refine lv_iload S.1 S.2.1 d_M_isCut_14 (lv_at hl 0 rfl) ?_
      refine lv_aload_n S.1 S.2.1 d_M_isCut_16 rfl (lv_at hl 4 rfl) ?_
      refine m_get S hw cl_M hR.obj 5 (by decide) g693 (fun _ h => h) rfl d_M_isCut_17 ?_
      refine lv_icmp_ge (tgt := 103) S.1 S.2.1 d_M_isCut_20 rfl (fun _ => ?_) (fun h => absurd (nI_le (by omega) (by omega)) h)
      refine lv_iload_n S.1 S.2.1 d_M_isCut_103 rfl (lv_at hl 1 rfl) ?_
      exact m_iret S hlk hr (b2i_nar _) hw (⟨by rw [hi2], rfl⟩) (Nat.le_refl _) (Nat.le_refl _) d_M_isCut_104
    | succ d ih =>
      intro x H locs ls hi hl hw
      have hx : x < sn σ := by omega
      refine lv_iload S.1 S.2.1 d_M_isCut_14 (lv_at hl 0 rfl) ?_
      refine lv_aload_n S.1 S.2.1 d_M_isCut_16 rfl (lv_at hl 4 rfl) ?_
      refine m_get S hw cl_M hR.obj 5 (by decide) g693 (fun _ h => h) rfl d_M_isCut_17 ?_
      refine lv_icmp_ge (tgt := 103) S.1 S.2.1 d_M_isCut_20 rfl (fun h => absurd h (nI_ge (by omega) (by omega))) (fun _ => ?_)
      refine lv_iload_n S.1 S.2.1 d_M_isCut_23 rfl (lv_at hl 1 rfl) ?_
      refine lv_if_ne (tgt := 91) S.1 S.2.1 d_M_isCut_24 rfl (fun h24 => ?_) (fun h24 => ?_)
      · refine lv_iconst (v := 1) S.1 S.2.1 d_M_isCut_91 (by decide) ?_
        refine lv_goto (tgt := 96) S.1 S.2.1 d_M_isCut_92 rfl ?_
        refine lv_istore_n S.1 S.2.1 d_M_isCut_96 rfl hl (by decide) rfl (fun ls hl => ?_)
        have hl : lv_has ls 5 [(3, .int 1), (4, .int (nI x)), (2, .int (nI r0)), (1, .int (nI o)), (0, .ref (rx μ))] := hl
        refine lv_iinc (k := 1) (v := nI (x + 1)) S.1 S.2.1 d_M_isCut_97 hl rfl (nI_1 x) (by decide) rfl (fun ls hl => ?_)
        have hl : lv_has ls 5 [(4, .int (nI (x + 1))), (3, .int 1), (2, .int (nI r0)), (1, .int (nI o)), (0, .ref (rx μ))] := hl
        refine lv_goto (tgt := 14) S.1 S.2.1 d_M_isCut_100 rfl ?_
        have hl := lv_sub hl [0, 1, 2, 3, 4] rfl
        have hX : cutN σ o r0 (x + 1) = true := by show (_ || _) = true; rw [b2i_n0.mp h24, Bool.true_or]
        exact ih (x + 1) H locs ls (by omega) (by rw [hX]; exact hl) hw
      · refine lv_aload_n S.1 S.2.1 d_M_isCut_27 rfl (lv_at hl 4 rfl) ?_
        refine lv_iload S.1 S.2.1 d_M_isCut_28 (lv_at hl 0 rfl) ?_
        refine m_ci hw (va_runV (As := [.int (nI x)]) (rest := []) S (c_M_rests l γ M μ σ ε hR.1 hn x hx) (m_cwV 1 S g793 g795 g26 g48 g796 rfl rfl ⟨by decide +kernel, by decide +kernel, by decide +kernel⟩ ⟨(Nat.le_of_ble_eq_true rfl), (Nat.le_of_ble_eq_true rfl)⟩) (hw.preV hR.obj cl_M.1) rfl rfl hl.1 rfl (lv_room (Nat.le_of_ble_eq_true rfl)) d_M_isCut_30 ⟨(Nat.zero_le _), (Nat.zero_le _)⟩) (fun r1 M1 H locs hp hw => ?_)
        obtain ⟨rfl, hM1⟩ := hp
        rw [hM1] at hw
        refine lv_if_eq (tgt := 95) S.1 S.2.1 d_M_isCut_33 rfl (fun h33 => ?_) (fun h33 => ?_)
        · refine lv_iconst (v := 0) S.1 S.2.1 d_M_isCut_95 (by decide) ?_
          refine lv_istore_n S.1 S.2.1 d_M_isCut_96 rfl hl (by decide) rfl (fun ls hl => ?_)
          have hl : lv_has ls 5 [(3, .int 0), (4, .int (nI x)), (2, .int (nI r0)), (1, .int (nI o)), (0, .ref (rx μ))] := hl
          refine lv_iinc (k := 1) (v := nI (x + 1)) S.1 S.2.1 d_M_isCut_97 hl rfl (nI_1 x) (by decide) rfl (fun ls hl => ?_)
          have hl : lv_has ls 5 [(4, .int (nI (x + 1))), (3, .int 0), (2, .int (nI r0)), (1, .int (nI o)), (0, .ref (rx μ))] := hl
          refine lv_goto (tgt := 14) S.1 S.2.1 d_M_isCut_100 rfl ?_
          have hl := lv_sub hl [0, 1, 2, 3, 4] rfl
          have hX : cutN σ o r0 (x + 1) = false := by show (_ || cutP σ o r0 x) = _; rw [b2i_0.mp h24, Bool.false_or]; unfold cutP; rw [b2i_0.mp h33, Bool.false_and]
          exact ih (x + 1) H locs ls (by omega) (by rw [hX]; exact hl) hw
        · refine lv_aload_n S.1 S.2.1 d_M_isCut_36 rfl (lv_at hl 4 rfl) ?_
          refine m_get S hw cl_M hR.obj 7 (by decide) g695 (fun _ h => h) rfl d_M_isCut_37 ?_
          refine lv_iload S.1 S.2.1 d_M_isCut_40 (lv_at hl 0 rfl) ?_
          refine m_rldz (o := x) S hw hR (by omega) d_M_isCut_42 ?_
          refine lv_aload_n S.1 S.2.1 d_M_isCut_43 rfl (lv_at hl 4 rfl) ?_
          refine m_get S hw cl_M hR.obj 7 (by decide) g695 (fun _ h => h) rfl d_M_isCut_44 ?_
          refine lv_iload_n S.1 S.2.1 d_M_isCut_47 rfl (lv_at hl 2 rfl) ?_
          refine m_rldz (o := r0) S hw hR (by omega) d_M_isCut_48 ?_
          refine lv_icmp_ne (tgt := 95) S.1 S.2.1 d_M_isCut_49 rfl (fun h49 => ?_) (fun h49 => ?_)
          · refine lv_iconst (v := 0) S.1 S.2.1 d_M_isCut_95 (by decide) ?_
            refine lv_istore_n S.1 S.2.1 d_M_isCut_96 rfl hl (by decide) rfl (fun ls hl => ?_)
            have hl : lv_has ls 5 [(3, .int 0), (4, .int (nI x)), (2, .int (nI r0)), (1, .int (nI o)), (0, .ref (rx μ))] := hl
            refine lv_iinc (k := 1) (v := nI (x + 1)) S.1 S.2.1 d_M_isCut_97 hl rfl (nI_1 x) (by decide) rfl (fun ls hl => ?_)
            have hl : lv_has ls 5 [(4, .int (nI (x + 1))), (3, .int 0), (2, .int (nI r0)), (1, .int (nI o)), (0, .ref (rx μ))] := hl
            refine lv_goto (tgt := 14) S.1 S.2.1 d_M_isCut_100 rfl ?_
            have hl := lv_sub hl [0, 1, 2, 3, 4] rfl
            have hX : cutN σ o r0 (x + 1) = false := by show (_ || cutP σ o r0 x) = _; rw [b2i_0.mp h24, Bool.false_or]; unfold cutP; rw [decide_eq_false h49, Bool.false_and, Bool.and_false]
            exact ih (x + 1) H locs ls (by omega) (by rw [hX]; exact hl) hw
          · refine lv_aload_n S.1 S.2.1 d_M_isCut_52 rfl (lv_at hl 4 rfl) ?_
            refine lv_iload S.1 S.2.1 d_M_isCut_53 (lv_at hl 0 rfl) ?_
            refine lv_iload_n S.1 S.2.1 d_M_isCut_55 rfl (lv_at hl 2 rfl) ?_
            refine m_ci hw (va_runV (As := [.int (nI x), .int (nI r0)]) (rest := []) S (c_M_isBefore l γ M μ σ ε hR.1 hn x r0 hx hr0) (m_cwV 2 S g812 g814 g30 g48 g815 rfl rfl ⟨by decide +kernel, by decide +kernel, by decide +kernel⟩ ⟨(Nat.le_of_ble_eq_true rfl), (Nat.le_of_ble_eq_true rfl)⟩) (hw.preV hR.obj cl_M.1) rfl rfl hl.1 rfl (lv_room (Nat.le_of_ble_eq_true rfl)) d_M_isCut_56 ⟨(Nat.zero_le _), (Nat.zero_le _)⟩) (fun r1 M1 H locs hp hw => ?_)
            obtain ⟨rfl, hM1⟩ := hp
            rw [hM1] at hw
            refine lv_if_eq (tgt := 95) S.1 S.2.1 d_M_isCut_59 rfl (fun h59 => ?_) (fun h59 => ?_)
            · refine lv_iconst (v := 0) S.1 S.2.1 d_M_isCut_95 (by decide) ?_
              refine lv_istore_n S.1 S.2.1 d_M_isCut_96 rfl hl (by decide) rfl (fun ls hl => ?_)
              have hl : lv_has ls 5 [(3, .int 0), (4, .int (nI x)), (2, .int (nI r0)), (1, .int (nI o)), (0, .ref (rx μ))] := hl
              refine lv_iinc (k := 1) (v := nI (x + 1)) S.1 S.2.1 d_M_isCut_97 hl rfl (nI_1 x) (by decide) rfl (fun ls hl => ?_)
              have hl : lv_has ls 5 [(4, .int (nI (x + 1))), (3, .int 0), (2, .int (nI r0)), (1, .int (nI o)), (0, .ref (rx μ))] := hl
              refine lv_goto (tgt := 14) S.1 S.2.1 d_M_isCut_100 rfl ?_
              have hl := lv_sub hl [0, 1, 2, 3, 4] rfl
              have hX : cutN σ o r0 (x + 1) = false := by show (_ || cutP σ o r0 x) = _; rw [b2i_0.mp h24, Bool.false_or]; unfold cutP; rw [b2i_0.mp h59, Bool.false_and, Bool.and_false, Bool.and_false]
              exact ih (x + 1) H locs ls (by omega) (by rw [hX]; exact hl) hw
            · refine lv_aload_n S.1 S.2.1 d_M_isCut_62 rfl (lv_at hl 4 rfl) ?_
              refine lv_aload_n S.1 S.2.1 d_M_isCut_63 rfl (lv_at hl 4 rfl) ?_
              refine m_get S hw cl_M hR.obj 8 (by decide) g696 (fun _ h => h) rfl d_M_isCut_64 ?_
              refine lv_iload S.1 S.2.1 d_M_isCut_67 (lv_at hl 0 rfl) ?_
              refine m_rld (o := x) S hw hR 2 (by decide) (by omega) d_M_isCut_69 ?_
              refine m_ci hw (va_runV (As := [.int ((sI σ) 2 x)]) (rest := []) S (c_M_isBeyond l γ M μ σ ε hR.1 hB (sI σ 2 x) (⟨(hO.1 x hx).1, (hO.1 x hx).2.1⟩)) (m_cwV 1 S g805 g807 g29 g48 g808 rfl rfl ⟨by decide +kernel, by decide +kernel, by decide +kernel⟩ ⟨(Nat.le_of_ble_eq_true rfl), (Nat.le_of_ble_eq_true rfl)⟩) (hw.preV hR.obj cl_M.1) rfl rfl hl.1 rfl (lv_room (Nat.le_of_ble_eq_true rfl)) d_M_isCut_70 ⟨(Nat.zero_le _), (Nat.zero_le _)⟩) (fun r1 M1 H locs hp hw => ?_)
              obtain ⟨rfl, hM1⟩ := hp
              rw [hM1] at hw
              refine lv_if_ne (tgt := 91) S.1 S.2.1 d_M_isCut_73 rfl (fun h73 => ?_) (fun h73 => ?_)
              · refine lv_iconst (v := 1) S.1 S.2.1 d_M_isCut_91 (by decide) ?_
                refine lv_goto (tgt := 96) S.1 S.2.1 d_M_isCut_92 rfl ?_
                refine lv_istore_n S.1 S.2.1 d_M_isCut_96 rfl hl (by decide) rfl (fun ls hl => ?_)
                have hl : lv_has ls 5 [(3, .int 1), (4, .int (nI x)), (2, .int (nI r0)), (1, .int (nI o)), (0, .ref (rx μ))] := hl
                refine lv_iinc (k := 1) (v := nI (x + 1)) S.1 S.2.1 d_M_isCut_97 hl rfl (nI_1 x) (by decide) rfl (fun ls hl => ?_)
                have hl : lv_has ls 5 [(4, .int (nI (x + 1))), (3, .int 1), (2, .int (nI r0)), (1, .int (nI o)), (0, .ref (rx μ))] := hl
                refine lv_goto (tgt := 14) S.1 S.2.1 d_M_isCut_100 rfl ?_
                have hl := lv_sub hl [0, 1, 2, 3, 4] rfl
                have hX : cutN σ o r0 (x + 1) = true := by show (_ || cutP σ o r0 x) = _; rw [b2i_0.mp h24, Bool.false_or]; unfold cutP; rw [b2i_n0.mp h33, decide_eq_true h49, b2i_n0.mp h59, b2i_n0.mp h73]; rfl
                exact ih (x + 1) H locs ls (by omega) (by rw [hX]; exact hl) hw
              · refine lv_aload_n S.1 S.2.1 d_M_isCut_76 rfl (lv_at hl 4 rfl) ?_
                refine lv_iload_n S.1 S.2.1 d_M_isCut_77 rfl (lv_at hl 3 rfl) ?_
                refine lv_aload_n S.1 S.2.1 d_M_isCut_78 rfl (lv_at hl 4 rfl) ?_
                refine m_get S hw cl_M hR.obj 8 (by decide) g696 (fun _ h => h) rfl d_M_isCut_79 ?_
                refine lv_iload S.1 S.2.1 d_M_isCut_82 (lv_at hl 0 rfl) ?_
                refine m_rld (o := x) S hw hR 2 (by decide) (by omega) d_M_isCut_84 ?_
                refine m_ci hw (va_runV (As := [.int (nI o), .int ((sI σ) 2 x)]) (rest := []) S (c_M_takes l γ M μ σ ε hR.1 hn o ho (sI σ 2 x)) (m_cwV 2 S g797 g799 g27 g48 g800 rfl rfl ⟨by decide +kernel, by decide +kernel, by decide +kernel⟩ ⟨(Nat.le_of_ble_eq_true rfl), (Nat.le_of_ble_eq_true rfl)⟩) (hw.preV hR.obj cl_M.1) rfl rfl hl.1 rfl (lv_room (Nat.le_of_ble_eq_true rfl)) d_M_isCut_85 ⟨(Nat.zero_le _), (Nat.zero_le _)⟩) (fun r1 M1 H locs hp hw => ?_)
                obtain ⟨rfl, hM1⟩ := hp
                rw [hM1] at hw
                refine lv_if_ne (tgt := 95) S.1 S.2.1 d_M_isCut_88 rfl (fun h88 => ?_) (fun h88 => ?_)
                · refine lv_iconst (v := 0) S.1 S.2.1 d_M_isCut_95 (by decide) ?_
                  refine lv_istore_n S.1 S.2.1 d_M_isCut_96 rfl hl (by decide) rfl (fun ls hl => ?_)
                  have hl : lv_has ls 5 [(3, .int 0), (4, .int (nI x)), (2, .int (nI r0)), (1, .int (nI o)), (0, .ref (rx μ))] := hl
                  refine lv_iinc (k := 1) (v := nI (x + 1)) S.1 S.2.1 d_M_isCut_97 hl rfl (nI_1 x) (by decide) rfl (fun ls hl => ?_)
                  have hl : lv_has ls 5 [(4, .int (nI (x + 1))), (3, .int 0), (2, .int (nI r0)), (1, .int (nI o)), (0, .ref (rx μ))] := hl
                  refine lv_goto (tgt := 14) S.1 S.2.1 d_M_isCut_100 rfl ?_
                  have hl := lv_sub hl [0, 1, 2, 3, 4] rfl
                  have hX : cutN σ o r0 (x + 1) = false := by show (_ || cutP σ o r0 x) = _; rw [b2i_0.mp h24, Bool.false_or]; unfold cutP; rw [b2i_0.mp h73, b2i_n0.mp h88]; simp
                  exact ih (x + 1) H locs ls (by omega) (by rw [hX]; exact hl) hw
                · refine lv_iconst (v := 1) S.1 S.2.1 d_M_isCut_91 (by decide) ?_
                  refine lv_goto (tgt := 96) S.1 S.2.1 d_M_isCut_92 rfl ?_
                  refine lv_istore_n S.1 S.2.1 d_M_isCut_96 rfl hl (by decide) rfl (fun ls hl => ?_)
                  have hl : lv_has ls 5 [(3, .int 1), (4, .int (nI x)), (2, .int (nI r0)), (1, .int (nI o)), (0, .ref (rx μ))] := hl
                  refine lv_iinc (k := 1) (v := nI (x + 1)) S.1 S.2.1 d_M_isCut_97 hl rfl (nI_1 x) (by decide) rfl (fun ls hl => ?_)
                  have hl : lv_has ls 5 [(4, .int (nI (x + 1))), (3, .int 1), (2, .int (nI r0)), (1, .int (nI o)), (0, .ref (rx μ))] := hl
                  refine lv_goto (tgt := 14) S.1 S.2.1 d_M_isCut_100 rfl ?_
                  have hl := lv_sub hl [0, 1, 2, 3, 4] rfl
                  have hX : cutN σ o r0 (x + 1) = true := by show (_ || cutP σ o r0 x) = _; rw [b2i_0.mp h24, Bool.false_or]; unfold cutP; rw [b2i_n0.mp h33, decide_eq_true h49, b2i_n0.mp h59, b2i_0.mp h88]; simp
                  exact ih (x + 1) H locs ls (by omega) (by rw [hX]; exact hl) hw
  have hl := lv_sub hl [0, 1, 4, 3, 2] rfl
  exact loop _ 0 _ _ ls (Nat.zero_add _) hl hw
set_option maxHeartbeats 4000000 in
set_option maxRecDepth 100000 in
theorem c_M_isCovered (l : Launch) (γ : mG) (M : mMap) (μ : RK) (σ : St) (ε : RE) (hR : RM γ M μ σ ε) (hn : sn σ ≤ 250) (hO : oOK (sI σ) (sn σ)) (hB : BD σ) (o : Nat) (ho : o < sn σ) : Met l y_M_isCovered w_M_isCovered ({ frames := 3, cells := 0, slots := 0, locals := 66 } : Room) (mPc γ M [.ref (rx μ), .int (nI o)]) (mQi γ (fun r M' => r = b2i (cov σ o) ∧ M' = M)) 0 0 (mA (gz γ)) := by
  refine m_enter (by decide) (Nat.le_of_ble_eq_true rfl) ?_
  intro p e s m below meth c ls S hr hlk hnm hl hw
  have hl : lv_has ls 6 [(0, .ref (rx μ)), (1, .int (nI o))] := hl
  have hR := hR.q
  refine lv_lconst (v := 0) S.1 S.2.1 d_M_isCovered_0 (by decide) ?_
  refine lv_lstore_n S.1 S.2.1 d_M_isCovered_1 rfl hl (by decide) rfl (fun ls hl => ?_)
  have hl : lv_has ls 6 [(2, .long 0), (0, .ref (rx μ)), (1, .int (nI o))] := hl
  refine lv_iconst (v := 0) S.1 S.2.1 d_M_isCovered_2 (by decide) ?_
  refine lv_istore S.1 S.2.1 d_M_isCovered_3 hl (by decide) rfl (fun ls hl => ?_)
  have hl : lv_has ls 6 [(4, .int 0), (2, .long 0), (0, .ref (rx μ)), (1, .int (nI o))] := hl
  have loop : ∀ (d x : Nat) (H : Heap) (locs : List Loc) (ls : Array Slot), x + d = sn σ → lv_has ls 6 [(4, .int (nI x)), (2, .long (gsum σ o x)), (1, .int (nI o)), (0, .ref (rx μ))] → mW γ M s H locs → W p l e ({ frames := 3, cells := 0, slots := 0, locals := 66 } : Room) s m #[.ref (rx μ), .int (nI o)] below meth c H locs 0 0 (MQ below (mQi γ (fun r M' => r = b2i (cov σ o) ∧ M' = M)) #[.ref (rx μ), .int (nI o)] s 0 0 (mA (gz γ))) (F0 m 5 ls []) := by
    intro d
    induction d with
    | zero =>
      intro x H locs ls hi hl hw
      have hi2 : x = sn σ := by omega
      refine lv_iload S.1 S.2.1 d_M_isCovered_5 (lv_at hl 0 rfl) ?_
      refine lv_aload_n S.1 S.2.1 d_M_isCovered_7 rfl (lv_at hl 3 rfl) ?_
      refine m_get S hw cl_M hR.obj 5 (by decide) g693 (fun _ h => h) rfl d_M_isCovered_8 ?_
      refine lv_icmp_ge (tgt := 97) S.1 S.2.1 d_M_isCovered_11 rfl (fun _ => ?_) (fun h => absurd (nI_le (by omega) (by omega)) h)
      refine lv_lload_n S.1 S.2.1 d_M_isCovered_97 rfl (lv_at hl 1 rfl) ?_
      refine lv_aload_n S.1 S.2.1 d_M_isCovered_98 rfl (lv_at hl 3 rfl) ?_
      refine m_get S hw cl_M hR.obj 9 (by decide) g697 (fun _ h => h) rfl d_M_isCovered_99 ?_
      refine lv_iload_n S.1 S.2.1 d_M_isCovered_102 rfl (lv_at hl 2 rfl) ?_
      refine m_rld (o := o) S hw hR 3 (by decide) (by omega) d_M_isCovered_103 ?_
      refine lv_i2l S.1 S.2.1 d_M_isCovered_104 rfl ?_
      refine W.lcmp S.1 S.2.1 d_M_isCovered_105 ?_
      refine lv_if_lt (tgt := 113) S.1 S.2.1 d_M_isCovered_106 rfl (fun h106 => ?_) (fun h106 => ?_)
      · refine lv_iconst (v := 0) S.1 S.2.1 d_M_isCovered_113 (by decide) ?_
        exact m_iret S hlk hr rfl hw (⟨(congrArg b2i (show cov σ o = false from by unfold cov; rw [← hi2]; exact decide_eq_false (fun z => absurd ((lg_cmp_lt _ _).mp h106) (Int64.not_lt.mpr z)))).symm, rfl⟩) (Nat.le_refl _) (Nat.le_refl _) d_M_isCovered_114
      · refine lv_iconst (v := 1) S.1 S.2.1 d_M_isCovered_109 (by decide) ?_
        refine lv_goto (tgt := 114) S.1 S.2.1 d_M_isCovered_110 rfl ?_
        exact m_iret S hlk hr rfl hw (⟨(congrArg b2i (show cov σ o = true from by unfold cov; rw [← hi2]; exact decide_eq_true (Int64.not_lt.mp (fun z => h106 ((lg_cmp_lt _ _).mpr z))))).symm, rfl⟩) (Nat.le_refl _) (Nat.le_refl _) d_M_isCovered_114
    | succ d ih =>
      intro x H locs ls hi hl hw
      have hx : x < sn σ := by omega
      refine lv_iload S.1 S.2.1 d_M_isCovered_5 (lv_at hl 0 rfl) ?_
      refine lv_aload_n S.1 S.2.1 d_M_isCovered_7 rfl (lv_at hl 3 rfl) ?_
      refine m_get S hw cl_M hR.obj 5 (by decide) g693 (fun _ h => h) rfl d_M_isCovered_8 ?_
      refine lv_icmp_ge (tgt := 97) S.1 S.2.1 d_M_isCovered_11 rfl (fun h => absurd h (nI_ge (by omega) (by omega))) (fun _ => ?_)
      refine lv_aload_n S.1 S.2.1 d_M_isCovered_14 rfl (lv_at hl 3 rfl) ?_
      refine lv_iload S.1 S.2.1 d_M_isCovered_15 (lv_at hl 0 rfl) ?_
      refine m_ci hw (va_runV (As := [.int (nI x)]) (rest := []) S (c_M_rests l γ M μ σ ε hR.1 hn x hx) (m_cwV 1 S g793 g795 g26 g48 g796 rfl rfl ⟨by decide +kernel, by decide +kernel, by decide +kernel⟩ ⟨(Nat.le_of_ble_eq_true rfl), (Nat.le_of_ble_eq_true rfl)⟩) (hw.preV hR.obj cl_M.1) rfl rfl hl.1 rfl (lv_room (Nat.le_of_ble_eq_true rfl)) d_M_isCovered_17 ⟨(Nat.zero_le _), (Nat.zero_le _)⟩) (fun r1 M1 H locs hp hw => ?_)
      obtain ⟨rfl, hM1⟩ := hp
      rw [hM1] at hw
      refine lv_if_eq (tgt := 68) S.1 S.2.1 d_M_isCovered_20 rfl (fun h20 => ?_) (fun h20 => ?_)
      · refine lv_iconst (v := 0) S.1 S.2.1 d_M_isCovered_68 (by decide) ?_
        refine lv_istore S.1 S.2.1 d_M_isCovered_69 hl (by decide) rfl (fun ls hl => ?_)
        have hl : lv_has ls 6 [(5, .int 0), (4, .int (nI x)), (2, .long (gsum σ o x)), (1, .int (nI o)), (0, .ref (rx μ))] := hl
        refine lv_lload_n S.1 S.2.1 d_M_isCovered_71 rfl (lv_at hl 2 rfl) ?_
        refine lv_iload S.1 S.2.1 d_M_isCovered_72 (lv_at hl 0 rfl) ?_
        refine lv_if_eq (tgt := 88) S.1 S.2.1 d_M_isCovered_74 rfl (fun _ => ?_) (fun h => absurd (show (0 : Int32) = 0 from rfl) h)
        refine lv_lconst (v := 0) S.1 S.2.1 d_M_isCovered_88 (by decide) ?_
        refine lv_ladd S.1 S.2.1 d_M_isCovered_89 ?_
        refine lv_lstore_n S.1 S.2.1 d_M_isCovered_90 rfl hl (by decide) rfl (fun ls hl => ?_)
        have hl : lv_has ls 6 [(2, .long ((gsum σ o x) + 0)), (5, .int 0), (4, .int (nI x)), (1, .int (nI o)), (0, .ref (rx μ))] := hl
        refine lv_iinc (k := 2) (v := nI (x + 1)) S.1 S.2.1 d_M_isCovered_91 hl rfl (nI_1 x) (by decide) rfl (fun ls hl => ?_)
        have hl : lv_has ls 6 [(4, .int (nI (x + 1))), (2, .long ((gsum σ o x) + 0)), (5, .int 0), (1, .int (nI o)), (0, .ref (rx μ))] := hl
        refine lv_goto (tgt := 5) S.1 S.2.1 d_M_isCovered_94 rfl ?_
        have hl := lv_sub hl [0, 1, 3, 4] rfl
        have hX := gsum_f (σ := σ) (o := o) (k := x) (by unfold goes; rw [b2i_0.mp h20, Bool.false_and])
        exact ih (x + 1) H locs ls (by omega) (by rw [hX]; exact hl) hw
      · refine lv_aload_n S.1 S.2.1 d_M_isCovered_23 rfl (lv_at hl 3 rfl) ?_
        refine m_get S hw cl_M hR.obj 7 (by decide) g695 (fun _ h => h) rfl d_M_isCovered_24 ?_
        refine lv_iload S.1 S.2.1 d_M_isCovered_27 (lv_at hl 0 rfl) ?_
        refine m_rldz (o := x) S hw hR (by omega) d_M_isCovered_29 ?_
        refine lv_aload_n S.1 S.2.1 d_M_isCovered_30 rfl (lv_at hl 3 rfl) ?_
        refine m_get S hw cl_M hR.obj 7 (by decide) g695 (fun _ h => h) rfl d_M_isCovered_31 ?_
        refine lv_iload_n S.1 S.2.1 d_M_isCovered_34 rfl (lv_at hl 2 rfl) ?_
        refine m_rldz (o := o) S hw hR (by omega) d_M_isCovered_35 ?_
        refine lv_icmp_eq (tgt := 68) S.1 S.2.1 d_M_isCovered_36 rfl (fun h36 => ?_) (fun h36 => ?_)
        · refine lv_iconst (v := 0) S.1 S.2.1 d_M_isCovered_68 (by decide) ?_
          refine lv_istore S.1 S.2.1 d_M_isCovered_69 hl (by decide) rfl (fun ls hl => ?_)
          have hl : lv_has ls 6 [(5, .int 0), (4, .int (nI x)), (2, .long (gsum σ o x)), (1, .int (nI o)), (0, .ref (rx μ))] := hl
          refine lv_lload_n S.1 S.2.1 d_M_isCovered_71 rfl (lv_at hl 2 rfl) ?_
          refine lv_iload S.1 S.2.1 d_M_isCovered_72 (lv_at hl 0 rfl) ?_
          refine lv_if_eq (tgt := 88) S.1 S.2.1 d_M_isCovered_74 rfl (fun _ => ?_) (fun h => absurd (show (0 : Int32) = 0 from rfl) h)
          refine lv_lconst (v := 0) S.1 S.2.1 d_M_isCovered_88 (by decide) ?_
          refine lv_ladd S.1 S.2.1 d_M_isCovered_89 ?_
          refine lv_lstore_n S.1 S.2.1 d_M_isCovered_90 rfl hl (by decide) rfl (fun ls hl => ?_)
          have hl : lv_has ls 6 [(2, .long ((gsum σ o x) + 0)), (5, .int 0), (4, .int (nI x)), (1, .int (nI o)), (0, .ref (rx μ))] := hl
          refine lv_iinc (k := 2) (v := nI (x + 1)) S.1 S.2.1 d_M_isCovered_91 hl rfl (nI_1 x) (by decide) rfl (fun ls hl => ?_)
          have hl : lv_has ls 6 [(4, .int (nI (x + 1))), (2, .long ((gsum σ o x) + 0)), (5, .int 0), (1, .int (nI o)), (0, .ref (rx μ))] := hl
          refine lv_goto (tgt := 5) S.1 S.2.1 d_M_isCovered_94 rfl ?_
          have hl := lv_sub hl [0, 1, 3, 4] rfl
          have hX := gsum_f (σ := σ) (o := o) (k := x) (by unfold goes; rw [decide_eq_false (fun z => z h36), Bool.false_and, Bool.and_false])
          exact ih (x + 1) H locs ls (by omega) (by rw [hX]; exact hl) hw
        · refine lv_aload_n S.1 S.2.1 d_M_isCovered_39 rfl (lv_at hl 3 rfl) ?_
          refine lv_iload_n S.1 S.2.1 d_M_isCovered_40 rfl (lv_at hl 2 rfl) ?_
          refine lv_aload_n S.1 S.2.1 d_M_isCovered_41 rfl (lv_at hl 3 rfl) ?_
          refine m_get S hw cl_M hR.obj 8 (by decide) g696 (fun _ h => h) rfl d_M_isCovered_42 ?_
          refine lv_iload S.1 S.2.1 d_M_isCovered_45 (lv_at hl 0 rfl) ?_
          refine m_rld (o := x) S hw hR 2 (by decide) (by omega) d_M_isCovered_47 ?_
          refine m_ci hw (va_runV (As := [.int (nI o), .int ((sI σ) 2 x)]) (rest := []) S (c_M_takes l γ M μ σ ε hR.1 hn o ho (sI σ 2 x)) (m_cwV 2 S g797 g799 g27 g48 g800 rfl rfl ⟨by decide +kernel, by decide +kernel, by decide +kernel⟩ ⟨(Nat.le_of_ble_eq_true rfl), (Nat.le_of_ble_eq_true rfl)⟩) (hw.preV hR.obj cl_M.1) rfl rfl hl.1 rfl (lv_room (Nat.le_of_ble_eq_true rfl)) d_M_isCovered_48 ⟨(Nat.zero_le _), (Nat.zero_le _)⟩) (fun r1 M1 H locs hp hw => ?_)
          obtain ⟨rfl, hM1⟩ := hp
          rw [hM1] at hw
          refine lv_if_eq (tgt := 68) S.1 S.2.1 d_M_isCovered_51 rfl (fun h51 => ?_) (fun h51 => ?_)
          · refine lv_iconst (v := 0) S.1 S.2.1 d_M_isCovered_68 (by decide) ?_
            refine lv_istore S.1 S.2.1 d_M_isCovered_69 hl (by decide) rfl (fun ls hl => ?_)
            have hl : lv_has ls 6 [(5, .int 0), (4, .int (nI x)), (2, .long (gsum σ o x)), (1, .int (nI o)), (0, .ref (rx μ))] := hl
            refine lv_lload_n S.1 S.2.1 d_M_isCovered_71 rfl (lv_at hl 2 rfl) ?_
            refine lv_iload S.1 S.2.1 d_M_isCovered_72 (lv_at hl 0 rfl) ?_
            refine lv_if_eq (tgt := 88) S.1 S.2.1 d_M_isCovered_74 rfl (fun _ => ?_) (fun h => absurd (show (0 : Int32) = 0 from rfl) h)
            refine lv_lconst (v := 0) S.1 S.2.1 d_M_isCovered_88 (by decide) ?_
            refine lv_ladd S.1 S.2.1 d_M_isCovered_89 ?_
            refine lv_lstore_n S.1 S.2.1 d_M_isCovered_90 rfl hl (by decide) rfl (fun ls hl => ?_)
            have hl : lv_has ls 6 [(2, .long ((gsum σ o x) + 0)), (5, .int 0), (4, .int (nI x)), (1, .int (nI o)), (0, .ref (rx μ))] := hl
            refine lv_iinc (k := 2) (v := nI (x + 1)) S.1 S.2.1 d_M_isCovered_91 hl rfl (nI_1 x) (by decide) rfl (fun ls hl => ?_)
            have hl : lv_has ls 6 [(4, .int (nI (x + 1))), (2, .long ((gsum σ o x) + 0)), (5, .int 0), (1, .int (nI o)), (0, .ref (rx μ))] := hl
            refine lv_goto (tgt := 5) S.1 S.2.1 d_M_isCovered_94 rfl ?_
            have hl := lv_sub hl [0, 1, 3, 4] rfl
            have hX := gsum_f (σ := σ) (o := o) (k := x) (by unfold goes; rw [b2i_0.mp h51, Bool.false_and, Bool.and_false, Bool.and_false])
            exact ih (x + 1) H locs ls (by omega) (by rw [hX]; exact hl) hw
          · refine lv_aload_n S.1 S.2.1 d_M_isCovered_54 rfl (lv_at hl 3 rfl) ?_
            refine lv_iload_n S.1 S.2.1 d_M_isCovered_55 rfl (lv_at hl 2 rfl) ?_
            refine lv_iload S.1 S.2.1 d_M_isCovered_56 (lv_at hl 0 rfl) ?_
            refine m_ci hw (va_runV (As := [.int (nI o), .int (nI x)]) (rest := []) S (c_M_isCut l γ M μ σ ε hR.1 hn hO hB o x ho hx) (m_cwV 2 S g801 g803 g28 g48 g804 rfl rfl ⟨by decide +kernel, by decide +kernel, by decide +kernel⟩ ⟨(Nat.le_of_ble_eq_true rfl), (Nat.le_of_ble_eq_true rfl)⟩) (hw.preV hR.obj cl_M.1) rfl rfl hl.1 rfl (lv_room (Nat.le_of_ble_eq_true rfl)) d_M_isCovered_58 ⟨(Nat.zero_le _), (Nat.zero_le _)⟩) (fun r1 M1 H locs hp hw => ?_)
            obtain ⟨rfl, hM1⟩ := hp
            rw [hM1] at hw
            refine lv_if_ne (tgt := 68) S.1 S.2.1 d_M_isCovered_61 rfl (fun h61 => ?_) (fun h61 => ?_)
            · refine lv_iconst (v := 0) S.1 S.2.1 d_M_isCovered_68 (by decide) ?_
              refine lv_istore S.1 S.2.1 d_M_isCovered_69 hl (by decide) rfl (fun ls hl => ?_)
              have hl : lv_has ls 6 [(5, .int 0), (4, .int (nI x)), (2, .long (gsum σ o x)), (1, .int (nI o)), (0, .ref (rx μ))] := hl
              refine lv_lload_n S.1 S.2.1 d_M_isCovered_71 rfl (lv_at hl 2 rfl) ?_
              refine lv_iload S.1 S.2.1 d_M_isCovered_72 (lv_at hl 0 rfl) ?_
              refine lv_if_eq (tgt := 88) S.1 S.2.1 d_M_isCovered_74 rfl (fun _ => ?_) (fun h => absurd (show (0 : Int32) = 0 from rfl) h)
              refine lv_lconst (v := 0) S.1 S.2.1 d_M_isCovered_88 (by decide) ?_
              refine lv_ladd S.1 S.2.1 d_M_isCovered_89 ?_
              refine lv_lstore_n S.1 S.2.1 d_M_isCovered_90 rfl hl (by decide) rfl (fun ls hl => ?_)
              have hl : lv_has ls 6 [(2, .long ((gsum σ o x) + 0)), (5, .int 0), (4, .int (nI x)), (1, .int (nI o)), (0, .ref (rx μ))] := hl
              refine lv_iinc (k := 2) (v := nI (x + 1)) S.1 S.2.1 d_M_isCovered_91 hl rfl (nI_1 x) (by decide) rfl (fun ls hl => ?_)
              have hl : lv_has ls 6 [(4, .int (nI (x + 1))), (2, .long ((gsum σ o x) + 0)), (5, .int 0), (1, .int (nI o)), (0, .ref (rx μ))] := hl
              refine lv_goto (tgt := 5) S.1 S.2.1 d_M_isCovered_94 rfl ?_
              have hl := lv_sub hl [0, 1, 3, 4] rfl
              have hX := gsum_f (σ := σ) (o := o) (k := x) (by unfold goes; rw [b2i_n0.mp h61]; simp)
              exact ih (x + 1) H locs ls (by omega) (by rw [hX]; exact hl) hw
            · refine lv_iconst (v := 1) S.1 S.2.1 d_M_isCovered_64 (by decide) ?_
              refine lv_goto (tgt := 69) S.1 S.2.1 d_M_isCovered_65 rfl ?_
              refine lv_istore S.1 S.2.1 d_M_isCovered_69 hl (by decide) rfl (fun ls hl => ?_)
              have hl : lv_has ls 6 [(5, .int 1), (4, .int (nI x)), (2, .long (gsum σ o x)), (1, .int (nI o)), (0, .ref (rx μ))] := hl
              refine lv_lload_n S.1 S.2.1 d_M_isCovered_71 rfl (lv_at hl 2 rfl) ?_
              refine lv_iload S.1 S.2.1 d_M_isCovered_72 (lv_at hl 0 rfl) ?_
              refine lv_if_eq (tgt := 88) S.1 S.2.1 d_M_isCovered_74 rfl (fun h => absurd h (show ¬ (1 : Int32) = 0 by decide)) (fun _ => ?_)
              refine lv_aload_n S.1 S.2.1 d_M_isCovered_77 rfl (lv_at hl 4 rfl) ?_
              refine m_get S hw cl_M hR.obj 9 (by decide) g697 (fun _ h => h) rfl d_M_isCovered_78 ?_
              refine lv_iload S.1 S.2.1 d_M_isCovered_81 (lv_at hl 1 rfl) ?_
              refine m_rld (o := x) S hw hR 3 (by decide) (by omega) d_M_isCovered_83 ?_
              refine lv_i2l S.1 S.2.1 d_M_isCovered_84 rfl ?_
              refine lv_goto (tgt := 89) S.1 S.2.1 d_M_isCovered_85 rfl ?_
              refine lv_ladd S.1 S.2.1 d_M_isCovered_89 ?_
              refine lv_lstore_n S.1 S.2.1 d_M_isCovered_90 rfl hl (by decide) rfl (fun ls hl => ?_)
              have hl : lv_has ls 6 [(2, .long ((gsum σ o x) + (((sI σ) 3 x).toInt64))), (5, .int 1), (4, .int (nI x)), (1, .int (nI o)), (0, .ref (rx μ))] := hl
              refine lv_iinc (k := 2) (v := nI (x + 1)) S.1 S.2.1 d_M_isCovered_91 hl rfl (nI_1 x) (by decide) rfl (fun ls hl => ?_)
              have hl : lv_has ls 6 [(4, .int (nI (x + 1))), (2, .long ((gsum σ o x) + (((sI σ) 3 x).toInt64))), (5, .int 1), (1, .int (nI o)), (0, .ref (rx μ))] := hl
              refine lv_goto (tgt := 5) S.1 S.2.1 d_M_isCovered_94 rfl ?_
              have hl := lv_sub hl [0, 1, 3, 4] rfl
              have hX := gsum_t (σ := σ) (o := o) (k := x) (by unfold goes; rw [b2i_n0.mp h20, decide_eq_true h36, b2i_n0.mp h51, b2i_0.mp h61]; rfl)
              exact ih (x + 1) H locs ls (by omega) (by rw [hX]; exact hl) hw
  have hl := lv_sub hl [0, 1, 3, 2] rfl
  exact loop _ 0 _ _ ls (Nat.zero_add _) hl hw
set_option maxHeartbeats 4000000 in
set_option maxRecDepth 100000 in
theorem c_M_meet (l : Launch) (γ : mG) (M : mMap) (μ : RK) (σ : St) (ε : RE) (hR : RM γ M μ σ ε) (L : Nat → List Nat) (hI : Inv0 σ) (hL : LN σ L) (hB : BD σ) (o : Nat) (ho : o < sn σ) (h5 : sI σ 5 o = -1) (hl0 : 0 ≤ (sI σ 3 o).toInt) (hl9 : (sI σ 3 o).toInt ≤ 100000) (hrk : (srk σ).toInt ≤ 500000000) (σ' : St) (hfin : xMeet 100000 σ o = σ') (hT : stn σ' ≤ 30000) : Met l y_M_meet w_M_meet ({ frames := 2, cells := 0, slots := 0, locals := 47 } : Room) (mPc γ M [.ref (rx μ), .int (nI o)]) (mQv γ (fun M' => RQ γ M M' μ (σ') (ε))) 0 0 (mA (gz γ)) := by
  refine m_enter (by decide) (Nat.le_of_ble_eq_true rfl) ?_
  intro p e s m below meth c ls S hr hlk hnm hl hw
  have hl : lv_has ls 5 [(0, .ref (rx μ)), (1, .int (nI o))] := hl
  have hR := hR.q
  refine lv_iconst (v := 1) S.1 S.2.1 d_M_meet_0 (by decide) ?_
  refine lv_istore_n S.1 S.2.1 d_M_meet_1 rfl hl (by decide) rfl (fun ls hl => ?_)
  have hl : lv_has ls 5 [(2, .int 1), (0, .ref (rx μ)), (1, .int (nI o))] := hl
  have loop : ∀ (k : Nat) (τ : St) (L : Nat → List Nat) (Mc : mMap) (H : Heap) (locs : List Loc) (ls : Array Slot), RQ γ M Mc μ τ ε → Inv0 τ → LN τ L → BD τ → o < sn τ → sI τ 5 o = -1 → 0 ≤ (sI τ 3 o).toInt → (sI τ 3 o).toInt ≤ k → (srk τ).toInt + k ≤ 1000000000 → xMeet k τ o = σ' → lv_has ls 5 [(2, .int 1), (1, .int (nI o)), (0, .ref (rx μ))] → mW γ Mc s H locs → W p l e ({ frames := 2, cells := 0, slots := 0, locals := 47 } : Room) s m #[.ref (rx μ), .int (nI o)] below meth c H locs 0 0 (MQ below (mQv γ (fun M' => RQ γ M M' μ (σ') (ε))) #[.ref (rx μ), .int (nI o)] s 0 0 (mA (gz γ))) (F0 m 2 ls []) := by
    intro k
    induction k with
    | zero =>
      intro τ L Mc H locs ls hR hI hL hB ho h5 hl0 hlk2 hrk hfin hl hw
      have hn := hI.1
      have h3 : ¬ 0 < sI τ 3 o := fun z => by have := Int32.lt_iff_toInt_lt.mp z; rw [i0] at this; omega
      have hE : τ = σ' := hfin
      refine lv_iload_n S.1 S.2.1 d_M_meet_2 rfl (lv_at hl 0 rfl) ?_
      refine lv_if_eq (tgt := 177) S.1 S.2.1 d_M_meet_3 rfl (fun h => absurd h (show ¬ (1 : Int32) = 0 by decide)) (fun _ => ?_)
      refine lv_aload_n S.1 S.2.1 d_M_meet_6 rfl (lv_at hl 2 rfl) ?_
      refine m_get S hw cl_M hR.obj 9 (by decide) g697 (fun _ h => h) rfl d_M_meet_7 ?_
      refine lv_iload_n S.1 S.2.1 d_M_meet_10 rfl (lv_at hl 1 rfl) ?_
      refine m_rld (o := o) S hw hR 3 (by decide) (by omega) d_M_meet_11 ?_
      refine lv_if_le (tgt := 177) S.1 S.2.1 d_M_meet_12 rfl (fun _ => ?_) (fun h => absurd (Int32.not_lt.mp h3) h)
      exact m_vret S hlk hr hw (hE ▸ hR) (Nat.le_refl _) (Nat.le_refl _) d_M_meet_177
    | succ k ih =>
      intro τ L Mc H locs ls hR hI hL hB ho h5 hl0 hlk2 hrk hfin hl hw
      have hn := hI.1
      by_cases h3 : 0 < sI τ 3 o
      · have hl1 : 1 ≤ (sI τ 3 o).toInt := by have := Int32.lt_iff_toInt_lt.mp h3; rw [i0] at this; omega
        cases hf : fst (sI τ) (opp (sI τ 1 o)) (sn τ) with
        | none =>
          have hE : τ = σ' := (xMeet_nil h3 hf).symm.trans hfin
          refine lv_iload_n S.1 S.2.1 d_M_meet_2 rfl (lv_at hl 0 rfl) ?_
          refine lv_if_eq (tgt := 177) S.1 S.2.1 d_M_meet_3 rfl (fun h => absurd h (show ¬ (1 : Int32) = 0 by decide)) (fun _ => ?_)
          refine lv_aload_n S.1 S.2.1 d_M_meet_6 rfl (lv_at hl 2 rfl) ?_
          refine m_get S hw cl_M hR.obj 9 (by decide) g697 (fun _ h => h) rfl d_M_meet_7 ?_
          refine lv_iload_n S.1 S.2.1 d_M_meet_10 rfl (lv_at hl 1 rfl) ?_
          refine m_rld (o := o) S hw hR 3 (by decide) (by omega) d_M_meet_11 ?_
          refine lv_if_le (tgt := 177) S.1 S.2.1 d_M_meet_12 rfl (fun h => absurd h (Int32.not_le.mpr h3)) (fun _ => ?_)
          refine lv_aload_n S.1 S.2.1 d_M_meet_15 rfl (lv_at hl 2 rfl) ?_
          refine lv_aload_n S.1 S.2.1 d_M_meet_16 rfl (lv_at hl 2 rfl) ?_
          refine m_get S hw cl_M hR.obj 7 (by decide) g695 (fun _ h => h) rfl d_M_meet_17 ?_
          refine lv_iload_n S.1 S.2.1 d_M_meet_20 rfl (lv_at hl 1 rfl) ?_
          refine m_rldz (o := o) S hw hR (by omega) d_M_meet_21 ?_
          refine lv_if_ne (tgt := 29) S.1 S.2.1 d_M_meet_22 rfl (fun h22 => ?_) (fun h22 => ?_)
          · refine lv_iconst (v := 0) S.1 S.2.1 d_M_meet_29 (by decide) ?_
            refine W.eq (g2 := F0 m 30 ls [.int (opp (sI τ 1 o)), .ref (rx μ)]) (congrArg (fun z => F0 m 30 ls [.int z, .ref (rx μ)]) (show (0 : Int32) = opp (sI τ 1 o) by unfold opp; rw [if_neg h22])) ?_
            refine m_ci hw (va_runV (As := [.int (opp (sI τ 1 o))]) (rest := []) S (c_M_firstOf l γ Mc μ τ ε hR.1 hI.1 (opp (sI τ 1 o))) (m_cwV 1 S g820 g822 g32 g48 g823 rfl rfl ⟨by decide +kernel, by decide +kernel, by decide +kernel⟩ ⟨(Nat.le_of_ble_eq_true rfl), (Nat.le_of_ble_eq_true rfl)⟩) (hw.preV hR.obj cl_M.1) rfl rfl hl.1 rfl (lv_room (Nat.le_of_ble_eq_true rfl)) d_M_meet_30 ⟨(Nat.zero_le _), (Nat.zero_le _)⟩) (fun r1 M1 H locs hp hw => ?_)
            obtain ⟨rfl, hM1⟩ := hp
            rw [hM1] at hw
            refine W.eq (g2 := F0 m 33 ls [.int (-1)]) (congrArg (fun z => F0 m 33 ls [.int z]) (congrArg fI hf)) ?_
            refine lv_istore_n S.1 S.2.1 d_M_meet_33 rfl hl (by decide) rfl (fun ls hl => ?_)
            have hl : lv_has ls 5 [(3, .int (-1)), (2, .int 1), (1, .int (nI o)), (0, .ref (rx μ))] := hl
            refine lv_iload_n S.1 S.2.1 d_M_meet_34 rfl (lv_at hl 0 rfl) ?_
            refine lv_if_lt (tgt := 56) S.1 S.2.1 d_M_meet_35 rfl (fun _ => ?_) (fun h => absurd (show (-1 : Int32) < 0 by decide) h)
            refine lv_iconst (v := 0) S.1 S.2.1 d_M_meet_56 (by decide) ?_
            refine lv_istore_n S.1 S.2.1 d_M_meet_57 rfl hl (by decide) rfl (fun ls hl => ?_)
            have hl : lv_has ls 5 [(2, .int 0), (3, .int (-1)), (1, .int (nI o)), (0, .ref (rx μ))] := hl
            refine lv_iload_n S.1 S.2.1 d_M_meet_58 rfl (lv_at hl 0 rfl) ?_
            refine lv_if_eq (tgt := 82) S.1 S.2.1 d_M_meet_59 rfl (fun _ => ?_) (fun h => absurd (show (0 : Int32) = 0 from rfl) h)
            refine lv_iload_n S.1 S.2.1 d_M_meet_82 rfl (lv_at hl 0 rfl) ?_
            refine lv_if_eq (tgt := 174) S.1 S.2.1 d_M_meet_83 rfl (fun _ => ?_) (fun h => absurd (show (0 : Int32) = 0 from rfl) h)
            refine lv_goto (tgt := 2) S.1 S.2.1 d_M_meet_174 rfl ?_
            refine lv_iload_n S.1 S.2.1 d_M_meet_2 rfl (lv_at hl 0 rfl) ?_
            refine lv_if_eq (tgt := 177) S.1 S.2.1 d_M_meet_3 rfl (fun _ => ?_) (fun h => absurd (show (0 : Int32) = 0 from rfl) h)
            exact m_vret S hlk hr hw (hE ▸ hR) (Nat.le_refl _) (Nat.le_refl _) d_M_meet_177
          · refine lv_iconst (v := 1) S.1 S.2.1 d_M_meet_25 (by decide) ?_
            refine lv_goto (tgt := 30) S.1 S.2.1 d_M_meet_26 rfl ?_
            refine W.eq (g2 := F0 m 30 ls [.int (opp (sI τ 1 o)), .ref (rx μ)]) (congrArg (fun z => F0 m 30 ls [.int z, .ref (rx μ)]) (show (1 : Int32) = opp (sI τ 1 o) by unfold opp; rw [if_pos h22])) ?_
            refine m_ci hw (va_runV (As := [.int (opp (sI τ 1 o))]) (rest := []) S (c_M_firstOf l γ Mc μ τ ε hR.1 hI.1 (opp (sI τ 1 o))) (m_cwV 1 S g820 g822 g32 g48 g823 rfl rfl ⟨by decide +kernel, by decide +kernel, by decide +kernel⟩ ⟨(Nat.le_of_ble_eq_true rfl), (Nat.le_of_ble_eq_true rfl)⟩) (hw.preV hR.obj cl_M.1) rfl rfl hl.1 rfl (lv_room (Nat.le_of_ble_eq_true rfl)) d_M_meet_30 ⟨(Nat.zero_le _), (Nat.zero_le _)⟩) (fun r1 M1 H locs hp hw => ?_)
            obtain ⟨rfl, hM1⟩ := hp
            rw [hM1] at hw
            refine W.eq (g2 := F0 m 33 ls [.int (-1)]) (congrArg (fun z => F0 m 33 ls [.int z]) (congrArg fI hf)) ?_
            refine lv_istore_n S.1 S.2.1 d_M_meet_33 rfl hl (by decide) rfl (fun ls hl => ?_)
            have hl : lv_has ls 5 [(3, .int (-1)), (2, .int 1), (1, .int (nI o)), (0, .ref (rx μ))] := hl
            refine lv_iload_n S.1 S.2.1 d_M_meet_34 rfl (lv_at hl 0 rfl) ?_
            refine lv_if_lt (tgt := 56) S.1 S.2.1 d_M_meet_35 rfl (fun _ => ?_) (fun h => absurd (show (-1 : Int32) < 0 by decide) h)
            refine lv_iconst (v := 0) S.1 S.2.1 d_M_meet_56 (by decide) ?_
            refine lv_istore_n S.1 S.2.1 d_M_meet_57 rfl hl (by decide) rfl (fun ls hl => ?_)
            have hl : lv_has ls 5 [(2, .int 0), (3, .int (-1)), (1, .int (nI o)), (0, .ref (rx μ))] := hl
            refine lv_iload_n S.1 S.2.1 d_M_meet_58 rfl (lv_at hl 0 rfl) ?_
            refine lv_if_eq (tgt := 82) S.1 S.2.1 d_M_meet_59 rfl (fun _ => ?_) (fun h => absurd (show (0 : Int32) = 0 from rfl) h)
            refine lv_iload_n S.1 S.2.1 d_M_meet_82 rfl (lv_at hl 0 rfl) ?_
            refine lv_if_eq (tgt := 174) S.1 S.2.1 d_M_meet_83 rfl (fun _ => ?_) (fun h => absurd (show (0 : Int32) = 0 from rfl) h)
            refine lv_goto (tgt := 2) S.1 S.2.1 d_M_meet_174 rfl ?_
            refine lv_iload_n S.1 S.2.1 d_M_meet_2 rfl (lv_at hl 0 rfl) ?_
            refine lv_if_eq (tgt := 177) S.1 S.2.1 d_M_meet_3 rfl (fun _ => ?_) (fun h => absurd (show (0 : Int32) = 0 from rfl) h)
            exact m_vret S hlk hr hw (hE ▸ hR) (Nat.le_refl _) (Nat.le_refl _) d_M_meet_177
        | some r0 =>
          obtain ⟨hor, hr0, hs0, L1, hI1, hL1⟩ := hit_all hI hL ho h5 hl1 hf (by omega)
          have hp0 := (hI.2.1.1 r0 hr0)
          by_cases ht : tk (sI τ) o (sI τ 2 r0) = true
          · by_cases hb : byc (srf τ) (sbd τ) (sI τ 2 r0) = true
            · have hE : oPh τ 2 = σ' := (xMeet_by h3 hf ht hb).symm.trans hfin
              refine lv_iload_n S.1 S.2.1 d_M_meet_2 rfl (lv_at hl 0 rfl) ?_
              refine lv_if_eq (tgt := 177) S.1 S.2.1 d_M_meet_3 rfl (fun h => absurd h (show ¬ (1 : Int32) = 0 by decide)) (fun _ => ?_)
              refine lv_aload_n S.1 S.2.1 d_M_meet_6 rfl (lv_at hl 2 rfl) ?_
              refine m_get S hw cl_M hR.obj 9 (by decide) g697 (fun _ h => h) rfl d_M_meet_7 ?_
              refine lv_iload_n S.1 S.2.1 d_M_meet_10 rfl (lv_at hl 1 rfl) ?_
              refine m_rld (o := o) S hw hR 3 (by decide) (by omega) d_M_meet_11 ?_
              refine lv_if_le (tgt := 177) S.1 S.2.1 d_M_meet_12 rfl (fun h => absurd h (Int32.not_le.mpr h3)) (fun _ => ?_)
              refine lv_aload_n S.1 S.2.1 d_M_meet_15 rfl (lv_at hl 2 rfl) ?_
              refine lv_aload_n S.1 S.2.1 d_M_meet_16 rfl (lv_at hl 2 rfl) ?_
              refine m_get S hw cl_M hR.obj 7 (by decide) g695 (fun _ h => h) rfl d_M_meet_17 ?_
              refine lv_iload_n S.1 S.2.1 d_M_meet_20 rfl (lv_at hl 1 rfl) ?_
              refine m_rldz (o := o) S hw hR (by omega) d_M_meet_21 ?_
              refine lv_if_ne (tgt := 29) S.1 S.2.1 d_M_meet_22 rfl (fun h22 => ?_) (fun h22 => ?_)
              · refine lv_iconst (v := 0) S.1 S.2.1 d_M_meet_29 (by decide) ?_
                refine W.eq (g2 := F0 m 30 ls [.int (opp (sI τ 1 o)), .ref (rx μ)]) (congrArg (fun z => F0 m 30 ls [.int z, .ref (rx μ)]) (show (0 : Int32) = opp (sI τ 1 o) by unfold opp; rw [if_neg h22])) ?_
                refine m_ci hw (va_runV (As := [.int (opp (sI τ 1 o))]) (rest := []) S (c_M_firstOf l γ Mc μ τ ε hR.1 hI.1 (opp (sI τ 1 o))) (m_cwV 1 S g820 g822 g32 g48 g823 rfl rfl ⟨by decide +kernel, by decide +kernel, by decide +kernel⟩ ⟨(Nat.le_of_ble_eq_true rfl), (Nat.le_of_ble_eq_true rfl)⟩) (hw.preV hR.obj cl_M.1) rfl rfl hl.1 rfl (lv_room (Nat.le_of_ble_eq_true rfl)) d_M_meet_30 ⟨(Nat.zero_le _), (Nat.zero_le _)⟩) (fun r1 M1 H locs hp hw => ?_)
                obtain ⟨rfl, hM1⟩ := hp
                rw [hM1] at hw
                refine W.eq (g2 := F0 m 33 ls [.int (nI r0)]) (congrArg (fun z => F0 m 33 ls [.int z]) (congrArg fI hf)) ?_
                refine lv_istore_n S.1 S.2.1 d_M_meet_33 rfl hl (by decide) rfl (fun ls hl => ?_)
                have hl : lv_has ls 5 [(3, .int (nI r0)), (2, .int 1), (1, .int (nI o)), (0, .ref (rx μ))] := hl
                refine lv_iload_n S.1 S.2.1 d_M_meet_34 rfl (lv_at hl 0 rfl) ?_
                refine lv_if_lt (tgt := 56) S.1 S.2.1 d_M_meet_35 rfl (fun h => absurd h (nI_pos (by omega))) (fun _ => ?_)
                refine lv_aload_n S.1 S.2.1 d_M_meet_38 rfl (lv_at hl 3 rfl) ?_
                refine lv_iload_n S.1 S.2.1 d_M_meet_39 rfl (lv_at hl 2 rfl) ?_
                refine lv_aload_n S.1 S.2.1 d_M_meet_40 rfl (lv_at hl 3 rfl) ?_
                refine m_get S hw cl_M hR.obj 8 (by decide) g696 (fun _ h => h) rfl d_M_meet_41 ?_
                refine lv_iload_n S.1 S.2.1 d_M_meet_44 rfl (lv_at hl 0 rfl) ?_
                refine m_rld (o := r0) S hw hR 2 (by decide) (by omega) d_M_meet_45 ?_
                refine m_ci hw (va_runV (As := [.int (nI o), .int ((sI τ) 2 r0)]) (rest := []) S (c_M_takes l γ Mc μ τ ε hR.1 hI.1 o ho (sI τ 2 r0)) (m_cwV 2 S g797 g799 g27 g48 g800 rfl rfl ⟨by decide +kernel, by decide +kernel, by decide +kernel⟩ ⟨(Nat.le_of_ble_eq_true rfl), (Nat.le_of_ble_eq_true rfl)⟩) (hw.preV hR.obj cl_M.1) rfl rfl hl.1 rfl (lv_room (Nat.le_of_ble_eq_true rfl)) d_M_meet_46 ⟨(Nat.zero_le _), (Nat.zero_le _)⟩) (fun r1 M1 H locs hp hw => ?_)
                obtain ⟨rfl, hM1⟩ := hp
                rw [hM1] at hw
                refine lv_if_eq (tgt := 56) S.1 S.2.1 d_M_meet_49 rfl (fun h => absurd h (b2i_n0.mpr ht)) (fun _ => ?_)
                refine lv_iconst (v := 1) S.1 S.2.1 d_M_meet_52 (by decide) ?_
                refine lv_goto (tgt := 57) S.1 S.2.1 d_M_meet_53 rfl ?_
                refine lv_istore_n S.1 S.2.1 d_M_meet_57 rfl hl (by decide) rfl (fun ls hl => ?_)
                have hl : lv_has ls 5 [(2, .int 1), (3, .int (nI r0)), (1, .int (nI o)), (0, .ref (rx μ))] := hl
                refine lv_iload_n S.1 S.2.1 d_M_meet_58 rfl (lv_at hl 0 rfl) ?_
                refine lv_if_eq (tgt := 82) S.1 S.2.1 d_M_meet_59 rfl (fun h => absurd h (show ¬ (1 : Int32) = 0 by decide)) (fun _ => ?_)
                refine lv_aload_n S.1 S.2.1 d_M_meet_62 rfl (lv_at hl 3 rfl) ?_
                refine lv_aload_n S.1 S.2.1 d_M_meet_63 rfl (lv_at hl 3 rfl) ?_
                refine m_get S hw cl_M hR.obj 8 (by decide) g696 (fun _ h => h) rfl d_M_meet_64 ?_
                refine lv_iload_n S.1 S.2.1 d_M_meet_67 rfl (lv_at hl 1 rfl) ?_
                refine m_rld (o := r0) S hw hR 2 (by decide) (by omega) d_M_meet_68 ?_
                refine m_ci hw (va_runV (As := [.int ((sI τ) 2 r0)]) (rest := []) S (c_M_isBeyond l γ Mc μ τ ε hR.1 hB (sI τ 2 r0) ⟨hp0.1, hp0.2.1⟩) (m_cwV 1 S g805 g807 g29 g48 g808 rfl rfl ⟨by decide +kernel, by decide +kernel, by decide +kernel⟩ ⟨(Nat.le_of_ble_eq_true rfl), (Nat.le_of_ble_eq_true rfl)⟩) (hw.preV hR.obj cl_M.1) rfl rfl hl.1 rfl (lv_room (Nat.le_of_ble_eq_true rfl)) d_M_meet_69 ⟨(Nat.zero_le _), (Nat.zero_le _)⟩) (fun r1 M1 H locs hp hw => ?_)
                obtain ⟨rfl, hM1⟩ := hp
                rw [hM1] at hw
                refine lv_if_eq (tgt := 82) S.1 S.2.1 d_M_meet_72 rfl (fun h => absurd h (b2i_n0.mpr hb)) (fun _ => ?_)
                refine lv_aload_n S.1 S.2.1 d_M_meet_75 rfl (lv_at hl 3 rfl) ?_
                refine lv_iconst (v := 2) S.1 S.2.1 d_M_meet_76 (by decide) ?_
                refine m_rput (σ' := ((sn τ, sI τ), (2, srf τ, sbd τ, srk τ), stn τ, sT τ, sal τ)) (ε' := ε) S hw hR 1 (by decide) g689 rfl rfl rfl d_M_meet_77 rfl (fun i hi => rfl) (fun H locs M1 hR hw => ?_)
                refine lv_iconst (v := 0) S.1 S.2.1 d_M_meet_80 (by decide) ?_
                refine lv_istore_n S.1 S.2.1 d_M_meet_81 rfl hl (by decide) rfl (fun ls hl => ?_)
                have hl : lv_has ls 5 [(2, .int 0), (3, .int (nI r0)), (1, .int (nI o)), (0, .ref (rx μ))] := hl
                refine lv_iload_n S.1 S.2.1 d_M_meet_82 rfl (lv_at hl 0 rfl) ?_
                refine lv_if_eq (tgt := 174) S.1 S.2.1 d_M_meet_83 rfl (fun _ => ?_) (fun h => absurd (show (0 : Int32) = 0 from rfl) h)
                refine lv_goto (tgt := 2) S.1 S.2.1 d_M_meet_174 rfl ?_
                refine lv_iload_n S.1 S.2.1 d_M_meet_2 rfl (lv_at hl 0 rfl) ?_
                refine lv_if_eq (tgt := 177) S.1 S.2.1 d_M_meet_3 rfl (fun _ => ?_) (fun h => absurd (show (0 : Int32) = 0 from rfl) h)
                exact m_vret S hlk hr hw (hE ▸ hR) (Nat.le_refl _) (Nat.le_refl _) d_M_meet_177
              · refine lv_iconst (v := 1) S.1 S.2.1 d_M_meet_25 (by decide) ?_
                refine lv_goto (tgt := 30) S.1 S.2.1 d_M_meet_26 rfl ?_
                refine W.eq (g2 := F0 m 30 ls [.int (opp (sI τ 1 o)), .ref (rx μ)]) (congrArg (fun z => F0 m 30 ls [.int z, .ref (rx μ)]) (show (1 : Int32) = opp (sI τ 1 o) by unfold opp; rw [if_pos h22])) ?_
                refine m_ci hw (va_runV (As := [.int (opp (sI τ 1 o))]) (rest := []) S (c_M_firstOf l γ Mc μ τ ε hR.1 hI.1 (opp (sI τ 1 o))) (m_cwV 1 S g820 g822 g32 g48 g823 rfl rfl ⟨by decide +kernel, by decide +kernel, by decide +kernel⟩ ⟨(Nat.le_of_ble_eq_true rfl), (Nat.le_of_ble_eq_true rfl)⟩) (hw.preV hR.obj cl_M.1) rfl rfl hl.1 rfl (lv_room (Nat.le_of_ble_eq_true rfl)) d_M_meet_30 ⟨(Nat.zero_le _), (Nat.zero_le _)⟩) (fun r1 M1 H locs hp hw => ?_)
                obtain ⟨rfl, hM1⟩ := hp
                rw [hM1] at hw
                refine W.eq (g2 := F0 m 33 ls [.int (nI r0)]) (congrArg (fun z => F0 m 33 ls [.int z]) (congrArg fI hf)) ?_
                refine lv_istore_n S.1 S.2.1 d_M_meet_33 rfl hl (by decide) rfl (fun ls hl => ?_)
                have hl : lv_has ls 5 [(3, .int (nI r0)), (2, .int 1), (1, .int (nI o)), (0, .ref (rx μ))] := hl
                refine lv_iload_n S.1 S.2.1 d_M_meet_34 rfl (lv_at hl 0 rfl) ?_
                refine lv_if_lt (tgt := 56) S.1 S.2.1 d_M_meet_35 rfl (fun h => absurd h (nI_pos (by omega))) (fun _ => ?_)
                refine lv_aload_n S.1 S.2.1 d_M_meet_38 rfl (lv_at hl 3 rfl) ?_
                refine lv_iload_n S.1 S.2.1 d_M_meet_39 rfl (lv_at hl 2 rfl) ?_
                refine lv_aload_n S.1 S.2.1 d_M_meet_40 rfl (lv_at hl 3 rfl) ?_
                refine m_get S hw cl_M hR.obj 8 (by decide) g696 (fun _ h => h) rfl d_M_meet_41 ?_
                refine lv_iload_n S.1 S.2.1 d_M_meet_44 rfl (lv_at hl 0 rfl) ?_
                refine m_rld (o := r0) S hw hR 2 (by decide) (by omega) d_M_meet_45 ?_
                refine m_ci hw (va_runV (As := [.int (nI o), .int ((sI τ) 2 r0)]) (rest := []) S (c_M_takes l γ Mc μ τ ε hR.1 hI.1 o ho (sI τ 2 r0)) (m_cwV 2 S g797 g799 g27 g48 g800 rfl rfl ⟨by decide +kernel, by decide +kernel, by decide +kernel⟩ ⟨(Nat.le_of_ble_eq_true rfl), (Nat.le_of_ble_eq_true rfl)⟩) (hw.preV hR.obj cl_M.1) rfl rfl hl.1 rfl (lv_room (Nat.le_of_ble_eq_true rfl)) d_M_meet_46 ⟨(Nat.zero_le _), (Nat.zero_le _)⟩) (fun r1 M1 H locs hp hw => ?_)
                obtain ⟨rfl, hM1⟩ := hp
                rw [hM1] at hw
                refine lv_if_eq (tgt := 56) S.1 S.2.1 d_M_meet_49 rfl (fun h => absurd h (b2i_n0.mpr ht)) (fun _ => ?_)
                refine lv_iconst (v := 1) S.1 S.2.1 d_M_meet_52 (by decide) ?_
                refine lv_goto (tgt := 57) S.1 S.2.1 d_M_meet_53 rfl ?_
                refine lv_istore_n S.1 S.2.1 d_M_meet_57 rfl hl (by decide) rfl (fun ls hl => ?_)
                have hl : lv_has ls 5 [(2, .int 1), (3, .int (nI r0)), (1, .int (nI o)), (0, .ref (rx μ))] := hl
                refine lv_iload_n S.1 S.2.1 d_M_meet_58 rfl (lv_at hl 0 rfl) ?_
                refine lv_if_eq (tgt := 82) S.1 S.2.1 d_M_meet_59 rfl (fun h => absurd h (show ¬ (1 : Int32) = 0 by decide)) (fun _ => ?_)
                refine lv_aload_n S.1 S.2.1 d_M_meet_62 rfl (lv_at hl 3 rfl) ?_
                refine lv_aload_n S.1 S.2.1 d_M_meet_63 rfl (lv_at hl 3 rfl) ?_
                refine m_get S hw cl_M hR.obj 8 (by decide) g696 (fun _ h => h) rfl d_M_meet_64 ?_
                refine lv_iload_n S.1 S.2.1 d_M_meet_67 rfl (lv_at hl 1 rfl) ?_
                refine m_rld (o := r0) S hw hR 2 (by decide) (by omega) d_M_meet_68 ?_
                refine m_ci hw (va_runV (As := [.int ((sI τ) 2 r0)]) (rest := []) S (c_M_isBeyond l γ Mc μ τ ε hR.1 hB (sI τ 2 r0) ⟨hp0.1, hp0.2.1⟩) (m_cwV 1 S g805 g807 g29 g48 g808 rfl rfl ⟨by decide +kernel, by decide +kernel, by decide +kernel⟩ ⟨(Nat.le_of_ble_eq_true rfl), (Nat.le_of_ble_eq_true rfl)⟩) (hw.preV hR.obj cl_M.1) rfl rfl hl.1 rfl (lv_room (Nat.le_of_ble_eq_true rfl)) d_M_meet_69 ⟨(Nat.zero_le _), (Nat.zero_le _)⟩) (fun r1 M1 H locs hp hw => ?_)
                obtain ⟨rfl, hM1⟩ := hp
                rw [hM1] at hw
                refine lv_if_eq (tgt := 82) S.1 S.2.1 d_M_meet_72 rfl (fun h => absurd h (b2i_n0.mpr hb)) (fun _ => ?_)
                refine lv_aload_n S.1 S.2.1 d_M_meet_75 rfl (lv_at hl 3 rfl) ?_
                refine lv_iconst (v := 2) S.1 S.2.1 d_M_meet_76 (by decide) ?_
                refine m_rput (σ' := ((sn τ, sI τ), (2, srf τ, sbd τ, srk τ), stn τ, sT τ, sal τ)) (ε' := ε) S hw hR 1 (by decide) g689 rfl rfl rfl d_M_meet_77 rfl (fun i hi => rfl) (fun H locs M2 hR hw => ?_)
                refine lv_iconst (v := 0) S.1 S.2.1 d_M_meet_80 (by decide) ?_
                refine lv_istore_n S.1 S.2.1 d_M_meet_81 rfl hl (by decide) rfl (fun ls hl => ?_)
                have hl : lv_has ls 5 [(2, .int 0), (3, .int (nI r0)), (1, .int (nI o)), (0, .ref (rx μ))] := hl
                refine lv_iload_n S.1 S.2.1 d_M_meet_82 rfl (lv_at hl 0 rfl) ?_
                refine lv_if_eq (tgt := 174) S.1 S.2.1 d_M_meet_83 rfl (fun _ => ?_) (fun h => absurd (show (0 : Int32) = 0 from rfl) h)
                refine lv_goto (tgt := 2) S.1 S.2.1 d_M_meet_174 rfl ?_
                refine lv_iload_n S.1 S.2.1 d_M_meet_2 rfl (lv_at hl 0 rfl) ?_
                refine lv_if_eq (tgt := 177) S.1 S.2.1 d_M_meet_3 rfl (fun _ => ?_) (fun h => absurd (show (0 : Int32) = 0 from rfl) h)
                exact m_vret S hlk hr hw (hE ▸ hR) (Nat.le_refl _) (Nat.le_refl _) d_M_meet_177
            · have hE : xMeet k (xHit τ o r0) o = σ' := (xMeet_go h3 hf ht (by simpa using hb)).symm.trans hfin
              have hTn : stn τ < 30000 := by have h1 := meet_tn (o := o) (k := k) (σ := xHit τ o r0); rw [hE, hit_tn] at h1; omega
              refine lv_iload_n S.1 S.2.1 d_M_meet_2 rfl (lv_at hl 0 rfl) ?_
              refine lv_if_eq (tgt := 177) S.1 S.2.1 d_M_meet_3 rfl (fun h => absurd h (show ¬ (1 : Int32) = 0 by decide)) (fun _ => ?_)
              refine lv_aload_n S.1 S.2.1 d_M_meet_6 rfl (lv_at hl 2 rfl) ?_
              refine m_get S hw cl_M hR.obj 9 (by decide) g697 (fun _ h => h) rfl d_M_meet_7 ?_
              refine lv_iload_n S.1 S.2.1 d_M_meet_10 rfl (lv_at hl 1 rfl) ?_
              refine m_rld (o := o) S hw hR 3 (by decide) (by omega) d_M_meet_11 ?_
              refine lv_if_le (tgt := 177) S.1 S.2.1 d_M_meet_12 rfl (fun h => absurd h (Int32.not_le.mpr h3)) (fun _ => ?_)
              refine lv_aload_n S.1 S.2.1 d_M_meet_15 rfl (lv_at hl 2 rfl) ?_
              refine lv_aload_n S.1 S.2.1 d_M_meet_16 rfl (lv_at hl 2 rfl) ?_
              refine m_get S hw cl_M hR.obj 7 (by decide) g695 (fun _ h => h) rfl d_M_meet_17 ?_
              refine lv_iload_n S.1 S.2.1 d_M_meet_20 rfl (lv_at hl 1 rfl) ?_
              refine m_rldz (o := o) S hw hR (by omega) d_M_meet_21 ?_
              refine lv_if_ne (tgt := 29) S.1 S.2.1 d_M_meet_22 rfl (fun h22 => ?_) (fun h22 => ?_)
              · refine lv_iconst (v := 0) S.1 S.2.1 d_M_meet_29 (by decide) ?_
                refine W.eq (g2 := F0 m 30 ls [.int (opp (sI τ 1 o)), .ref (rx μ)]) (congrArg (fun z => F0 m 30 ls [.int z, .ref (rx μ)]) (show (0 : Int32) = opp (sI τ 1 o) by unfold opp; rw [if_neg h22])) ?_
                refine m_ci hw (va_runV (As := [.int (opp (sI τ 1 o))]) (rest := []) S (c_M_firstOf l γ Mc μ τ ε hR.1 hI.1 (opp (sI τ 1 o))) (m_cwV 1 S g820 g822 g32 g48 g823 rfl rfl ⟨by decide +kernel, by decide +kernel, by decide +kernel⟩ ⟨(Nat.le_of_ble_eq_true rfl), (Nat.le_of_ble_eq_true rfl)⟩) (hw.preV hR.obj cl_M.1) rfl rfl hl.1 rfl (lv_room (Nat.le_of_ble_eq_true rfl)) d_M_meet_30 ⟨(Nat.zero_le _), (Nat.zero_le _)⟩) (fun r1 M1 H locs hp hw => ?_)
                obtain ⟨rfl, hM1⟩ := hp
                rw [hM1] at hw
                refine W.eq (g2 := F0 m 33 ls [.int (nI r0)]) (congrArg (fun z => F0 m 33 ls [.int z]) (congrArg fI hf)) ?_
                refine lv_istore_n S.1 S.2.1 d_M_meet_33 rfl hl (by decide) rfl (fun ls hl => ?_)
                have hl : lv_has ls 5 [(3, .int (nI r0)), (2, .int 1), (1, .int (nI o)), (0, .ref (rx μ))] := hl
                refine lv_iload_n S.1 S.2.1 d_M_meet_34 rfl (lv_at hl 0 rfl) ?_
                refine lv_if_lt (tgt := 56) S.1 S.2.1 d_M_meet_35 rfl (fun h => absurd h (nI_pos (by omega))) (fun _ => ?_)
                refine lv_aload_n S.1 S.2.1 d_M_meet_38 rfl (lv_at hl 3 rfl) ?_
                refine lv_iload_n S.1 S.2.1 d_M_meet_39 rfl (lv_at hl 2 rfl) ?_
                refine lv_aload_n S.1 S.2.1 d_M_meet_40 rfl (lv_at hl 3 rfl) ?_
                refine m_get S hw cl_M hR.obj 8 (by decide) g696 (fun _ h => h) rfl d_M_meet_41 ?_
                refine lv_iload_n S.1 S.2.1 d_M_meet_44 rfl (lv_at hl 0 rfl) ?_
                refine m_rld (o := r0) S hw hR 2 (by decide) (by omega) d_M_meet_45 ?_
                refine m_ci hw (va_runV (As := [.int (nI o), .int ((sI τ) 2 r0)]) (rest := []) S (c_M_takes l γ Mc μ τ ε hR.1 hI.1 o ho (sI τ 2 r0)) (m_cwV 2 S g797 g799 g27 g48 g800 rfl rfl ⟨by decide +kernel, by decide +kernel, by decide +kernel⟩ ⟨(Nat.le_of_ble_eq_true rfl), (Nat.le_of_ble_eq_true rfl)⟩) (hw.preV hR.obj cl_M.1) rfl rfl hl.1 rfl (lv_room (Nat.le_of_ble_eq_true rfl)) d_M_meet_46 ⟨(Nat.zero_le _), (Nat.zero_le _)⟩) (fun r1 M1 H locs hp hw => ?_)
                obtain ⟨rfl, hM1⟩ := hp
                rw [hM1] at hw
                refine lv_if_eq (tgt := 56) S.1 S.2.1 d_M_meet_49 rfl (fun h => absurd h (b2i_n0.mpr ht)) (fun _ => ?_)
                refine lv_iconst (v := 1) S.1 S.2.1 d_M_meet_52 (by decide) ?_
                refine lv_goto (tgt := 57) S.1 S.2.1 d_M_meet_53 rfl ?_
                refine lv_istore_n S.1 S.2.1 d_M_meet_57 rfl hl (by decide) rfl (fun ls hl => ?_)
                have hl : lv_has ls 5 [(2, .int 1), (3, .int (nI r0)), (1, .int (nI o)), (0, .ref (rx μ))] := hl
                refine lv_iload_n S.1 S.2.1 d_M_meet_58 rfl (lv_at hl 0 rfl) ?_
                refine lv_if_eq (tgt := 82) S.1 S.2.1 d_M_meet_59 rfl (fun h => absurd h (show ¬ (1 : Int32) = 0 by decide)) (fun _ => ?_)
                refine lv_aload_n S.1 S.2.1 d_M_meet_62 rfl (lv_at hl 3 rfl) ?_
                refine lv_aload_n S.1 S.2.1 d_M_meet_63 rfl (lv_at hl 3 rfl) ?_
                refine m_get S hw cl_M hR.obj 8 (by decide) g696 (fun _ h => h) rfl d_M_meet_64 ?_
                refine lv_iload_n S.1 S.2.1 d_M_meet_67 rfl (lv_at hl 1 rfl) ?_
                refine m_rld (o := r0) S hw hR 2 (by decide) (by omega) d_M_meet_68 ?_
                refine m_ci hw (va_runV (As := [.int ((sI τ) 2 r0)]) (rest := []) S (c_M_isBeyond l γ Mc μ τ ε hR.1 hB (sI τ 2 r0) ⟨hp0.1, hp0.2.1⟩) (m_cwV 1 S g805 g807 g29 g48 g808 rfl rfl ⟨by decide +kernel, by decide +kernel, by decide +kernel⟩ ⟨(Nat.le_of_ble_eq_true rfl), (Nat.le_of_ble_eq_true rfl)⟩) (hw.preV hR.obj cl_M.1) rfl rfl hl.1 rfl (lv_room (Nat.le_of_ble_eq_true rfl)) d_M_meet_69 ⟨(Nat.zero_le _), (Nat.zero_le _)⟩) (fun r1 M1 H locs hp hw => ?_)
                obtain ⟨rfl, hM1⟩ := hp
                rw [hM1] at hw
                refine lv_if_eq (tgt := 82) S.1 S.2.1 d_M_meet_72 rfl (fun _ => ?_) (fun h => absurd (b2i_0.mpr (by simpa using hb)) h)
                refine lv_iload_n S.1 S.2.1 d_M_meet_82 rfl (lv_at hl 0 rfl) ?_
                refine lv_if_eq (tgt := 174) S.1 S.2.1 d_M_meet_83 rfl (fun h => absurd h (show ¬ (1 : Int32) = 0 by decide)) (fun _ => ?_)
                refine lv_aload_n S.1 S.2.1 d_M_meet_86 rfl (lv_at hl 3 rfl) ?_
                refine m_get S hw cl_M hR.obj 9 (by decide) g697 (fun _ h => h) rfl d_M_meet_87 ?_
                refine lv_iload_n S.1 S.2.1 d_M_meet_90 rfl (lv_at hl 2 rfl) ?_
                refine m_rld (o := o) S hw hR 3 (by decide) (by omega) d_M_meet_91 ?_
                refine lv_aload_n S.1 S.2.1 d_M_meet_92 rfl (lv_at hl 3 rfl) ?_
                refine m_get S hw cl_M hR.obj 10 (by decide) g698 (fun _ h => h) rfl d_M_meet_93 ?_
                refine lv_iload_n S.1 S.2.1 d_M_meet_96 rfl (lv_at hl 1 rfl) ?_
                refine m_rld (o := r0) S hw hR 4 (by decide) (by omega) d_M_meet_97 ?_
                refine lv_icmp_ge (tgt := 110) S.1 S.2.1 d_M_meet_98 rfl (fun h98 => ?_) (fun h98 => ?_)
                · refine lv_aload_n S.1 S.2.1 d_M_meet_110 rfl (lv_at hl 3 rfl) ?_
                  refine m_get S hw cl_M hR.obj 10 (by decide) g698 (fun _ h => h) rfl d_M_meet_111 ?_
                  refine lv_iload_n S.1 S.2.1 d_M_meet_114 rfl (lv_at hl 1 rfl) ?_
                  refine m_rld (o := r0) S hw hR 4 (by decide) (by omega) d_M_meet_115 ?_
                  refine W.eq (g2 := F0 m 116 ls [.int (hQ τ o r0)]) (congrArg (fun z => F0 m 116 ls [.int z]) (hQ_ge h98)) ?_
                  refine lv_istore S.1 S.2.1 d_M_meet_116 hl (by decide) rfl (fun ls hl => ?_)
                  have hl : lv_has ls 5 [(4, .int (hQ τ o r0)), (2, .int 1), (3, .int (nI r0)), (1, .int (nI o)), (0, .ref (rx μ))] := hl
                  refine lv_aload_n S.1 S.2.1 d_M_meet_118 rfl (lv_at hl 4 rfl) ?_
                  refine lv_iload_n S.1 S.2.1 d_M_meet_119 rfl (lv_at hl 3 rfl) ?_
                  refine lv_iload_n S.1 S.2.1 d_M_meet_120 rfl (lv_at hl 2 rfl) ?_
                  refine lv_aload_n S.1 S.2.1 d_M_meet_121 rfl (lv_at hl 4 rfl) ?_
                  refine m_get S hw cl_M hR.obj 8 (by decide) g696 (fun _ h => h) rfl d_M_meet_122 ?_
                  refine lv_iload_n S.1 S.2.1 d_M_meet_125 rfl (lv_at hl 2 rfl) ?_
                  refine m_rld (o := r0) S hw hR 2 (by decide) (by omega) d_M_meet_126 ?_
                  refine lv_iload S.1 S.2.1 d_M_meet_127 (lv_at hl 0 rfl) ?_
                  refine m_cv hw (va_runV (As := [.int (nI o), .int (nI r0), .int ((sI τ) 2 r0), .int (hQ τ o r0)]) (rest := []) S (c_M_deal l γ Mc μ τ ε hR.1 hI.1 o r0 ho hr0 (sI τ 2 r0) (hQ τ o r0) hTn) (m_cwV 4 S g824 g826 g33 g48 g827 rfl rfl ⟨by decide +kernel, by decide +kernel, by decide +kernel⟩ ⟨(Nat.le_of_ble_eq_true rfl), (Nat.le_of_ble_eq_true rfl)⟩) (hw.preV hR.obj cl_M.1) rfl rfl hl.1 rfl (lv_room (Nat.le_of_ble_eq_true rfl)) d_M_meet_129 ⟨(Nat.zero_le _), (Nat.zero_le _)⟩) (fun M3 H locs hp hw => ?_)
                  have hR := hp.tr hR
                  refine lv_aload_n S.1 S.2.1 d_M_meet_132 rfl (lv_at hl 4 rfl) ?_
                  refine m_get S hw cl_M hR.obj 10 (by decide) g698 (fun _ h => h) rfl d_M_meet_133 ?_
                  refine lv_iload_n S.1 S.2.1 d_M_meet_136 rfl (lv_at hl 2 rfl) ?_
                  refine lv_dup2_11 S.1 S.2.1 d_M_meet_137 rfl rfl ?_
                  refine m_rld (o := r0) S hw hR 4 (by decide) (by omega) d_M_meet_138 ?_
                  refine lv_iload S.1 S.2.1 d_M_meet_139 (lv_at hl 0 rfl) ?_
                  refine lv_isub S.1 S.2.1 d_M_meet_141 ?_
                  refine m_rst (o := r0) (v := ((sI (xDeal τ o r0 (sI τ 2 r0) (hQ τ o r0))) 4 r0) - (hQ τ o r0)) S hw hR 4 (by decide) (by omega) d_M_meet_142 (fun H locs M4 hR hw => ?_)
                  have hR : RQ γ _ M4 μ ((sn (xDeal τ o r0 (sI τ 2 r0) (hQ τ o r0)), s1 (sI (xDeal τ o r0 (sI τ 2 r0) (hQ τ o r0))) 4 r0 (((sI (xDeal τ o r0 (sI τ 2 r0) (hQ τ o r0))) 4 r0) - (hQ τ o r0))), (sph (xDeal τ o r0 (sI τ 2 r0) (hQ τ o r0)), srf (xDeal τ o r0 (sI τ 2 r0) (hQ τ o r0)), sbd (xDeal τ o r0 (sI τ 2 r0) (hQ τ o r0)), srk (xDeal τ o r0 (sI τ 2 r0) (hQ τ o r0))), stn (xDeal τ o r0 (sI τ 2 r0) (hQ τ o r0)), sT (xDeal τ o r0 (sI τ 2 r0) (hQ τ o r0)), sal (xDeal τ o r0 (sI τ 2 r0) (hQ τ o r0))) ε := hR
                  have hR : RQ γ _ M4 μ (xHit0 τ o r0) ε := hit0_eq (σ := τ) (o := o) (r := r0) ▸ hR
                  refine lv_aload_n S.1 S.2.1 d_M_meet_143 rfl (lv_at hl 4 rfl) ?_
                  refine m_get S hw cl_M hR.obj 9 (by decide) g697 (fun _ h => h) rfl d_M_meet_144 ?_
                  refine lv_iload_n S.1 S.2.1 d_M_meet_147 rfl (lv_at hl 2 rfl) ?_
                  refine m_rld (o := r0) S hw hR 3 (by decide) (by omega) d_M_meet_148 ?_
                  refine lv_if_ne (tgt := 160) S.1 S.2.1 d_M_meet_149 rfl (fun h149 => ?_) (fun h149 => ?_)
                  · refine lv_aload_n S.1 S.2.1 d_M_meet_160 rfl (lv_at hl 4 rfl) ?_
                    refine m_get S hw cl_M hR.obj 10 (by decide) g698 (fun _ h => h) rfl d_M_meet_161 ?_
                    refine lv_iload_n S.1 S.2.1 d_M_meet_164 rfl (lv_at hl 2 rfl) ?_
                    refine m_rld (o := r0) S hw hR 4 (by decide) (by omega) d_M_meet_165 ?_
                    refine lv_if_ne (tgt := 174) S.1 S.2.1 d_M_meet_166 rfl (fun h166 => ?_) (fun h166 => ?_)
                    · refine lv_goto (tgt := 2) S.1 S.2.1 d_M_meet_174 rfl ?_
                      have hl := lv_sub hl [1, 3, 4] rfl
                      have hXe : xHit τ o r0 = xHit0 τ o r0 := (by unfold xHit; rw [if_neg h149, if_neg h166])
                      rw [← hXe] at hR
                      obtain ⟨p1, p2, p3, p4⟩ := hit_p4 (σ := τ) (o := o) (r := r0)
                      have hqq := hit_q hI hr0 hs0 hl1
                      have h3o : (sI (xHit τ o r0) 3 o).toInt = (sI τ 3 o).toInt - (hQ τ o r0).toInt := by rw [hit_o3 hor]; exact i_sub (by omega) (by have := Int32.toInt_lt (sI τ 3 o); omega)
                      have hk4 : (srk (xHit τ o r0)).toInt ≤ (srk τ).toInt + 1 := by rcases p4 with e | e <;> rw [e] <;> first | omega | (have := hI.2.2.2.1; rw [Int32.toInt_add, show (1 : Int32).toInt = 1 by decide, Int.bmod_def]; omega)
                      exact ih (xHit τ o r0) L1 M4 H locs ls hR hI1 hL1 (by unfold BD; rw [p2, p3]; exact hB) (by rw [hit_sn]; exact ho) (by rw [hit_o5 hor]; exact h5) (by omega) (by omega) (by omega) hE hl hw
                    · refine lv_aload_n S.1 S.2.1 d_M_meet_169 rfl (lv_at hl 4 rfl) ?_
                      refine lv_iload_n S.1 S.2.1 d_M_meet_170 rfl (lv_at hl 2 rfl) ?_
                      refine m_cv hw (va_runV (As := [.int (nI r0)]) (rest := []) S (c_M_comeToRest l γ M4 μ (xHit0 τ o r0) ε hR.1 hI.1 r0 hr0) (m_cwV 1 S g832 g834 g35 g48 g835 rfl rfl ⟨by decide +kernel, by decide +kernel, by decide +kernel⟩ ⟨(Nat.le_of_ble_eq_true rfl), (Nat.le_of_ble_eq_true rfl)⟩) (hw.preV hR.obj cl_M.1) rfl rfl hl.1 rfl (lv_room (Nat.le_of_ble_eq_true rfl)) d_M_meet_171 ⟨(Nat.zero_le _), (Nat.zero_le _)⟩) (fun M5 H locs hp hw => ?_)
                      have hR := hp.tr hR
                      refine lv_goto (tgt := 2) S.1 S.2.1 d_M_meet_174 rfl ?_
                      have hl := lv_sub hl [1, 3, 4] rfl
                      have hXe : xHit τ o r0 = xRest (xHit0 τ o r0) r0 := (by unfold xHit; rw [if_neg h149, if_pos h166])
                      rw [← hXe] at hR
                      obtain ⟨p1, p2, p3, p4⟩ := hit_p4 (σ := τ) (o := o) (r := r0)
                      have hqq := hit_q hI hr0 hs0 hl1
                      have h3o : (sI (xHit τ o r0) 3 o).toInt = (sI τ 3 o).toInt - (hQ τ o r0).toInt := by rw [hit_o3 hor]; exact i_sub (by omega) (by have := Int32.toInt_lt (sI τ 3 o); omega)
                      have hk4 : (srk (xHit τ o r0)).toInt ≤ (srk τ).toInt + 1 := by rcases p4 with e | e <;> rw [e] <;> first | omega | (have := hI.2.2.2.1; rw [Int32.toInt_add, show (1 : Int32).toInt = 1 by decide, Int.bmod_def]; omega)
                      exact ih (xHit τ o r0) L1 M5 H locs ls hR hI1 hL1 (by unfold BD; rw [p2, p3]; exact hB) (by rw [hit_sn]; exact ho) (by rw [hit_o5 hor]; exact h5) (by omega) (by omega) (by omega) hE hl hw
                  · refine lv_aload_n S.1 S.2.1 d_M_meet_152 rfl (lv_at hl 4 rfl) ?_
                    refine lv_iload_n S.1 S.2.1 d_M_meet_153 rfl (lv_at hl 2 rfl) ?_
                    refine m_cv hw (va_runV (As := [.int (nI r0)]) (rest := []) S (c_M_end l γ M4 μ (xHit0 τ o r0) ε hR.1 hI.1 r0 hr0) (m_cwV 1 S g828 g830 g34 g48 g831 rfl rfl ⟨by decide +kernel, by decide +kernel, by decide +kernel⟩ ⟨(Nat.le_of_ble_eq_true rfl), (Nat.le_of_ble_eq_true rfl)⟩) (hw.preV hR.obj cl_M.1) rfl rfl hl.1 rfl (lv_room (Nat.le_of_ble_eq_true rfl)) d_M_meet_154 ⟨(Nat.zero_le _), (Nat.zero_le _)⟩) (fun M6 H locs hp hw => ?_)
                    have hR := hp.tr hR
                    refine lv_goto (tgt := 174) S.1 S.2.1 d_M_meet_157 rfl ?_
                    refine lv_goto (tgt := 2) S.1 S.2.1 d_M_meet_174 rfl ?_
                    have hl := lv_sub hl [1, 3, 4] rfl
                    have hXe : xHit τ o r0 = xEnd (xHit0 τ o r0) r0 := (by unfold xHit; rw [if_pos h149])
                    rw [← hXe] at hR
                    obtain ⟨p1, p2, p3, p4⟩ := hit_p4 (σ := τ) (o := o) (r := r0)
                    have hqq := hit_q hI hr0 hs0 hl1
                    have h3o : (sI (xHit τ o r0) 3 o).toInt = (sI τ 3 o).toInt - (hQ τ o r0).toInt := by rw [hit_o3 hor]; exact i_sub (by omega) (by have := Int32.toInt_lt (sI τ 3 o); omega)
                    have hk4 : (srk (xHit τ o r0)).toInt ≤ (srk τ).toInt + 1 := by rcases p4 with e | e <;> rw [e] <;> first | omega | (have := hI.2.2.2.1; rw [Int32.toInt_add, show (1 : Int32).toInt = 1 by decide, Int.bmod_def]; omega)
                    exact ih (xHit τ o r0) L1 M6 H locs ls hR hI1 hL1 (by unfold BD; rw [p2, p3]; exact hB) (by rw [hit_sn]; exact ho) (by rw [hit_o5 hor]; exact h5) (by omega) (by omega) (by omega) hE hl hw
                · refine lv_aload_n S.1 S.2.1 d_M_meet_101 rfl (lv_at hl 3 rfl) ?_
                  refine m_get S hw cl_M hR.obj 9 (by decide) g697 (fun _ h => h) rfl d_M_meet_102 ?_
                  refine lv_iload_n S.1 S.2.1 d_M_meet_105 rfl (lv_at hl 2 rfl) ?_
                  refine m_rld (o := o) S hw hR 3 (by decide) (by omega) d_M_meet_106 ?_
                  refine lv_goto (tgt := 116) S.1 S.2.1 d_M_meet_107 rfl ?_
                  refine W.eq (g2 := F0 m 116 ls [.int (hQ τ o r0)]) (congrArg (fun z => F0 m 116 ls [.int z]) (hQ_lt (Int32.not_le.mp h98))) ?_
                  refine lv_istore S.1 S.2.1 d_M_meet_116 hl (by decide) rfl (fun ls hl => ?_)
                  have hl : lv_has ls 5 [(4, .int (hQ τ o r0)), (2, .int 1), (3, .int (nI r0)), (1, .int (nI o)), (0, .ref (rx μ))] := hl
                  refine lv_aload_n S.1 S.2.1 d_M_meet_118 rfl (lv_at hl 4 rfl) ?_
                  refine lv_iload_n S.1 S.2.1 d_M_meet_119 rfl (lv_at hl 3 rfl) ?_
                  refine lv_iload_n S.1 S.2.1 d_M_meet_120 rfl (lv_at hl 2 rfl) ?_
                  refine lv_aload_n S.1 S.2.1 d_M_meet_121 rfl (lv_at hl 4 rfl) ?_
                  refine m_get S hw cl_M hR.obj 8 (by decide) g696 (fun _ h => h) rfl d_M_meet_122 ?_
                  refine lv_iload_n S.1 S.2.1 d_M_meet_125 rfl (lv_at hl 2 rfl) ?_
                  refine m_rld (o := r0) S hw hR 2 (by decide) (by omega) d_M_meet_126 ?_
                  refine lv_iload S.1 S.2.1 d_M_meet_127 (lv_at hl 0 rfl) ?_
                  refine m_cv hw (va_runV (As := [.int (nI o), .int (nI r0), .int ((sI τ) 2 r0), .int (hQ τ o r0)]) (rest := []) S (c_M_deal l γ Mc μ τ ε hR.1 hI.1 o r0 ho hr0 (sI τ 2 r0) (hQ τ o r0) hTn) (m_cwV 4 S g824 g826 g33 g48 g827 rfl rfl ⟨by decide +kernel, by decide +kernel, by decide +kernel⟩ ⟨(Nat.le_of_ble_eq_true rfl), (Nat.le_of_ble_eq_true rfl)⟩) (hw.preV hR.obj cl_M.1) rfl rfl hl.1 rfl (lv_room (Nat.le_of_ble_eq_true rfl)) d_M_meet_129 ⟨(Nat.zero_le _), (Nat.zero_le _)⟩) (fun M7 H locs hp hw => ?_)
                  have hR := hp.tr hR
                  refine lv_aload_n S.1 S.2.1 d_M_meet_132 rfl (lv_at hl 4 rfl) ?_
                  refine m_get S hw cl_M hR.obj 10 (by decide) g698 (fun _ h => h) rfl d_M_meet_133 ?_
                  refine lv_iload_n S.1 S.2.1 d_M_meet_136 rfl (lv_at hl 2 rfl) ?_
                  refine lv_dup2_11 S.1 S.2.1 d_M_meet_137 rfl rfl ?_
                  refine m_rld (o := r0) S hw hR 4 (by decide) (by omega) d_M_meet_138 ?_
                  refine lv_iload S.1 S.2.1 d_M_meet_139 (lv_at hl 0 rfl) ?_
                  refine lv_isub S.1 S.2.1 d_M_meet_141 ?_
                  refine m_rst (o := r0) (v := ((sI (xDeal τ o r0 (sI τ 2 r0) (hQ τ o r0))) 4 r0) - (hQ τ o r0)) S hw hR 4 (by decide) (by omega) d_M_meet_142 (fun H locs M8 hR hw => ?_)
                  have hR : RQ γ _ M8 μ ((sn (xDeal τ o r0 (sI τ 2 r0) (hQ τ o r0)), s1 (sI (xDeal τ o r0 (sI τ 2 r0) (hQ τ o r0))) 4 r0 (((sI (xDeal τ o r0 (sI τ 2 r0) (hQ τ o r0))) 4 r0) - (hQ τ o r0))), (sph (xDeal τ o r0 (sI τ 2 r0) (hQ τ o r0)), srf (xDeal τ o r0 (sI τ 2 r0) (hQ τ o r0)), sbd (xDeal τ o r0 (sI τ 2 r0) (hQ τ o r0)), srk (xDeal τ o r0 (sI τ 2 r0) (hQ τ o r0))), stn (xDeal τ o r0 (sI τ 2 r0) (hQ τ o r0)), sT (xDeal τ o r0 (sI τ 2 r0) (hQ τ o r0)), sal (xDeal τ o r0 (sI τ 2 r0) (hQ τ o r0))) ε := hR
                  have hR : RQ γ _ M8 μ (xHit0 τ o r0) ε := hit0_eq (σ := τ) (o := o) (r := r0) ▸ hR
                  refine lv_aload_n S.1 S.2.1 d_M_meet_143 rfl (lv_at hl 4 rfl) ?_
                  refine m_get S hw cl_M hR.obj 9 (by decide) g697 (fun _ h => h) rfl d_M_meet_144 ?_
                  refine lv_iload_n S.1 S.2.1 d_M_meet_147 rfl (lv_at hl 2 rfl) ?_
                  refine m_rld (o := r0) S hw hR 3 (by decide) (by omega) d_M_meet_148 ?_
                  refine lv_if_ne (tgt := 160) S.1 S.2.1 d_M_meet_149 rfl (fun h149 => ?_) (fun h149 => ?_)
                  · refine lv_aload_n S.1 S.2.1 d_M_meet_160 rfl (lv_at hl 4 rfl) ?_
                    refine m_get S hw cl_M hR.obj 10 (by decide) g698 (fun _ h => h) rfl d_M_meet_161 ?_
                    refine lv_iload_n S.1 S.2.1 d_M_meet_164 rfl (lv_at hl 2 rfl) ?_
                    refine m_rld (o := r0) S hw hR 4 (by decide) (by omega) d_M_meet_165 ?_
                    refine lv_if_ne (tgt := 174) S.1 S.2.1 d_M_meet_166 rfl (fun h166 => ?_) (fun h166 => ?_)
                    · refine lv_goto (tgt := 2) S.1 S.2.1 d_M_meet_174 rfl ?_
                      have hl := lv_sub hl [1, 3, 4] rfl
                      have hXe : xHit τ o r0 = xHit0 τ o r0 := (by unfold xHit; rw [if_neg h149, if_neg h166])
                      rw [← hXe] at hR
                      obtain ⟨p1, p2, p3, p4⟩ := hit_p4 (σ := τ) (o := o) (r := r0)
                      have hqq := hit_q hI hr0 hs0 hl1
                      have h3o : (sI (xHit τ o r0) 3 o).toInt = (sI τ 3 o).toInt - (hQ τ o r0).toInt := by rw [hit_o3 hor]; exact i_sub (by omega) (by have := Int32.toInt_lt (sI τ 3 o); omega)
                      have hk4 : (srk (xHit τ o r0)).toInt ≤ (srk τ).toInt + 1 := by rcases p4 with e | e <;> rw [e] <;> first | omega | (have := hI.2.2.2.1; rw [Int32.toInt_add, show (1 : Int32).toInt = 1 by decide, Int.bmod_def]; omega)
                      exact ih (xHit τ o r0) L1 M8 H locs ls hR hI1 hL1 (by unfold BD; rw [p2, p3]; exact hB) (by rw [hit_sn]; exact ho) (by rw [hit_o5 hor]; exact h5) (by omega) (by omega) (by omega) hE hl hw
                    · refine lv_aload_n S.1 S.2.1 d_M_meet_169 rfl (lv_at hl 4 rfl) ?_
                      refine lv_iload_n S.1 S.2.1 d_M_meet_170 rfl (lv_at hl 2 rfl) ?_
                      refine m_cv hw (va_runV (As := [.int (nI r0)]) (rest := []) S (c_M_comeToRest l γ M8 μ (xHit0 τ o r0) ε hR.1 hI.1 r0 hr0) (m_cwV 1 S g832 g834 g35 g48 g835 rfl rfl ⟨by decide +kernel, by decide +kernel, by decide +kernel⟩ ⟨(Nat.le_of_ble_eq_true rfl), (Nat.le_of_ble_eq_true rfl)⟩) (hw.preV hR.obj cl_M.1) rfl rfl hl.1 rfl (lv_room (Nat.le_of_ble_eq_true rfl)) d_M_meet_171 ⟨(Nat.zero_le _), (Nat.zero_le _)⟩) (fun M9 H locs hp hw => ?_)
                      have hR := hp.tr hR
                      refine lv_goto (tgt := 2) S.1 S.2.1 d_M_meet_174 rfl ?_
                      have hl := lv_sub hl [1, 3, 4] rfl
                      have hXe : xHit τ o r0 = xRest (xHit0 τ o r0) r0 := (by unfold xHit; rw [if_neg h149, if_pos h166])
                      rw [← hXe] at hR
                      obtain ⟨p1, p2, p3, p4⟩ := hit_p4 (σ := τ) (o := o) (r := r0)
                      have hqq := hit_q hI hr0 hs0 hl1
                      have h3o : (sI (xHit τ o r0) 3 o).toInt = (sI τ 3 o).toInt - (hQ τ o r0).toInt := by rw [hit_o3 hor]; exact i_sub (by omega) (by have := Int32.toInt_lt (sI τ 3 o); omega)
                      have hk4 : (srk (xHit τ o r0)).toInt ≤ (srk τ).toInt + 1 := by rcases p4 with e | e <;> rw [e] <;> first | omega | (have := hI.2.2.2.1; rw [Int32.toInt_add, show (1 : Int32).toInt = 1 by decide, Int.bmod_def]; omega)
                      exact ih (xHit τ o r0) L1 M9 H locs ls hR hI1 hL1 (by unfold BD; rw [p2, p3]; exact hB) (by rw [hit_sn]; exact ho) (by rw [hit_o5 hor]; exact h5) (by omega) (by omega) (by omega) hE hl hw
                  · refine lv_aload_n S.1 S.2.1 d_M_meet_152 rfl (lv_at hl 4 rfl) ?_
                    refine lv_iload_n S.1 S.2.1 d_M_meet_153 rfl (lv_at hl 2 rfl) ?_
                    refine m_cv hw (va_runV (As := [.int (nI r0)]) (rest := []) S (c_M_end l γ M8 μ (xHit0 τ o r0) ε hR.1 hI.1 r0 hr0) (m_cwV 1 S g828 g830 g34 g48 g831 rfl rfl ⟨by decide +kernel, by decide +kernel, by decide +kernel⟩ ⟨(Nat.le_of_ble_eq_true rfl), (Nat.le_of_ble_eq_true rfl)⟩) (hw.preV hR.obj cl_M.1) rfl rfl hl.1 rfl (lv_room (Nat.le_of_ble_eq_true rfl)) d_M_meet_154 ⟨(Nat.zero_le _), (Nat.zero_le _)⟩) (fun M10 H locs hp hw => ?_)
                    have hR := hp.tr hR
                    refine lv_goto (tgt := 174) S.1 S.2.1 d_M_meet_157 rfl ?_
                    refine lv_goto (tgt := 2) S.1 S.2.1 d_M_meet_174 rfl ?_
                    have hl := lv_sub hl [1, 3, 4] rfl
                    have hXe : xHit τ o r0 = xEnd (xHit0 τ o r0) r0 := (by unfold xHit; rw [if_pos h149])
                    rw [← hXe] at hR
                    obtain ⟨p1, p2, p3, p4⟩ := hit_p4 (σ := τ) (o := o) (r := r0)
                    have hqq := hit_q hI hr0 hs0 hl1
                    have h3o : (sI (xHit τ o r0) 3 o).toInt = (sI τ 3 o).toInt - (hQ τ o r0).toInt := by rw [hit_o3 hor]; exact i_sub (by omega) (by have := Int32.toInt_lt (sI τ 3 o); omega)
                    have hk4 : (srk (xHit τ o r0)).toInt ≤ (srk τ).toInt + 1 := by rcases p4 with e | e <;> rw [e] <;> first | omega | (have := hI.2.2.2.1; rw [Int32.toInt_add, show (1 : Int32).toInt = 1 by decide, Int.bmod_def]; omega)
                    exact ih (xHit τ o r0) L1 M10 H locs ls hR hI1 hL1 (by unfold BD; rw [p2, p3]; exact hB) (by rw [hit_sn]; exact ho) (by rw [hit_o5 hor]; exact h5) (by omega) (by omega) (by omega) hE hl hw
              · refine lv_iconst (v := 1) S.1 S.2.1 d_M_meet_25 (by decide) ?_
                refine lv_goto (tgt := 30) S.1 S.2.1 d_M_meet_26 rfl ?_
                refine W.eq (g2 := F0 m 30 ls [.int (opp (sI τ 1 o)), .ref (rx μ)]) (congrArg (fun z => F0 m 30 ls [.int z, .ref (rx μ)]) (show (1 : Int32) = opp (sI τ 1 o) by unfold opp; rw [if_pos h22])) ?_
                refine m_ci hw (va_runV (As := [.int (opp (sI τ 1 o))]) (rest := []) S (c_M_firstOf l γ Mc μ τ ε hR.1 hI.1 (opp (sI τ 1 o))) (m_cwV 1 S g820 g822 g32 g48 g823 rfl rfl ⟨by decide +kernel, by decide +kernel, by decide +kernel⟩ ⟨(Nat.le_of_ble_eq_true rfl), (Nat.le_of_ble_eq_true rfl)⟩) (hw.preV hR.obj cl_M.1) rfl rfl hl.1 rfl (lv_room (Nat.le_of_ble_eq_true rfl)) d_M_meet_30 ⟨(Nat.zero_le _), (Nat.zero_le _)⟩) (fun r1 M1 H locs hp hw => ?_)
                obtain ⟨rfl, hM1⟩ := hp
                rw [hM1] at hw
                refine W.eq (g2 := F0 m 33 ls [.int (nI r0)]) (congrArg (fun z => F0 m 33 ls [.int z]) (congrArg fI hf)) ?_
                refine lv_istore_n S.1 S.2.1 d_M_meet_33 rfl hl (by decide) rfl (fun ls hl => ?_)
                have hl : lv_has ls 5 [(3, .int (nI r0)), (2, .int 1), (1, .int (nI o)), (0, .ref (rx μ))] := hl
                refine lv_iload_n S.1 S.2.1 d_M_meet_34 rfl (lv_at hl 0 rfl) ?_
                refine lv_if_lt (tgt := 56) S.1 S.2.1 d_M_meet_35 rfl (fun h => absurd h (nI_pos (by omega))) (fun _ => ?_)
                refine lv_aload_n S.1 S.2.1 d_M_meet_38 rfl (lv_at hl 3 rfl) ?_
                refine lv_iload_n S.1 S.2.1 d_M_meet_39 rfl (lv_at hl 2 rfl) ?_
                refine lv_aload_n S.1 S.2.1 d_M_meet_40 rfl (lv_at hl 3 rfl) ?_
                refine m_get S hw cl_M hR.obj 8 (by decide) g696 (fun _ h => h) rfl d_M_meet_41 ?_
                refine lv_iload_n S.1 S.2.1 d_M_meet_44 rfl (lv_at hl 0 rfl) ?_
                refine m_rld (o := r0) S hw hR 2 (by decide) (by omega) d_M_meet_45 ?_
                refine m_ci hw (va_runV (As := [.int (nI o), .int ((sI τ) 2 r0)]) (rest := []) S (c_M_takes l γ Mc μ τ ε hR.1 hI.1 o ho (sI τ 2 r0)) (m_cwV 2 S g797 g799 g27 g48 g800 rfl rfl ⟨by decide +kernel, by decide +kernel, by decide +kernel⟩ ⟨(Nat.le_of_ble_eq_true rfl), (Nat.le_of_ble_eq_true rfl)⟩) (hw.preV hR.obj cl_M.1) rfl rfl hl.1 rfl (lv_room (Nat.le_of_ble_eq_true rfl)) d_M_meet_46 ⟨(Nat.zero_le _), (Nat.zero_le _)⟩) (fun r1 M1 H locs hp hw => ?_)
                obtain ⟨rfl, hM1⟩ := hp
                rw [hM1] at hw
                refine lv_if_eq (tgt := 56) S.1 S.2.1 d_M_meet_49 rfl (fun h => absurd h (b2i_n0.mpr ht)) (fun _ => ?_)
                refine lv_iconst (v := 1) S.1 S.2.1 d_M_meet_52 (by decide) ?_
                refine lv_goto (tgt := 57) S.1 S.2.1 d_M_meet_53 rfl ?_
                refine lv_istore_n S.1 S.2.1 d_M_meet_57 rfl hl (by decide) rfl (fun ls hl => ?_)
                have hl : lv_has ls 5 [(2, .int 1), (3, .int (nI r0)), (1, .int (nI o)), (0, .ref (rx μ))] := hl
                refine lv_iload_n S.1 S.2.1 d_M_meet_58 rfl (lv_at hl 0 rfl) ?_
                refine lv_if_eq (tgt := 82) S.1 S.2.1 d_M_meet_59 rfl (fun h => absurd h (show ¬ (1 : Int32) = 0 by decide)) (fun _ => ?_)
                refine lv_aload_n S.1 S.2.1 d_M_meet_62 rfl (lv_at hl 3 rfl) ?_
                refine lv_aload_n S.1 S.2.1 d_M_meet_63 rfl (lv_at hl 3 rfl) ?_
                refine m_get S hw cl_M hR.obj 8 (by decide) g696 (fun _ h => h) rfl d_M_meet_64 ?_
                refine lv_iload_n S.1 S.2.1 d_M_meet_67 rfl (lv_at hl 1 rfl) ?_
                refine m_rld (o := r0) S hw hR 2 (by decide) (by omega) d_M_meet_68 ?_
                refine m_ci hw (va_runV (As := [.int ((sI τ) 2 r0)]) (rest := []) S (c_M_isBeyond l γ Mc μ τ ε hR.1 hB (sI τ 2 r0) ⟨hp0.1, hp0.2.1⟩) (m_cwV 1 S g805 g807 g29 g48 g808 rfl rfl ⟨by decide +kernel, by decide +kernel, by decide +kernel⟩ ⟨(Nat.le_of_ble_eq_true rfl), (Nat.le_of_ble_eq_true rfl)⟩) (hw.preV hR.obj cl_M.1) rfl rfl hl.1 rfl (lv_room (Nat.le_of_ble_eq_true rfl)) d_M_meet_69 ⟨(Nat.zero_le _), (Nat.zero_le _)⟩) (fun r1 M1 H locs hp hw => ?_)
                obtain ⟨rfl, hM1⟩ := hp
                rw [hM1] at hw
                refine lv_if_eq (tgt := 82) S.1 S.2.1 d_M_meet_72 rfl (fun _ => ?_) (fun h => absurd (b2i_0.mpr (by simpa using hb)) h)
                refine lv_iload_n S.1 S.2.1 d_M_meet_82 rfl (lv_at hl 0 rfl) ?_
                refine lv_if_eq (tgt := 174) S.1 S.2.1 d_M_meet_83 rfl (fun h => absurd h (show ¬ (1 : Int32) = 0 by decide)) (fun _ => ?_)
                refine lv_aload_n S.1 S.2.1 d_M_meet_86 rfl (lv_at hl 3 rfl) ?_
                refine m_get S hw cl_M hR.obj 9 (by decide) g697 (fun _ h => h) rfl d_M_meet_87 ?_
                refine lv_iload_n S.1 S.2.1 d_M_meet_90 rfl (lv_at hl 2 rfl) ?_
                refine m_rld (o := o) S hw hR 3 (by decide) (by omega) d_M_meet_91 ?_
                refine lv_aload_n S.1 S.2.1 d_M_meet_92 rfl (lv_at hl 3 rfl) ?_
                refine m_get S hw cl_M hR.obj 10 (by decide) g698 (fun _ h => h) rfl d_M_meet_93 ?_
                refine lv_iload_n S.1 S.2.1 d_M_meet_96 rfl (lv_at hl 1 rfl) ?_
                refine m_rld (o := r0) S hw hR 4 (by decide) (by omega) d_M_meet_97 ?_
                refine lv_icmp_ge (tgt := 110) S.1 S.2.1 d_M_meet_98 rfl (fun h98 => ?_) (fun h98 => ?_)
                · refine lv_aload_n S.1 S.2.1 d_M_meet_110 rfl (lv_at hl 3 rfl) ?_
                  refine m_get S hw cl_M hR.obj 10 (by decide) g698 (fun _ h => h) rfl d_M_meet_111 ?_
                  refine lv_iload_n S.1 S.2.1 d_M_meet_114 rfl (lv_at hl 1 rfl) ?_
                  refine m_rld (o := r0) S hw hR 4 (by decide) (by omega) d_M_meet_115 ?_
                  refine W.eq (g2 := F0 m 116 ls [.int (hQ τ o r0)]) (congrArg (fun z => F0 m 116 ls [.int z]) (hQ_ge h98)) ?_
                  refine lv_istore S.1 S.2.1 d_M_meet_116 hl (by decide) rfl (fun ls hl => ?_)
                  have hl : lv_has ls 5 [(4, .int (hQ τ o r0)), (2, .int 1), (3, .int (nI r0)), (1, .int (nI o)), (0, .ref (rx μ))] := hl
                  refine lv_aload_n S.1 S.2.1 d_M_meet_118 rfl (lv_at hl 4 rfl) ?_
                  refine lv_iload_n S.1 S.2.1 d_M_meet_119 rfl (lv_at hl 3 rfl) ?_
                  refine lv_iload_n S.1 S.2.1 d_M_meet_120 rfl (lv_at hl 2 rfl) ?_
                  refine lv_aload_n S.1 S.2.1 d_M_meet_121 rfl (lv_at hl 4 rfl) ?_
                  refine m_get S hw cl_M hR.obj 8 (by decide) g696 (fun _ h => h) rfl d_M_meet_122 ?_
                  refine lv_iload_n S.1 S.2.1 d_M_meet_125 rfl (lv_at hl 2 rfl) ?_
                  refine m_rld (o := r0) S hw hR 2 (by decide) (by omega) d_M_meet_126 ?_
                  refine lv_iload S.1 S.2.1 d_M_meet_127 (lv_at hl 0 rfl) ?_
                  refine m_cv hw (va_runV (As := [.int (nI o), .int (nI r0), .int ((sI τ) 2 r0), .int (hQ τ o r0)]) (rest := []) S (c_M_deal l γ Mc μ τ ε hR.1 hI.1 o r0 ho hr0 (sI τ 2 r0) (hQ τ o r0) hTn) (m_cwV 4 S g824 g826 g33 g48 g827 rfl rfl ⟨by decide +kernel, by decide +kernel, by decide +kernel⟩ ⟨(Nat.le_of_ble_eq_true rfl), (Nat.le_of_ble_eq_true rfl)⟩) (hw.preV hR.obj cl_M.1) rfl rfl hl.1 rfl (lv_room (Nat.le_of_ble_eq_true rfl)) d_M_meet_129 ⟨(Nat.zero_le _), (Nat.zero_le _)⟩) (fun M11 H locs hp hw => ?_)
                  have hR := hp.tr hR
                  refine lv_aload_n S.1 S.2.1 d_M_meet_132 rfl (lv_at hl 4 rfl) ?_
                  refine m_get S hw cl_M hR.obj 10 (by decide) g698 (fun _ h => h) rfl d_M_meet_133 ?_
                  refine lv_iload_n S.1 S.2.1 d_M_meet_136 rfl (lv_at hl 2 rfl) ?_
                  refine lv_dup2_11 S.1 S.2.1 d_M_meet_137 rfl rfl ?_
                  refine m_rld (o := r0) S hw hR 4 (by decide) (by omega) d_M_meet_138 ?_
                  refine lv_iload S.1 S.2.1 d_M_meet_139 (lv_at hl 0 rfl) ?_
                  refine lv_isub S.1 S.2.1 d_M_meet_141 ?_
                  refine m_rst (o := r0) (v := ((sI (xDeal τ o r0 (sI τ 2 r0) (hQ τ o r0))) 4 r0) - (hQ τ o r0)) S hw hR 4 (by decide) (by omega) d_M_meet_142 (fun H locs M12 hR hw => ?_)
                  have hR : RQ γ _ M12 μ ((sn (xDeal τ o r0 (sI τ 2 r0) (hQ τ o r0)), s1 (sI (xDeal τ o r0 (sI τ 2 r0) (hQ τ o r0))) 4 r0 (((sI (xDeal τ o r0 (sI τ 2 r0) (hQ τ o r0))) 4 r0) - (hQ τ o r0))), (sph (xDeal τ o r0 (sI τ 2 r0) (hQ τ o r0)), srf (xDeal τ o r0 (sI τ 2 r0) (hQ τ o r0)), sbd (xDeal τ o r0 (sI τ 2 r0) (hQ τ o r0)), srk (xDeal τ o r0 (sI τ 2 r0) (hQ τ o r0))), stn (xDeal τ o r0 (sI τ 2 r0) (hQ τ o r0)), sT (xDeal τ o r0 (sI τ 2 r0) (hQ τ o r0)), sal (xDeal τ o r0 (sI τ 2 r0) (hQ τ o r0))) ε := hR
                  have hR : RQ γ _ M12 μ (xHit0 τ o r0) ε := hit0_eq (σ := τ) (o := o) (r := r0) ▸ hR
                  refine lv_aload_n S.1 S.2.1 d_M_meet_143 rfl (lv_at hl 4 rfl) ?_
                  refine m_get S hw cl_M hR.obj 9 (by decide) g697 (fun _ h => h) rfl d_M_meet_144 ?_
                  refine lv_iload_n S.1 S.2.1 d_M_meet_147 rfl (lv_at hl 2 rfl) ?_
                  refine m_rld (o := r0) S hw hR 3 (by decide) (by omega) d_M_meet_148 ?_
                  refine lv_if_ne (tgt := 160) S.1 S.2.1 d_M_meet_149 rfl (fun h149 => ?_) (fun h149 => ?_)
                  · refine lv_aload_n S.1 S.2.1 d_M_meet_160 rfl (lv_at hl 4 rfl) ?_
                    refine m_get S hw cl_M hR.obj 10 (by decide) g698 (fun _ h => h) rfl d_M_meet_161 ?_
                    refine lv_iload_n S.1 S.2.1 d_M_meet_164 rfl (lv_at hl 2 rfl) ?_
                    refine m_rld (o := r0) S hw hR 4 (by decide) (by omega) d_M_meet_165 ?_
                    refine lv_if_ne (tgt := 174) S.1 S.2.1 d_M_meet_166 rfl (fun h166 => ?_) (fun h166 => ?_)
                    · refine lv_goto (tgt := 2) S.1 S.2.1 d_M_meet_174 rfl ?_
                      have hl := lv_sub hl [1, 3, 4] rfl
                      have hXe : xHit τ o r0 = xHit0 τ o r0 := (by unfold xHit; rw [if_neg h149, if_neg h166])
                      rw [← hXe] at hR
                      obtain ⟨p1, p2, p3, p4⟩ := hit_p4 (σ := τ) (o := o) (r := r0)
                      have hqq := hit_q hI hr0 hs0 hl1
                      have h3o : (sI (xHit τ o r0) 3 o).toInt = (sI τ 3 o).toInt - (hQ τ o r0).toInt := by rw [hit_o3 hor]; exact i_sub (by omega) (by have := Int32.toInt_lt (sI τ 3 o); omega)
                      have hk4 : (srk (xHit τ o r0)).toInt ≤ (srk τ).toInt + 1 := by rcases p4 with e | e <;> rw [e] <;> first | omega | (have := hI.2.2.2.1; rw [Int32.toInt_add, show (1 : Int32).toInt = 1 by decide, Int.bmod_def]; omega)
                      exact ih (xHit τ o r0) L1 M12 H locs ls hR hI1 hL1 (by unfold BD; rw [p2, p3]; exact hB) (by rw [hit_sn]; exact ho) (by rw [hit_o5 hor]; exact h5) (by omega) (by omega) (by omega) hE hl hw
                    · refine lv_aload_n S.1 S.2.1 d_M_meet_169 rfl (lv_at hl 4 rfl) ?_
                      refine lv_iload_n S.1 S.2.1 d_M_meet_170 rfl (lv_at hl 2 rfl) ?_
                      refine m_cv hw (va_runV (As := [.int (nI r0)]) (rest := []) S (c_M_comeToRest l γ M12 μ (xHit0 τ o r0) ε hR.1 hI.1 r0 hr0) (m_cwV 1 S g832 g834 g35 g48 g835 rfl rfl ⟨by decide +kernel, by decide +kernel, by decide +kernel⟩ ⟨(Nat.le_of_ble_eq_true rfl), (Nat.le_of_ble_eq_true rfl)⟩) (hw.preV hR.obj cl_M.1) rfl rfl hl.1 rfl (lv_room (Nat.le_of_ble_eq_true rfl)) d_M_meet_171 ⟨(Nat.zero_le _), (Nat.zero_le _)⟩) (fun M13 H locs hp hw => ?_)
                      have hR := hp.tr hR
                      refine lv_goto (tgt := 2) S.1 S.2.1 d_M_meet_174 rfl ?_
                      have hl := lv_sub hl [1, 3, 4] rfl
                      have hXe : xHit τ o r0 = xRest (xHit0 τ o r0) r0 := (by unfold xHit; rw [if_neg h149, if_pos h166])
                      rw [← hXe] at hR
                      obtain ⟨p1, p2, p3, p4⟩ := hit_p4 (σ := τ) (o := o) (r := r0)
                      have hqq := hit_q hI hr0 hs0 hl1
                      have h3o : (sI (xHit τ o r0) 3 o).toInt = (sI τ 3 o).toInt - (hQ τ o r0).toInt := by rw [hit_o3 hor]; exact i_sub (by omega) (by have := Int32.toInt_lt (sI τ 3 o); omega)
                      have hk4 : (srk (xHit τ o r0)).toInt ≤ (srk τ).toInt + 1 := by rcases p4 with e | e <;> rw [e] <;> first | omega | (have := hI.2.2.2.1; rw [Int32.toInt_add, show (1 : Int32).toInt = 1 by decide, Int.bmod_def]; omega)
                      exact ih (xHit τ o r0) L1 M13 H locs ls hR hI1 hL1 (by unfold BD; rw [p2, p3]; exact hB) (by rw [hit_sn]; exact ho) (by rw [hit_o5 hor]; exact h5) (by omega) (by omega) (by omega) hE hl hw
                  · refine lv_aload_n S.1 S.2.1 d_M_meet_152 rfl (lv_at hl 4 rfl) ?_
                    refine lv_iload_n S.1 S.2.1 d_M_meet_153 rfl (lv_at hl 2 rfl) ?_
                    refine m_cv hw (va_runV (As := [.int (nI r0)]) (rest := []) S (c_M_end l γ M12 μ (xHit0 τ o r0) ε hR.1 hI.1 r0 hr0) (m_cwV 1 S g828 g830 g34 g48 g831 rfl rfl ⟨by decide +kernel, by decide +kernel, by decide +kernel⟩ ⟨(Nat.le_of_ble_eq_true rfl), (Nat.le_of_ble_eq_true rfl)⟩) (hw.preV hR.obj cl_M.1) rfl rfl hl.1 rfl (lv_room (Nat.le_of_ble_eq_true rfl)) d_M_meet_154 ⟨(Nat.zero_le _), (Nat.zero_le _)⟩) (fun M14 H locs hp hw => ?_)
                    have hR := hp.tr hR
                    refine lv_goto (tgt := 174) S.1 S.2.1 d_M_meet_157 rfl ?_
                    refine lv_goto (tgt := 2) S.1 S.2.1 d_M_meet_174 rfl ?_
                    have hl := lv_sub hl [1, 3, 4] rfl
                    have hXe : xHit τ o r0 = xEnd (xHit0 τ o r0) r0 := (by unfold xHit; rw [if_pos h149])
                    rw [← hXe] at hR
                    obtain ⟨p1, p2, p3, p4⟩ := hit_p4 (σ := τ) (o := o) (r := r0)
                    have hqq := hit_q hI hr0 hs0 hl1
                    have h3o : (sI (xHit τ o r0) 3 o).toInt = (sI τ 3 o).toInt - (hQ τ o r0).toInt := by rw [hit_o3 hor]; exact i_sub (by omega) (by have := Int32.toInt_lt (sI τ 3 o); omega)
                    have hk4 : (srk (xHit τ o r0)).toInt ≤ (srk τ).toInt + 1 := by rcases p4 with e | e <;> rw [e] <;> first | omega | (have := hI.2.2.2.1; rw [Int32.toInt_add, show (1 : Int32).toInt = 1 by decide, Int.bmod_def]; omega)
                    exact ih (xHit τ o r0) L1 M14 H locs ls hR hI1 hL1 (by unfold BD; rw [p2, p3]; exact hB) (by rw [hit_sn]; exact ho) (by rw [hit_o5 hor]; exact h5) (by omega) (by omega) (by omega) hE hl hw
                · refine lv_aload_n S.1 S.2.1 d_M_meet_101 rfl (lv_at hl 3 rfl) ?_
                  refine m_get S hw cl_M hR.obj 9 (by decide) g697 (fun _ h => h) rfl d_M_meet_102 ?_
                  refine lv_iload_n S.1 S.2.1 d_M_meet_105 rfl (lv_at hl 2 rfl) ?_
                  refine m_rld (o := o) S hw hR 3 (by decide) (by omega) d_M_meet_106 ?_
                  refine lv_goto (tgt := 116) S.1 S.2.1 d_M_meet_107 rfl ?_
                  refine W.eq (g2 := F0 m 116 ls [.int (hQ τ o r0)]) (congrArg (fun z => F0 m 116 ls [.int z]) (hQ_lt (Int32.not_le.mp h98))) ?_
                  refine lv_istore S.1 S.2.1 d_M_meet_116 hl (by decide) rfl (fun ls hl => ?_)
                  have hl : lv_has ls 5 [(4, .int (hQ τ o r0)), (2, .int 1), (3, .int (nI r0)), (1, .int (nI o)), (0, .ref (rx μ))] := hl
                  refine lv_aload_n S.1 S.2.1 d_M_meet_118 rfl (lv_at hl 4 rfl) ?_
                  refine lv_iload_n S.1 S.2.1 d_M_meet_119 rfl (lv_at hl 3 rfl) ?_
                  refine lv_iload_n S.1 S.2.1 d_M_meet_120 rfl (lv_at hl 2 rfl) ?_
                  refine lv_aload_n S.1 S.2.1 d_M_meet_121 rfl (lv_at hl 4 rfl) ?_
                  refine m_get S hw cl_M hR.obj 8 (by decide) g696 (fun _ h => h) rfl d_M_meet_122 ?_
                  refine lv_iload_n S.1 S.2.1 d_M_meet_125 rfl (lv_at hl 2 rfl) ?_
                  refine m_rld (o := r0) S hw hR 2 (by decide) (by omega) d_M_meet_126 ?_
                  refine lv_iload S.1 S.2.1 d_M_meet_127 (lv_at hl 0 rfl) ?_
                  refine m_cv hw (va_runV (As := [.int (nI o), .int (nI r0), .int ((sI τ) 2 r0), .int (hQ τ o r0)]) (rest := []) S (c_M_deal l γ Mc μ τ ε hR.1 hI.1 o r0 ho hr0 (sI τ 2 r0) (hQ τ o r0) hTn) (m_cwV 4 S g824 g826 g33 g48 g827 rfl rfl ⟨by decide +kernel, by decide +kernel, by decide +kernel⟩ ⟨(Nat.le_of_ble_eq_true rfl), (Nat.le_of_ble_eq_true rfl)⟩) (hw.preV hR.obj cl_M.1) rfl rfl hl.1 rfl (lv_room (Nat.le_of_ble_eq_true rfl)) d_M_meet_129 ⟨(Nat.zero_le _), (Nat.zero_le _)⟩) (fun M15 H locs hp hw => ?_)
                  have hR := hp.tr hR
                  refine lv_aload_n S.1 S.2.1 d_M_meet_132 rfl (lv_at hl 4 rfl) ?_
                  refine m_get S hw cl_M hR.obj 10 (by decide) g698 (fun _ h => h) rfl d_M_meet_133 ?_
                  refine lv_iload_n S.1 S.2.1 d_M_meet_136 rfl (lv_at hl 2 rfl) ?_
                  refine lv_dup2_11 S.1 S.2.1 d_M_meet_137 rfl rfl ?_
                  refine m_rld (o := r0) S hw hR 4 (by decide) (by omega) d_M_meet_138 ?_
                  refine lv_iload S.1 S.2.1 d_M_meet_139 (lv_at hl 0 rfl) ?_
                  refine lv_isub S.1 S.2.1 d_M_meet_141 ?_
                  refine m_rst (o := r0) (v := ((sI (xDeal τ o r0 (sI τ 2 r0) (hQ τ o r0))) 4 r0) - (hQ τ o r0)) S hw hR 4 (by decide) (by omega) d_M_meet_142 (fun H locs M16 hR hw => ?_)
                  have hR : RQ γ _ M16 μ ((sn (xDeal τ o r0 (sI τ 2 r0) (hQ τ o r0)), s1 (sI (xDeal τ o r0 (sI τ 2 r0) (hQ τ o r0))) 4 r0 (((sI (xDeal τ o r0 (sI τ 2 r0) (hQ τ o r0))) 4 r0) - (hQ τ o r0))), (sph (xDeal τ o r0 (sI τ 2 r0) (hQ τ o r0)), srf (xDeal τ o r0 (sI τ 2 r0) (hQ τ o r0)), sbd (xDeal τ o r0 (sI τ 2 r0) (hQ τ o r0)), srk (xDeal τ o r0 (sI τ 2 r0) (hQ τ o r0))), stn (xDeal τ o r0 (sI τ 2 r0) (hQ τ o r0)), sT (xDeal τ o r0 (sI τ 2 r0) (hQ τ o r0)), sal (xDeal τ o r0 (sI τ 2 r0) (hQ τ o r0))) ε := hR
                  have hR : RQ γ _ M16 μ (xHit0 τ o r0) ε := hit0_eq (σ := τ) (o := o) (r := r0) ▸ hR
                  refine lv_aload_n S.1 S.2.1 d_M_meet_143 rfl (lv_at hl 4 rfl) ?_
                  refine m_get S hw cl_M hR.obj 9 (by decide) g697 (fun _ h => h) rfl d_M_meet_144 ?_
                  refine lv_iload_n S.1 S.2.1 d_M_meet_147 rfl (lv_at hl 2 rfl) ?_
                  refine m_rld (o := r0) S hw hR 3 (by decide) (by omega) d_M_meet_148 ?_
                  refine lv_if_ne (tgt := 160) S.1 S.2.1 d_M_meet_149 rfl (fun h149 => ?_) (fun h149 => ?_)
                  · refine lv_aload_n S.1 S.2.1 d_M_meet_160 rfl (lv_at hl 4 rfl) ?_
                    refine m_get S hw cl_M hR.obj 10 (by decide) g698 (fun _ h => h) rfl d_M_meet_161 ?_
                    refine lv_iload_n S.1 S.2.1 d_M_meet_164 rfl (lv_at hl 2 rfl) ?_
                    refine m_rld (o := r0) S hw hR 4 (by decide) (by omega) d_M_meet_165 ?_
                    refine lv_if_ne (tgt := 174) S.1 S.2.1 d_M_meet_166 rfl (fun h166 => ?_) (fun h166 => ?_)
                    · refine lv_goto (tgt := 2) S.1 S.2.1 d_M_meet_174 rfl ?_
                      have hl := lv_sub hl [1, 3, 4] rfl
                      have hXe : xHit τ o r0 = xHit0 τ o r0 := (by unfold xHit; rw [if_neg h149, if_neg h166])
                      rw [← hXe] at hR
                      obtain ⟨p1, p2, p3, p4⟩ := hit_p4 (σ := τ) (o := o) (r := r0)
                      have hqq := hit_q hI hr0 hs0 hl1
                      have h3o : (sI (xHit τ o r0) 3 o).toInt = (sI τ 3 o).toInt - (hQ τ o r0).toInt := by rw [hit_o3 hor]; exact i_sub (by omega) (by have := Int32.toInt_lt (sI τ 3 o); omega)
                      have hk4 : (srk (xHit τ o r0)).toInt ≤ (srk τ).toInt + 1 := by rcases p4 with e | e <;> rw [e] <;> first | omega | (have := hI.2.2.2.1; rw [Int32.toInt_add, show (1 : Int32).toInt = 1 by decide, Int.bmod_def]; omega)
                      exact ih (xHit τ o r0) L1 M16 H locs ls hR hI1 hL1 (by unfold BD; rw [p2, p3]; exact hB) (by rw [hit_sn]; exact ho) (by rw [hit_o5 hor]; exact h5) (by omega) (by omega) (by omega) hE hl hw
                    · refine lv_aload_n S.1 S.2.1 d_M_meet_169 rfl (lv_at hl 4 rfl) ?_
                      refine lv_iload_n S.1 S.2.1 d_M_meet_170 rfl (lv_at hl 2 rfl) ?_
                      refine m_cv hw (va_runV (As := [.int (nI r0)]) (rest := []) S (c_M_comeToRest l γ M16 μ (xHit0 τ o r0) ε hR.1 hI.1 r0 hr0) (m_cwV 1 S g832 g834 g35 g48 g835 rfl rfl ⟨by decide +kernel, by decide +kernel, by decide +kernel⟩ ⟨(Nat.le_of_ble_eq_true rfl), (Nat.le_of_ble_eq_true rfl)⟩) (hw.preV hR.obj cl_M.1) rfl rfl hl.1 rfl (lv_room (Nat.le_of_ble_eq_true rfl)) d_M_meet_171 ⟨(Nat.zero_le _), (Nat.zero_le _)⟩) (fun M17 H locs hp hw => ?_)
                      have hR := hp.tr hR
                      refine lv_goto (tgt := 2) S.1 S.2.1 d_M_meet_174 rfl ?_
                      have hl := lv_sub hl [1, 3, 4] rfl
                      have hXe : xHit τ o r0 = xRest (xHit0 τ o r0) r0 := (by unfold xHit; rw [if_neg h149, if_pos h166])
                      rw [← hXe] at hR
                      obtain ⟨p1, p2, p3, p4⟩ := hit_p4 (σ := τ) (o := o) (r := r0)
                      have hqq := hit_q hI hr0 hs0 hl1
                      have h3o : (sI (xHit τ o r0) 3 o).toInt = (sI τ 3 o).toInt - (hQ τ o r0).toInt := by rw [hit_o3 hor]; exact i_sub (by omega) (by have := Int32.toInt_lt (sI τ 3 o); omega)
                      have hk4 : (srk (xHit τ o r0)).toInt ≤ (srk τ).toInt + 1 := by rcases p4 with e | e <;> rw [e] <;> first | omega | (have := hI.2.2.2.1; rw [Int32.toInt_add, show (1 : Int32).toInt = 1 by decide, Int.bmod_def]; omega)
                      exact ih (xHit τ o r0) L1 M17 H locs ls hR hI1 hL1 (by unfold BD; rw [p2, p3]; exact hB) (by rw [hit_sn]; exact ho) (by rw [hit_o5 hor]; exact h5) (by omega) (by omega) (by omega) hE hl hw
                  · refine lv_aload_n S.1 S.2.1 d_M_meet_152 rfl (lv_at hl 4 rfl) ?_
                    refine lv_iload_n S.1 S.2.1 d_M_meet_153 rfl (lv_at hl 2 rfl) ?_
                    refine m_cv hw (va_runV (As := [.int (nI r0)]) (rest := []) S (c_M_end l γ M16 μ (xHit0 τ o r0) ε hR.1 hI.1 r0 hr0) (m_cwV 1 S g828 g830 g34 g48 g831 rfl rfl ⟨by decide +kernel, by decide +kernel, by decide +kernel⟩ ⟨(Nat.le_of_ble_eq_true rfl), (Nat.le_of_ble_eq_true rfl)⟩) (hw.preV hR.obj cl_M.1) rfl rfl hl.1 rfl (lv_room (Nat.le_of_ble_eq_true rfl)) d_M_meet_154 ⟨(Nat.zero_le _), (Nat.zero_le _)⟩) (fun M18 H locs hp hw => ?_)
                    have hR := hp.tr hR
                    refine lv_goto (tgt := 174) S.1 S.2.1 d_M_meet_157 rfl ?_
                    refine lv_goto (tgt := 2) S.1 S.2.1 d_M_meet_174 rfl ?_
                    have hl := lv_sub hl [1, 3, 4] rfl
                    have hXe : xHit τ o r0 = xEnd (xHit0 τ o r0) r0 := (by unfold xHit; rw [if_pos h149])
                    rw [← hXe] at hR
                    obtain ⟨p1, p2, p3, p4⟩ := hit_p4 (σ := τ) (o := o) (r := r0)
                    have hqq := hit_q hI hr0 hs0 hl1
                    have h3o : (sI (xHit τ o r0) 3 o).toInt = (sI τ 3 o).toInt - (hQ τ o r0).toInt := by rw [hit_o3 hor]; exact i_sub (by omega) (by have := Int32.toInt_lt (sI τ 3 o); omega)
                    have hk4 : (srk (xHit τ o r0)).toInt ≤ (srk τ).toInt + 1 := by rcases p4 with e | e <;> rw [e] <;> first | omega | (have := hI.2.2.2.1; rw [Int32.toInt_add, show (1 : Int32).toInt = 1 by decide, Int.bmod_def]; omega)
                    exact ih (xHit τ o r0) L1 M18 H locs ls hR hI1 hL1 (by unfold BD; rw [p2, p3]; exact hB) (by rw [hit_sn]; exact ho) (by rw [hit_o5 hor]; exact h5) (by omega) (by omega) (by omega) hE hl hw
          · have hE : τ = σ' := (xMeet_nt h3 hf (by simpa using ht)).symm.trans hfin
            refine lv_iload_n S.1 S.2.1 d_M_meet_2 rfl (lv_at hl 0 rfl) ?_
            refine lv_if_eq (tgt := 177) S.1 S.2.1 d_M_meet_3 rfl (fun h => absurd h (show ¬ (1 : Int32) = 0 by decide)) (fun _ => ?_)
            refine lv_aload_n S.1 S.2.1 d_M_meet_6 rfl (lv_at hl 2 rfl) ?_
            refine m_get S hw cl_M hR.obj 9 (by decide) g697 (fun _ h => h) rfl d_M_meet_7 ?_
            refine lv_iload_n S.1 S.2.1 d_M_meet_10 rfl (lv_at hl 1 rfl) ?_
            refine m_rld (o := o) S hw hR 3 (by decide) (by omega) d_M_meet_11 ?_
            refine lv_if_le (tgt := 177) S.1 S.2.1 d_M_meet_12 rfl (fun h => absurd h (Int32.not_le.mpr h3)) (fun _ => ?_)
            refine lv_aload_n S.1 S.2.1 d_M_meet_15 rfl (lv_at hl 2 rfl) ?_
            refine lv_aload_n S.1 S.2.1 d_M_meet_16 rfl (lv_at hl 2 rfl) ?_
            refine m_get S hw cl_M hR.obj 7 (by decide) g695 (fun _ h => h) rfl d_M_meet_17 ?_
            refine lv_iload_n S.1 S.2.1 d_M_meet_20 rfl (lv_at hl 1 rfl) ?_
            refine m_rldz (o := o) S hw hR (by omega) d_M_meet_21 ?_
            refine lv_if_ne (tgt := 29) S.1 S.2.1 d_M_meet_22 rfl (fun h22 => ?_) (fun h22 => ?_)
            · refine lv_iconst (v := 0) S.1 S.2.1 d_M_meet_29 (by decide) ?_
              refine W.eq (g2 := F0 m 30 ls [.int (opp (sI τ 1 o)), .ref (rx μ)]) (congrArg (fun z => F0 m 30 ls [.int z, .ref (rx μ)]) (show (0 : Int32) = opp (sI τ 1 o) by unfold opp; rw [if_neg h22])) ?_
              refine m_ci hw (va_runV (As := [.int (opp (sI τ 1 o))]) (rest := []) S (c_M_firstOf l γ Mc μ τ ε hR.1 hI.1 (opp (sI τ 1 o))) (m_cwV 1 S g820 g822 g32 g48 g823 rfl rfl ⟨by decide +kernel, by decide +kernel, by decide +kernel⟩ ⟨(Nat.le_of_ble_eq_true rfl), (Nat.le_of_ble_eq_true rfl)⟩) (hw.preV hR.obj cl_M.1) rfl rfl hl.1 rfl (lv_room (Nat.le_of_ble_eq_true rfl)) d_M_meet_30 ⟨(Nat.zero_le _), (Nat.zero_le _)⟩) (fun r1 M1 H locs hp hw => ?_)
              obtain ⟨rfl, hM1⟩ := hp
              rw [hM1] at hw
              refine W.eq (g2 := F0 m 33 ls [.int (nI r0)]) (congrArg (fun z => F0 m 33 ls [.int z]) (congrArg fI hf)) ?_
              refine lv_istore_n S.1 S.2.1 d_M_meet_33 rfl hl (by decide) rfl (fun ls hl => ?_)
              have hl : lv_has ls 5 [(3, .int (nI r0)), (2, .int 1), (1, .int (nI o)), (0, .ref (rx μ))] := hl
              refine lv_iload_n S.1 S.2.1 d_M_meet_34 rfl (lv_at hl 0 rfl) ?_
              refine lv_if_lt (tgt := 56) S.1 S.2.1 d_M_meet_35 rfl (fun h => absurd h (nI_pos (by omega))) (fun _ => ?_)
              refine lv_aload_n S.1 S.2.1 d_M_meet_38 rfl (lv_at hl 3 rfl) ?_
              refine lv_iload_n S.1 S.2.1 d_M_meet_39 rfl (lv_at hl 2 rfl) ?_
              refine lv_aload_n S.1 S.2.1 d_M_meet_40 rfl (lv_at hl 3 rfl) ?_
              refine m_get S hw cl_M hR.obj 8 (by decide) g696 (fun _ h => h) rfl d_M_meet_41 ?_
              refine lv_iload_n S.1 S.2.1 d_M_meet_44 rfl (lv_at hl 0 rfl) ?_
              refine m_rld (o := r0) S hw hR 2 (by decide) (by omega) d_M_meet_45 ?_
              refine m_ci hw (va_runV (As := [.int (nI o), .int ((sI τ) 2 r0)]) (rest := []) S (c_M_takes l γ Mc μ τ ε hR.1 hI.1 o ho (sI τ 2 r0)) (m_cwV 2 S g797 g799 g27 g48 g800 rfl rfl ⟨by decide +kernel, by decide +kernel, by decide +kernel⟩ ⟨(Nat.le_of_ble_eq_true rfl), (Nat.le_of_ble_eq_true rfl)⟩) (hw.preV hR.obj cl_M.1) rfl rfl hl.1 rfl (lv_room (Nat.le_of_ble_eq_true rfl)) d_M_meet_46 ⟨(Nat.zero_le _), (Nat.zero_le _)⟩) (fun r1 M1 H locs hp hw => ?_)
              obtain ⟨rfl, hM1⟩ := hp
              rw [hM1] at hw
              refine lv_if_eq (tgt := 56) S.1 S.2.1 d_M_meet_49 rfl (fun _ => ?_) (fun h => absurd (b2i_0.mpr (by simpa using ht)) h)
              refine lv_iconst (v := 0) S.1 S.2.1 d_M_meet_56 (by decide) ?_
              refine lv_istore_n S.1 S.2.1 d_M_meet_57 rfl hl (by decide) rfl (fun ls hl => ?_)
              have hl : lv_has ls 5 [(2, .int 0), (3, .int (nI r0)), (1, .int (nI o)), (0, .ref (rx μ))] := hl
              refine lv_iload_n S.1 S.2.1 d_M_meet_58 rfl (lv_at hl 0 rfl) ?_
              refine lv_if_eq (tgt := 82) S.1 S.2.1 d_M_meet_59 rfl (fun _ => ?_) (fun h => absurd (show (0 : Int32) = 0 from rfl) h)
              refine lv_iload_n S.1 S.2.1 d_M_meet_82 rfl (lv_at hl 0 rfl) ?_
              refine lv_if_eq (tgt := 174) S.1 S.2.1 d_M_meet_83 rfl (fun _ => ?_) (fun h => absurd (show (0 : Int32) = 0 from rfl) h)
              refine lv_goto (tgt := 2) S.1 S.2.1 d_M_meet_174 rfl ?_
              refine lv_iload_n S.1 S.2.1 d_M_meet_2 rfl (lv_at hl 0 rfl) ?_
              refine lv_if_eq (tgt := 177) S.1 S.2.1 d_M_meet_3 rfl (fun _ => ?_) (fun h => absurd (show (0 : Int32) = 0 from rfl) h)
              exact m_vret S hlk hr hw (hE ▸ hR) (Nat.le_refl _) (Nat.le_refl _) d_M_meet_177
            · refine lv_iconst (v := 1) S.1 S.2.1 d_M_meet_25 (by decide) ?_
              refine lv_goto (tgt := 30) S.1 S.2.1 d_M_meet_26 rfl ?_
              refine W.eq (g2 := F0 m 30 ls [.int (opp (sI τ 1 o)), .ref (rx μ)]) (congrArg (fun z => F0 m 30 ls [.int z, .ref (rx μ)]) (show (1 : Int32) = opp (sI τ 1 o) by unfold opp; rw [if_pos h22])) ?_
              refine m_ci hw (va_runV (As := [.int (opp (sI τ 1 o))]) (rest := []) S (c_M_firstOf l γ Mc μ τ ε hR.1 hI.1 (opp (sI τ 1 o))) (m_cwV 1 S g820 g822 g32 g48 g823 rfl rfl ⟨by decide +kernel, by decide +kernel, by decide +kernel⟩ ⟨(Nat.le_of_ble_eq_true rfl), (Nat.le_of_ble_eq_true rfl)⟩) (hw.preV hR.obj cl_M.1) rfl rfl hl.1 rfl (lv_room (Nat.le_of_ble_eq_true rfl)) d_M_meet_30 ⟨(Nat.zero_le _), (Nat.zero_le _)⟩) (fun r1 M1 H locs hp hw => ?_)
              obtain ⟨rfl, hM1⟩ := hp
              rw [hM1] at hw
              refine W.eq (g2 := F0 m 33 ls [.int (nI r0)]) (congrArg (fun z => F0 m 33 ls [.int z]) (congrArg fI hf)) ?_
              refine lv_istore_n S.1 S.2.1 d_M_meet_33 rfl hl (by decide) rfl (fun ls hl => ?_)
              have hl : lv_has ls 5 [(3, .int (nI r0)), (2, .int 1), (1, .int (nI o)), (0, .ref (rx μ))] := hl
              refine lv_iload_n S.1 S.2.1 d_M_meet_34 rfl (lv_at hl 0 rfl) ?_
              refine lv_if_lt (tgt := 56) S.1 S.2.1 d_M_meet_35 rfl (fun h => absurd h (nI_pos (by omega))) (fun _ => ?_)
              refine lv_aload_n S.1 S.2.1 d_M_meet_38 rfl (lv_at hl 3 rfl) ?_
              refine lv_iload_n S.1 S.2.1 d_M_meet_39 rfl (lv_at hl 2 rfl) ?_
              refine lv_aload_n S.1 S.2.1 d_M_meet_40 rfl (lv_at hl 3 rfl) ?_
              refine m_get S hw cl_M hR.obj 8 (by decide) g696 (fun _ h => h) rfl d_M_meet_41 ?_
              refine lv_iload_n S.1 S.2.1 d_M_meet_44 rfl (lv_at hl 0 rfl) ?_
              refine m_rld (o := r0) S hw hR 2 (by decide) (by omega) d_M_meet_45 ?_
              refine m_ci hw (va_runV (As := [.int (nI o), .int ((sI τ) 2 r0)]) (rest := []) S (c_M_takes l γ Mc μ τ ε hR.1 hI.1 o ho (sI τ 2 r0)) (m_cwV 2 S g797 g799 g27 g48 g800 rfl rfl ⟨by decide +kernel, by decide +kernel, by decide +kernel⟩ ⟨(Nat.le_of_ble_eq_true rfl), (Nat.le_of_ble_eq_true rfl)⟩) (hw.preV hR.obj cl_M.1) rfl rfl hl.1 rfl (lv_room (Nat.le_of_ble_eq_true rfl)) d_M_meet_46 ⟨(Nat.zero_le _), (Nat.zero_le _)⟩) (fun r1 M1 H locs hp hw => ?_)
              obtain ⟨rfl, hM1⟩ := hp
              rw [hM1] at hw
              refine lv_if_eq (tgt := 56) S.1 S.2.1 d_M_meet_49 rfl (fun _ => ?_) (fun h => absurd (b2i_0.mpr (by simpa using ht)) h)
              refine lv_iconst (v := 0) S.1 S.2.1 d_M_meet_56 (by decide) ?_
              refine lv_istore_n S.1 S.2.1 d_M_meet_57 rfl hl (by decide) rfl (fun ls hl => ?_)
              have hl : lv_has ls 5 [(2, .int 0), (3, .int (nI r0)), (1, .int (nI o)), (0, .ref (rx μ))] := hl
              refine lv_iload_n S.1 S.2.1 d_M_meet_58 rfl (lv_at hl 0 rfl) ?_
              refine lv_if_eq (tgt := 82) S.1 S.2.1 d_M_meet_59 rfl (fun _ => ?_) (fun h => absurd (show (0 : Int32) = 0 from rfl) h)
              refine lv_iload_n S.1 S.2.1 d_M_meet_82 rfl (lv_at hl 0 rfl) ?_
              refine lv_if_eq (tgt := 174) S.1 S.2.1 d_M_meet_83 rfl (fun _ => ?_) (fun h => absurd (show (0 : Int32) = 0 from rfl) h)
              refine lv_goto (tgt := 2) S.1 S.2.1 d_M_meet_174 rfl ?_
              refine lv_iload_n S.1 S.2.1 d_M_meet_2 rfl (lv_at hl 0 rfl) ?_
              refine lv_if_eq (tgt := 177) S.1 S.2.1 d_M_meet_3 rfl (fun _ => ?_) (fun h => absurd (show (0 : Int32) = 0 from rfl) h)
              exact m_vret S hlk hr hw (hE ▸ hR) (Nat.le_refl _) (Nat.le_refl _) d_M_meet_177
      · have hE : τ = σ' := (xMeet_no h3).symm.trans hfin
        refine lv_iload_n S.1 S.2.1 d_M_meet_2 rfl (lv_at hl 0 rfl) ?_
        refine lv_if_eq (tgt := 177) S.1 S.2.1 d_M_meet_3 rfl (fun h => absurd h (show ¬ (1 : Int32) = 0 by decide)) (fun _ => ?_)
        refine lv_aload_n S.1 S.2.1 d_M_meet_6 rfl (lv_at hl 2 rfl) ?_
        refine m_get S hw cl_M hR.obj 9 (by decide) g697 (fun _ h => h) rfl d_M_meet_7 ?_
        refine lv_iload_n S.1 S.2.1 d_M_meet_10 rfl (lv_at hl 1 rfl) ?_
        refine m_rld (o := o) S hw hR 3 (by decide) (by omega) d_M_meet_11 ?_
        refine lv_if_le (tgt := 177) S.1 S.2.1 d_M_meet_12 rfl (fun _ => ?_) (fun h => absurd (Int32.not_lt.mp h3) h)
        exact m_vret S hlk hr hw (hE ▸ hR) (Nat.le_refl _) (Nat.le_refl _) d_M_meet_177
  have hl := lv_sub hl [0, 2, 1] rfl
  exact loop 100000 σ L M _ _ ls hR hI hL hB ho h5 hl0 hl9 (by omega) hfin hl hw
