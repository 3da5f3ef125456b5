/-! CallBook.startGoingOn, finishIfNothingLeft -/
set_option maxHeartbeats 4000000 in
set_option maxRecDepth 100000 in
theorem c_B_startGoingOn (l : Launch) (γ : mG) (M : mMap) (β : BK) (oa cp : Nat → Nat) (L : Nat → List Nat) (σ : St) (hC : CB γ M β oa cp L σ) (hB : InvB σ) (hL : LN σ L) (o : Nat) (ho : o < sn σ) : Met l y_B_startGoingOn w_B_startGoingOn ({ frames := 5, cells := 0, slots := 0, locals := 137 } : Room) (mPc γ M [.ref (bx β), .ref (oa o)]) (mQv γ (fun M' => ∃ L', CB γ M' β oa cp L' (xStart σ o) ∧ InvB (xStart σ o) ∧ LN (xStart σ o) L' ∧ frC M M')) 0 0 (mA (gz γ)) := by
  refine m_enter (by decide) (Nat.le_of_ble_eq_true rfl) ?_
  intro p e s m below meth c ls S hr hlk hnm hl hw
  have hl : lv_has ls 2 [(0, .ref (bx β)), (1, .ref (oa o))] := hl
  have hOo := hC.ord o ho
  refine lv_aload_n S.1 S.2.1 d_B_startGoingOn_0 rfl (lv_at hl 1 rfl) ?_
  refine m_ci hw (va_runV (As := []) (rest := []) S (c_O_rests l γ M (oa o) _ _ _ _ _ _ _ _ _ _ hOo) (m_cwV 0 S g270 g244 g245 g54 g246 rfl rfl ⟨by decide +kernel, by decide +kernel, by decide +kernel⟩ ⟨(Nat.le_of_ble_eq_true rfl), (Nat.le_of_ble_eq_true rfl)⟩) (hw.preV hOo cl_O.1) rfl rfl hl.1 rfl (lv_room (Nat.le_of_ble_eq_true rfl)) d_B_startGoingOn_1 ⟨(Nat.zero_le _), (Nat.zero_le _)⟩) (fun r1 M1 H locs hp hw => ?_)
  obtain ⟨rfl, hM1⟩ := hp
  rw [hM1] at hw
  refine lv_if_ne (tgt := 8) S.1 S.2.1 d_B_startGoingOn_4 rfl (fun h4 => ?_) (fun h4 => ?_)
  · have h5 : ¬ sI σ 5 o = -1 := of_decide_eq_true (b2i_n0.mp h4)
    refine lv_aload_n S.1 S.2.1 d_B_startGoingOn_8 rfl (lv_at hl 1 rfl) ?_
    refine m_get S hw cl_O hOo 5 (by decide) g395 (fun _ h => h) rfl d_B_startGoingOn_9 ?_
    refine lv_if_ne (tgt := 23) S.1 S.2.1 d_B_startGoingOn_12 rfl (fun h12 => ?_) (fun h12 => ?_)
    · refine lv_aload_n S.1 S.2.1 d_B_startGoingOn_23 rfl (lv_at hl 1 rfl) ?_
      refine lv_aload_n S.1 S.2.1 d_B_startGoingOn_24 rfl (lv_at hl 1 rfl) ?_
      refine m_ci hw (va_runV (As := []) (rest := [.ref (oa o)]) S (c_O_mayShow l γ M (oa o) _ _ _ _ _ _ _ _ _ _ hOo) (m_cwV 0 S g494 g237 g238 g54 g239 rfl rfl ⟨by decide +kernel, by decide +kernel, by decide +kernel⟩ ⟨(Nat.le_of_ble_eq_true rfl), (Nat.le_of_ble_eq_true rfl)⟩) (hw.preV hOo cl_O.1) rfl rfl hl.1 rfl (lv_room (Nat.le_of_ble_eq_true rfl)) d_B_startGoingOn_25 ⟨(Nat.zero_le _), (Nat.zero_le _)⟩) (fun r1 M1 H locs hp hw => ?_)
      obtain ⟨rfl, hM1⟩ := hp
      rw [hM1] at hw
      refine W.eq (g2 := F0 m 28 ls [.int (shw (sI σ) o), .ref (oa o)]) (by rw [← shw_eq (hB.2.2.1 o ho).1]) ?_
      refine m_put S hw cl_O hOo 7 (by decide) g400 (fun _ h => h) rfl rfl rfl (Nat.le_of_ble_eq_true rfl) d_B_startGoingOn_28 (fun H locs hw => ?_)
      have hw : mW γ (mU M (oa o) (.inr (2, [.int (nI o), .int ((sI σ) 0 o), .int ((sI σ) 1 o), .int ((sI σ) 8 o), .int ((sI σ) 6 o), .int ((sI σ) 2 o), .int ((sI σ) 3 o), .int (shw (sI σ) o), .int ((sI σ) 5 o), .int ((sI σ) 7 o)]))) s H locs := hw
      rw [← oc_4] at hw
      obtain ⟨hC1, hf1⟩ := hC.setO hB.1 ho (J := s1 (sI σ) 4 o (shw (sI σ) o)) (fun f x hx => s1_o hx) (e := .inr (2, oc (s1 (sI σ) 4 o (shw (sI σ) o)) o)) rfl
      exact m_vret S hlk hr hw (⟨L, by unfold xStart; rw [if_neg h5, if_neg h12]; exact hC1, by unfold xStart; rw [if_neg h5, if_neg h12]; exact hB.cols rfl rfl (show_f (by decide)) (show_f (by decide)) (show_f (by decide)) (show_f (by decide)), by unfold xStart; rw [if_neg h5, if_neg h12]; exact hL.cols rfl (show_f (by decide)) (show_f (by decide)) (show_f (by decide)), hf1⟩) (Nat.le_refl _) (Nat.le_refl _) d_B_startGoingOn_31
    · refine lv_aload_n S.1 S.2.1 d_B_startGoingOn_15 rfl (lv_at hl 0 rfl) ?_
      refine lv_aload_n S.1 S.2.1 d_B_startGoingOn_16 rfl (lv_at hl 1 rfl) ?_
      refine m_cv hw (va_runV (As := [.ref (oa o)]) (rest := []) S (c_B_finish l γ M β oa cp L σ hC hB hL o ho) (m_cwV 1 S g563 g565 g16 g41 g566 rfl rfl ⟨by decide +kernel, by decide +kernel, by decide +kernel⟩ ⟨(Nat.le_of_ble_eq_true rfl), (Nat.le_of_ble_eq_true rfl)⟩) (hw.preV hC.book cl_B.1) rfl rfl hl.1 rfl (lv_room (Nat.le_of_ble_eq_true rfl)) d_B_startGoingOn_17 ⟨(Nat.zero_le _), (Nat.zero_le _)⟩) (fun M1 H locs hp hw => ?_)
      obtain ⟨L3, hC3, hB3, hL3, hf3⟩ := hp
      refine lv_goto (tgt := 31) S.1 S.2.1 d_B_startGoingOn_20 rfl ?_
      exact m_vret S hlk hr hw (⟨L3, by unfold xStart; rw [if_neg h5, if_pos h12]; exact hC3, by unfold xStart; rw [if_neg h5, if_pos h12]; exact hB3, by unfold xStart; rw [if_neg h5, if_pos h12]; exact hL3, hf3⟩) (Nat.le_refl _) (Nat.le_refl _) d_B_startGoingOn_31
  · have h5 : sI σ 5 o = -1 := Classical.not_not.mp (of_decide_eq_false (b2i_0.mp h4))
    exact m_vret S hlk hr hw (⟨L, by unfold xStart; rw [if_pos h5]; exact hC, by unfold xStart; rw [if_pos h5]; exact hB, by unfold xStart; rw [if_pos h5]; exact hL, frC.rf M⟩) (Nat.le_refl _) (Nat.le_refl _) d_B_startGoingOn_7
set_option maxHeartbeats 4000000 in
set_option maxRecDepth 100000 in
theorem c_B_finishIfNothingLeft (l : Launch) (γ : mG) (M : mMap) (β : BK) (oa cp : Nat → Nat) (L : Nat → List Nat) (σ : St) (hC : CB γ M β oa cp L σ) (hB : InvB σ) (hL : LN σ L) (o : Nat) (ho : o < sn σ) : Met l y_B_finishIfNothingLeft w_B_finishIfNothingLeft ({ frames := 5, cells := 0, slots := 0, locals := 137 } : Room) (mPc γ M [.ref (bx β), .ref (oa o)]) (mQv γ (fun M' => ∃ L', CB γ M' β oa cp L' (xFin σ o) ∧ InvB (xFin σ o) ∧ LN (xFin σ o) L' ∧ frC M M')) 0 0 (mA (gz γ)) := by
  refine m_enter (by decide) (Nat.le_of_ble_eq_true rfl) ?_
  intro p e s m below meth c ls S hr hlk hnm hl hw
  have hl : lv_has ls 2 [(0, .ref (bx β)), (1, .ref (oa o))] := hl
  have hOo := hC.ord o ho
  refine lv_aload_n S.1 S.2.1 d_B_finishIfNothingLeft_0 rfl (lv_at hl 1 rfl) ?_
  refine m_get S hw cl_O hOo 6 (by decide) g398 (fun _ h => h) rfl d_B_finishIfNothingLeft_1 ?_
  refine lv_if_ne (tgt := 12) S.1 S.2.1 d_B_finishIfNothingLeft_4 rfl (fun h4 => ?_) (fun h4 => ?_)
  · exact m_vret S hlk hr hw (⟨L, by unfold xFin; rw [if_neg h4]; exact hC, by unfold xFin; rw [if_neg h4]; exact hB, by unfold xFin; rw [if_neg h4]; exact hL, frC.rf M⟩) (Nat.le_refl _) (Nat.le_refl _) d_B_finishIfNothingLeft_12
  · refine lv_aload_n S.1 S.2.1 d_B_finishIfNothingLeft_7 rfl (lv_at hl 0 rfl) ?_
    refine lv_aload_n S.1 S.2.1 d_B_finishIfNothingLeft_8 rfl (lv_at hl 1 rfl) ?_
    refine m_cv hw (va_runV (As := [.ref (oa o)]) (rest := []) S (c_B_finish l γ M β oa cp L σ hC hB hL o ho) (m_cwV 1 S g563 g565 g16 g41 g566 rfl rfl ⟨by decide +kernel, by decide +kernel, by decide +kernel⟩ ⟨(Nat.le_of_ble_eq_true rfl), (Nat.le_of_ble_eq_true rfl)⟩) (hw.preV hC.book cl_B.1) rfl rfl hl.1 rfl (lv_room (Nat.le_of_ble_eq_true rfl)) d_B_finishIfNothingLeft_9 ⟨(Nat.zero_le _), (Nat.zero_le _)⟩) (fun M1 H locs hp hw => ?_)
    obtain ⟨L3, hC3, hB3, hL3, hf3⟩ := hp
    exact m_vret S hlk hr hw (⟨L3, by unfold xFin; rw [if_pos h4]; exact hC3, by unfold xFin; rw [if_pos h4]; exact hB3, by unfold xFin; rw [if_pos h4]; exact hL3, hf3⟩) (Nat.le_refl _) (Nat.le_refl _) d_B_finishIfNothingLeft_12
