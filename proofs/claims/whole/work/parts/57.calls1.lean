/-! CallBook: calls that are in order (1) -/
set_option maxHeartbeats 4000000 in
set_option maxRecDepth 100000 in
theorem c_B_isOwner (l : Launch) (γ : mG) (M : mMap) (x0 : Int32) : Met l y_B_isOwner w_B_isOwner ({ frames := 0, cells := 0, slots := 0, locals := 0 } : Room) (mPc γ M [.int x0]) (mQi γ (fun r M' => r = b2i (rg 0 9 x0) ∧ M' = M)) 0 0 (mA (gz γ)) := by
  refine m_enter (by decide) (Nat.le_of_ble_eq_true rfl) ?_
  intro p e s m below meth c ls S hr hlk hnm hl hw
  have hl : lv_has ls 1 [(0, .int x0)] := hl
  refine lv_iload_n S.1 S.2.1 d_B_isOwner_0 rfl (lv_at hl 0 rfl) ?_
  refine lv_if_lt (tgt := 14) S.1 S.2.1 d_B_isOwner_1 rfl (fun h1 => ?_) (fun h1 => ?_)
  · refine lv_iconst (v := 0) S.1 S.2.1 d_B_isOwner_14 (by decide) ?_
    exact m_iret S hlk hr rfl hw (⟨(congrArg b2i (show rg 0 9 x0 = false from rg_lo h1)).symm, rfl⟩) (Nat.le_refl _) (Nat.le_refl _) d_B_isOwner_15
  · refine lv_iload_n S.1 S.2.1 d_B_isOwner_4 rfl (lv_at hl 0 rfl) ?_
    refine lv_bipush (v := 9) S.1 S.2.1 d_B_isOwner_5 (by decide) ?_
    refine lv_icmp_gt (tgt := 14) S.1 S.2.1 d_B_isOwner_7 rfl (fun h7 => ?_) (fun h7 => ?_)
    · refine lv_iconst (v := 0) S.1 S.2.1 d_B_isOwner_14 (by decide) ?_
      exact m_iret S hlk hr rfl hw (⟨(congrArg b2i (show rg 0 9 x0 = false from rg_hi h7)).symm, rfl⟩) (Nat.le_refl _) (Nat.le_refl _) d_B_isOwner_15
    · refine lv_iconst (v := 1) S.1 S.2.1 d_B_isOwner_10 (by decide) ?_
      refine lv_goto (tgt := 15) S.1 S.2.1 d_B_isOwner_11 rfl ?_
      exact m_iret S hlk hr rfl hw (⟨(congrArg b2i (show rg 0 9 x0 = true from rg_in h1 h7)).symm, rfl⟩) (Nat.le_refl _) (Nat.le_refl _) d_B_isOwner_15
set_option maxHeartbeats 4000000 in
set_option maxRecDepth 100000 in
theorem c_B_isPriceOrMarket (l : Launch) (γ : mG) (M : mMap) (x0 : Int32) : Met l y_B_isPriceOrMarket w_B_isPriceOrMarket ({ frames := 0, cells := 0, slots := 0, locals := 0 } : Room) (mPc γ M [.int x0]) (mQi γ (fun r M' => r = b2i (rg 0 2000 x0) ∧ M' = M)) 0 0 (mA (gz γ)) := by
  refine m_enter (by decide) (Nat.le_of_ble_eq_true rfl) ?_
  intro p e s m below meth c ls S hr hlk hnm hl hw
  have hl : lv_has ls 1 [(0, .int x0)] := hl
  refine lv_iload_n S.1 S.2.1 d_B_isPriceOrMarket_0 rfl (lv_at hl 0 rfl) ?_
  refine lv_if_lt (tgt := 15) S.1 S.2.1 d_B_isPriceOrMarket_1 rfl (fun h1 => ?_) (fun h1 => ?_)
  · refine lv_iconst (v := 0) S.1 S.2.1 d_B_isPriceOrMarket_15 (by decide) ?_
    exact m_iret S hlk hr rfl hw (⟨(congrArg b2i (show rg 0 2000 x0 = false from rg_lo h1)).symm, rfl⟩) (Nat.le_refl _) (Nat.le_refl _) d_B_isPriceOrMarket_16
  · refine lv_iload_n S.1 S.2.1 d_B_isPriceOrMarket_4 rfl (lv_at hl 0 rfl) ?_
    refine lv_sipush (v := 2000) S.1 S.2.1 d_B_isPriceOrMarket_5 (by decide) ?_
    refine lv_icmp_gt (tgt := 15) S.1 S.2.1 d_B_isPriceOrMarket_8 rfl (fun h8 => ?_) (fun h8 => ?_)
    · refine lv_iconst (v := 0) S.1 S.2.1 d_B_isPriceOrMarket_15 (by decide) ?_
      exact m_iret S hlk hr rfl hw (⟨(congrArg b2i (show rg 0 2000 x0 = false from rg_hi h8)).symm, rfl⟩) (Nat.le_refl _) (Nat.le_refl _) d_B_isPriceOrMarket_16
    · refine lv_iconst (v := 1) S.1 S.2.1 d_B_isPriceOrMarket_11 (by decide) ?_
      refine lv_goto (tgt := 16) S.1 S.2.1 d_B_isPriceOrMarket_12 rfl ?_
      exact m_iret S hlk hr rfl hw (⟨(congrArg b2i (show rg 0 2000 x0 = true from rg_in h1 h8)).symm, rfl⟩) (Nat.le_refl _) (Nat.le_refl _) d_B_isPriceOrMarket_16
set_option maxHeartbeats 4000000 in
set_option maxRecDepth 100000 in
theorem c_B_isQuantity (l : Launch) (γ : mG) (M : mMap) (x0 : Int32) : Met l y_B_isQuantity w_B_isQuantity ({ frames := 0, cells := 0, slots := 0, locals := 0 } : Room) (mPc γ M [.int x0]) (mQi γ (fun r M' => r = b2i (rg 1 100000 x0) ∧ M' = M)) 0 0 (mA (gz γ)) := by
  refine m_enter (by decide) (Nat.le_of_ble_eq_true rfl) ?_
  intro p e s m below meth c ls S hr hlk hnm hl hw
  have hl : lv_has ls 1 [(0, .int x0)] := hl
  refine lv_iload_n S.1 S.2.1 d_B_isQuantity_0 rfl (lv_at hl 0 rfl) ?_
  refine lv_iconst (v := 1) S.1 S.2.1 d_B_isQuantity_1 (by decide) ?_
  refine lv_icmp_lt (tgt := 15) S.1 S.2.1 d_B_isQuantity_2 rfl (fun h2 => ?_) (fun h2 => ?_)
  · refine lv_iconst (v := 0) S.1 S.2.1 d_B_isQuantity_15 (by decide) ?_
    exact m_iret S hlk hr rfl hw (⟨(congrArg b2i (show rg 1 100000 x0 = false from rg_lo h2)).symm, rfl⟩) (Nat.le_refl _) (Nat.le_refl _) d_B_isQuantity_16
  · refine lv_iload_n S.1 S.2.1 d_B_isQuantity_5 rfl (lv_at hl 0 rfl) ?_
    refine lv_ldc S.1 S.2.1 S.2.2.2.1 (S.2.2.2.2 _ (gc g292)) d_B_isQuantity_6 ?_
    refine lv_icmp_gt (tgt := 15) S.1 S.2.1 d_B_isQuantity_8 rfl (fun h8 => ?_) (fun h8 => ?_)
    · refine lv_iconst (v := 0) S.1 S.2.1 d_B_isQuantity_15 (by decide) ?_
      exact m_iret S hlk hr rfl hw (⟨(congrArg b2i (show rg 1 100000 x0 = false from rg_hi h8)).symm, rfl⟩) (Nat.le_refl _) (Nat.le_refl _) d_B_isQuantity_16
    · refine lv_iconst (v := 1) S.1 S.2.1 d_B_isQuantity_11 (by decide) ?_
      refine lv_goto (tgt := 16) S.1 S.2.1 d_B_isQuantity_12 rfl ?_
      exact m_iret S hlk hr rfl hw (⟨(congrArg b2i (show rg 1 100000 x0 = true from rg_in h2 h8)).symm, rfl⟩) (Nat.le_refl _) (Nat.le_refl _) d_B_isQuantity_16
set_option maxHeartbeats 4000000 in
set_option maxRecDepth 100000 in
theorem c_B_isPeak (l : Launch) (γ : mG) (M : mMap) (x0 : Int32) : Met l y_B_isPeak w_B_isPeak ({ frames := 0, cells := 0, slots := 0, locals := 0 } : Room) (mPc γ M [.int x0]) (mQi γ (fun r M' => r = b2i (rg 0 100000 x0) ∧ M' = M)) 0 0 (mA (gz γ)) := by
  refine m_enter (by decide) (Nat.le_of_ble_eq_true rfl) ?_
  intro p e s m below meth c ls S hr hlk hnm hl hw
  have hl : lv_has ls 1 [(0, .int x0)] := hl
  refine lv_iload_n S.1 S.2.1 d_B_isPeak_0 rfl (lv_at hl 0 rfl) ?_
  refine lv_if_lt (tgt := 14) S.1 S.2.1 d_B_isPeak_1 rfl (fun h1 => ?_) (fun h1 => ?_)
  · refine lv_iconst (v := 0) S.1 S.2.1 d_B_isPeak_14 (by decide) ?_
    exact m_iret S hlk hr rfl hw (⟨(congrArg b2i (show rg 0 100000 x0 = false from rg_lo h1)).symm, rfl⟩) (Nat.le_refl _) (Nat.le_refl _) d_B_isPeak_15
  · refine lv_iload_n S.1 S.2.1 d_B_isPeak_4 rfl (lv_at hl 0 rfl) ?_
    refine lv_ldc S.1 S.2.1 S.2.2.2.1 (S.2.2.2.2 _ (gc g292)) d_B_isPeak_5 ?_
    refine lv_icmp_gt (tgt := 14) S.1 S.2.1 d_B_isPeak_7 rfl (fun h7 => ?_) (fun h7 => ?_)
    · refine lv_iconst (v := 0) S.1 S.2.1 d_B_isPeak_14 (by decide) ?_
      exact m_iret S hlk hr rfl hw (⟨(congrArg b2i (show rg 0 100000 x0 = false from rg_hi h7)).symm, rfl⟩) (Nat.le_refl _) (Nat.le_refl _) d_B_isPeak_15
    · refine lv_iconst (v := 1) S.1 S.2.1 d_B_isPeak_10 (by decide) ?_
      refine lv_goto (tgt := 15) S.1 S.2.1 d_B_isPeak_11 rfl ?_
      exact m_iret S hlk hr rfl hw (⟨(congrArg b2i (show rg 0 100000 x0 = true from rg_in h1 h7)).symm, rfl⟩) (Nat.le_refl _) (Nat.le_refl _) d_B_isPeak_15
set_option maxHeartbeats 4000000 in
set_option maxRecDepth 100000 in
theorem c_B_isLife (l : Launch) (γ : mG) (M : mMap) (x0 : Int32) : Met l y_B_isLife w_B_isLife ({ frames := 0, cells := 0, slots := 0, locals := 0 } : Room) (mPc γ M [.int x0]) (mQi γ (fun r M' => r = b2i (rg 0 2 x0) ∧ M' = M)) 0 0 (mA (gz γ)) := by
  refine m_enter (by decide) (Nat.le_of_ble_eq_true rfl) ?_
  intro p e s m below meth c ls S hr hlk hnm hl hw
  have hl : lv_has ls 1 [(0, .int x0)] := hl
  refine lv_iload_n S.1 S.2.1 d_B_isLife_0 rfl (lv_at hl 0 rfl) ?_
  refine lv_if_lt (tgt := 13) S.1 S.2.1 d_B_isLife_1 rfl (fun h1 => ?_) (fun h1 => ?_)
  · refine lv_iconst (v := 0) S.1 S.2.1 d_B_isLife_13 (by decide) ?_
    exact m_iret S hlk hr rfl hw (⟨(congrArg b2i (show rg 0 2 x0 = false from rg_lo h1)).symm, rfl⟩) (Nat.le_refl _) (Nat.le_refl _) d_B_isLife_14
  · refine lv_iload_n S.1 S.2.1 d_B_isLife_4 rfl (lv_at hl 0 rfl) ?_
    refine lv_iconst (v := 2) S.1 S.2.1 d_B_isLife_5 (by decide) ?_
    refine lv_icmp_gt (tgt := 13) S.1 S.2.1 d_B_isLife_6 rfl (fun h6 => ?_) (fun h6 => ?_)
    · refine lv_iconst (v := 0) S.1 S.2.1 d_B_isLife_13 (by decide) ?_
      exact m_iret S hlk hr rfl hw (⟨(congrArg b2i (show rg 0 2 x0 = false from rg_hi h6)).symm, rfl⟩) (Nat.le_refl _) (Nat.le_refl _) d_B_isLife_14
    · refine lv_iconst (v := 1) S.1 S.2.1 d_B_isLife_9 (by decide) ?_
      refine lv_goto (tgt := 14) S.1 S.2.1 d_B_isLife_10 rfl ?_
      exact m_iret S hlk hr rfl hw (⟨(congrArg b2i (show rg 0 2 x0 = true from rg_in h1 h6)).symm, rfl⟩) (Nat.le_refl _) (Nat.le_refl _) d_B_isLife_14
set_option maxHeartbeats 4000000 in
set_option maxRecDepth 100000 in
theorem c_B_fitsPeak (l : Launch) (γ : mG) (M : mMap) (q0 k0 : Int32) : Met l y_B_fitsPeak w_B_fitsPeak ({ frames := 0, cells := 0, slots := 0, locals := 0 } : Room) (mPc γ M [.int q0, .int k0]) (mQi γ (fun r M' => r = b2i (fpk q0 k0) ∧ M' = M)) 0 0 (mA (gz γ)) := by
  refine m_enter (by decide) (Nat.le_of_ble_eq_true rfl) ?_
  intro p e s m below meth c ls S hr hlk hnm hl hw
  have hl : lv_has ls 2 [(0, .int q0), (1, .int k0)] := hl
  refine lv_iload_n S.1 S.2.1 d_B_fitsPeak_0 rfl (lv_at hl 1 rfl) ?_
  refine lv_if_eq (tgt := 12) S.1 S.2.1 d_B_fitsPeak_1 rfl (fun h1 => ?_) (fun h1 => ?_)
  · refine lv_iconst (v := 1) S.1 S.2.1 d_B_fitsPeak_12 (by decide) ?_
    refine lv_goto (tgt := 17) S.1 S.2.1 d_B_fitsPeak_13 rfl ?_
    exact m_iret S hlk hr rfl hw (⟨(congrArg b2i (show fpk q0 k0 = true from by unfold fpk; rw [decide_eq_true h1]; rfl)).symm, rfl⟩) (Nat.le_refl _) (Nat.le_refl _) d_B_fitsPeak_17
  · refine lv_iload_n S.1 S.2.1 d_B_fitsPeak_4 rfl (lv_at hl 0 rfl) ?_
    refine lv_bipush (v := 50) S.1 S.2.1 d_B_fitsPeak_5 (by decide) ?_
    refine lv_iload_n S.1 S.2.1 d_B_fitsPeak_7 rfl (lv_at hl 1 rfl) ?_
    refine lv_imul S.1 S.2.1 d_B_fitsPeak_8 ?_
    refine lv_icmp_gt (tgt := 16) S.1 S.2.1 d_B_fitsPeak_9 rfl (fun h9 => ?_) (fun h9 => ?_)
    · refine lv_iconst (v := 0) S.1 S.2.1 d_B_fitsPeak_16 (by decide) ?_
      exact m_iret S hlk hr rfl hw (⟨(congrArg b2i (show fpk q0 k0 = false from by unfold fpk; rw [decide_eq_false h1, decide_eq_false (Int32.not_le.mpr h9)]; rfl)).symm, rfl⟩) (Nat.le_refl _) (Nat.le_refl _) d_B_fitsPeak_17
    · refine lv_iconst (v := 1) S.1 S.2.1 d_B_fitsPeak_12 (by decide) ?_
      refine lv_goto (tgt := 17) S.1 S.2.1 d_B_fitsPeak_13 rfl ?_
      exact m_iret S hlk hr rfl hw (⟨(congrArg b2i (show fpk q0 k0 = true from by unfold fpk; rw [decide_eq_true (Int32.not_lt.mp h9), Bool.or_true])).symm, rfl⟩) (Nat.le_refl _) (Nat.le_refl _) d_B_fitsPeak_17
set_option maxHeartbeats 4000000 in
set_option maxRecDepth 100000 in
theorem c_B_band (l : Launch) (γ : mG) (M : mMap) (β : BK) (oa cp : Nat → Nat) (L : Nat → List Nat) (σ : St) (hC : CB γ M β oa cp L σ) (a0 b0 : Int32) (hv1 : rg 1 2000 a0 = true) (hv2 : rg 0 2000 b0 = true) : Met l y_B_band w_B_band ({ frames := 0, cells := 0, slots := 0, locals := 0 } : Room) (mPc γ M [.ref (bx β), .int a0, .int b0]) (mQi γ (fun r M' => r = srf σ ∧ CB γ M' β oa cp L (oBand σ a0 b0) ∧ frC M M')) 0 0 (mA (gz γ)) := by
  refine m_enter (by decide) (Nat.le_of_ble_eq_true rfl) ?_
  intro p e s m below meth c ls S hr hlk hnm hl hw
  have hl : lv_has ls 4 [(0, .ref (bx β)), (1, .int a0), (2, .int b0)] := hl
  refine lv_iload_n S.1 S.2.1 d_B_band_0 rfl (lv_at hl 1 rfl) ?_
  refine lv_iconst (v := 1) S.1 S.2.1 d_B_band_1 (by decide) ?_
  refine lv_icmp_lt (tgt := 23) S.1 S.2.1 d_B_band_2 rfl (fun h => absurd h (rg_l hv1)) (fun _ => ?_)
  refine lv_iload_n S.1 S.2.1 d_B_band_5 rfl (lv_at hl 1 rfl) ?_
  refine lv_sipush (v := 2000) S.1 S.2.1 d_B_band_6 (by decide) ?_
  refine lv_icmp_gt (tgt := 23) S.1 S.2.1 d_B_band_9 rfl (fun h => absurd h (rg_h hv1)) (fun _ => ?_)
  refine lv_iload_n S.1 S.2.1 d_B_band_12 rfl (lv_at hl 2 rfl) ?_
  refine lv_if_lt (tgt := 23) S.1 S.2.1 d_B_band_13 rfl (fun h => absurd h (rg_l hv2)) (fun _ => ?_)
  refine lv_iload_n S.1 S.2.1 d_B_band_16 rfl (lv_at hl 2 rfl) ?_
  refine lv_sipush (v := 2000) S.1 S.2.1 d_B_band_17 (by decide) ?_
  refine lv_icmp_le (tgt := 31) S.1 S.2.1 d_B_band_20 rfl (fun _ => ?_) (fun h => absurd (Int32.not_lt.mp (rg_h hv2)) h)
  refine lv_aload_n S.1 S.2.1 d_B_band_31 rfl (lv_at hl 0 rfl) ?_
  refine m_get S hw cl_B hC.book 6 (by decide) g151 (fun _ h => h) rfl d_B_band_32 ?_
  refine lv_istore_n S.1 S.2.1 d_B_band_35 rfl hl (by decide) rfl (fun ls hl => ?_)
  have hl : lv_has ls 4 [(3, .int σ.2.1.2.1), (0, .ref (bx β)), (1, .int a0), (2, .int b0)] := hl
  refine lv_aload_n S.1 S.2.1 d_B_band_36 rfl (lv_at hl 1 rfl) ?_
  refine lv_iload_n S.1 S.2.1 d_B_band_37 rfl (lv_at hl 2 rfl) ?_
  refine m_put S hw cl_B hC.book 6 (by decide) g151 (fun _ h => h) rfl rfl rfl (Nat.le_of_ble_eq_true rfl) d_B_band_38 (fun H locs hw => ?_)
  have hw : mW γ (mU M (bx β) (.inr (6, [.ref (bal β 0), .ref (bsd β 1), .ref (bsd β 2), .ref (btl β), .ref (bau β), .int σ.2.1.1, .int a0, .int σ.2.1.2.2.1, .int σ.2.1.2.2.2]))) s H locs := hw
  refine lv_aload_n S.1 S.2.1 d_B_band_41 rfl (lv_at hl 1 rfl) ?_
  refine lv_iload_n S.1 S.2.1 d_B_band_42 rfl (lv_at hl 3 rfl) ?_
  refine m_put S hw cl_B (mU_eq _ _ _) 7 (by decide) g152 (fun _ h => h) rfl rfl rfl (Nat.le_of_ble_eq_true rfl) d_B_band_43 (fun H locs hw => ?_)
  have hw : mW γ (mU (mU M (bx β) (.inr (6, [.ref (bal β 0), .ref (bsd β 1), .ref (bsd β 2), .ref (btl β), .ref (bau β), .int σ.2.1.1, .int a0, .int σ.2.1.2.2.1, .int σ.2.1.2.2.2]))) (bx β) (.inr (6, [.ref (bal β 0), .ref (bsd β 1), .ref (bsd β 2), .ref (btl β), .ref (bau β), .int σ.2.1.1, .int a0, .int b0, .int σ.2.1.2.2.2]))) s H locs := hw
  rw [mU_uu] at hw
  obtain ⟨hC1, hf1⟩ := hC.setB (p := (sph σ, a0, b0, srk σ)) (e := .inr (6, bkc β (sph σ, a0, b0, srk σ))) rfl
  refine lv_iload_n S.1 S.2.1 d_B_band_46 rfl (lv_at hl 0 rfl) ?_
  exact m_iret S hlk hr rfl hw (⟨rfl, hC1, hf1⟩) (Nat.le_refl _) (Nat.le_refl _) d_B_band_47
set_option maxHeartbeats 4000000 in
set_option maxRecDepth 100000 in
theorem c_B_clearing (l : Launch) (γ : mG) (M : mMap) (β : BK) (oa cp : Nat → Nat) (L : Nat → List Nat) (σ : St) (hC : CB γ M β oa cp L σ) (hI : Inv0 σ) (hL : LN σ L) (w0 : Int32) (hv : rg 0 2 w0 = true) : Met l y_B_clearing w_B_clearing ({ frames := 5, cells := 0, slots := 0, locals := 117 } : Room) (mPc γ M [.ref (bx β), .int w0]) (mQl γ (fun r M' => r = clr (aAt (sI σ) (L 1) (L 2) (srf σ) 2000) w0 ∧ CB γ M' β oa cp L σ ∧ frW M M')) 0 0 (mA (gz γ)) := by
  refine m_enter (by decide) (Nat.le_of_ble_eq_true rfl) ?_
  intro p e s m below meth c ls S hr hlk hnm hl hw
  have hl : lv_has ls 2 [(0, .ref (bx β)), (1, .int w0)] := hl
  obtain ⟨r1, hA1⟩ := hC.list (j := 1) (Or.inl rfl)
  obtain ⟨r2, hA2⟩ := hC.list (j := 2) (Or.inr rfl)
  obtain ⟨a, ha⟩ := hC.auct
  refine lv_iload_n S.1 S.2.1 d_B_clearing_0 rfl (lv_at hl 1 rfl) ?_
  refine lv_if_lt (tgt := 9) S.1 S.2.1 d_B_clearing_1 rfl (fun h => absurd h (rg_l hv)) (fun _ => ?_)
  refine lv_iload_n S.1 S.2.1 d_B_clearing_4 rfl (lv_at hl 1 rfl) ?_
  refine lv_iconst (v := 2) S.1 S.2.1 d_B_clearing_5 (by decide) ?_
  refine lv_icmp_le (tgt := 17) S.1 S.2.1 d_B_clearing_6 rfl (fun _ => ?_) (fun h => absurd (Int32.not_lt.mp (rg_h hv)) h)
  refine lv_aload_n S.1 S.2.1 d_B_clearing_17 rfl (lv_at hl 0 rfl) ?_
  refine m_get S hw cl_B hC.book 4 (by decide) g149 (fun _ h => h) rfl d_B_clearing_18 ?_
  refine lv_aload_n S.1 S.2.1 d_B_clearing_21 rfl (lv_at hl 0 rfl) ?_
  refine m_get S hw cl_B hC.book 1 (by decide) g146 (fun _ h => h) rfl d_B_clearing_22 ?_
  refine m_get S hw cl_S (hC.side (Or.inl rfl)) 0 (by decide) g105 (fun _ h => h) rfl d_B_clearing_25 ?_
  refine lv_aload_n S.1 S.2.1 d_B_clearing_28 rfl (lv_at hl 0 rfl) ?_
  refine m_get S hw cl_B hC.book 2 (by decide) g147 (fun _ h => h) rfl d_B_clearing_29 ?_
  refine m_get S hw cl_S (hC.side (Or.inr rfl)) 0 (by decide) g105 (fun _ h => h) rfl d_B_clearing_32 ?_
  refine lv_aload_n S.1 S.2.1 d_B_clearing_35 rfl (lv_at hl 0 rfl) ?_
  refine m_get S hw cl_B hC.book 6 (by decide) g151 (fun _ h => h) rfl d_B_clearing_36 ?_
  refine m_cv hw (va_runV (As := [.ref (bal β 1), .ref (bal β 2), .int σ.2.1.2.1]) (rest := []) S (c_A_workOut l γ M (bau β) (bal β 1) (bal β 2) r1 r2 (cp 1) (cp 2) (sn σ) (L 1) (L 2) oa (sI σ) hC.ord hI.2.1 hI.1 a ha hA1 hA2 hL.1 hL.2 (srf σ)) (m_cwV 3 S g615 g616 g617 g47 g618 rfl rfl ⟨by decide +kernel, by decide +kernel, by decide +kernel⟩ ⟨(Nat.le_of_ble_eq_true rfl), (Nat.le_of_ble_eq_true rfl)⟩) (hw.preV ha cl_A.1) rfl rfl hl.1 rfl (lv_room (Nat.le_of_ble_eq_true rfl)) d_B_clearing_39 ⟨(Nat.zero_le _), (Nat.zero_le _)⟩) (fun M1 H locs hp hw => ?_)
  rw [hp] at hw
  obtain ⟨hC1, hf1⟩ := hC.setA (a := aAt (sI σ) (L 1) (L 2) (srf σ) 2000) (e := .inr (1, auc (aAt (sI σ) (L 1) (L 2) (srf σ) 2000))) rfl
  refine lv_iload_n S.1 S.2.1 d_B_clearing_42 rfl (lv_at hl 1 rfl) ?_
  refine lv_if_ne (tgt := 55) S.1 S.2.1 d_B_clearing_43 rfl (fun h43 => ?_) (fun h43 => ?_)
  · refine lv_iload_n S.1 S.2.1 d_B_clearing_55 rfl (lv_at hl 1 rfl) ?_
    refine lv_iconst (v := 1) S.1 S.2.1 d_B_clearing_56 (by decide) ?_
    refine lv_icmp_ne (tgt := 70) S.1 S.2.1 d_B_clearing_57 rfl (fun h57 => ?_) (fun h57 => ?_)
    · refine lv_aload_n S.1 S.2.1 d_B_clearing_70 rfl (lv_at hl 0 rfl) ?_
      refine m_get S hw cl_B hC1.book 4 (by decide) g149 (fun _ h => h) rfl d_B_clearing_71 ?_
      refine m_get S hw cl_A (mU_eq _ _ _) 2 (by decide) g137 (fun _ h => h) rfl d_B_clearing_74 ?_
      exact m_lret S hlk hr hw (⟨(show clr (aAt (sI σ) (L 1) (L 2) (srf σ) 2000) w0 = (aAt (sI σ) (L 1) (L 2) (srf σ) 2000).2.2 from by unfold clr; rw [if_neg h43, if_neg h57]).symm, hC1, hf1⟩) (Nat.le_refl _) (Nat.le_refl _) d_B_clearing_77
    · refine lv_aload_n S.1 S.2.1 d_B_clearing_60 rfl (lv_at hl 0 rfl) ?_
      refine m_get S hw cl_B hC1.book 4 (by decide) g149 (fun _ h => h) rfl d_B_clearing_61 ?_
      refine m_get S hw cl_A (mU_eq _ _ _) 1 (by decide) g135 (fun _ h => h) rfl d_B_clearing_64 ?_
      refine lv_goto (tgt := 77) S.1 S.2.1 d_B_clearing_67 rfl ?_
      exact m_lret S hlk hr hw (⟨(show clr (aAt (sI σ) (L 1) (L 2) (srf σ) 2000) w0 = (aAt (sI σ) (L 1) (L 2) (srf σ) 2000).2.1 from by unfold clr; rw [if_neg h43, if_pos h57]).symm, hC1, hf1⟩) (Nat.le_refl _) (Nat.le_refl _) d_B_clearing_77
  · refine lv_aload_n S.1 S.2.1 d_B_clearing_46 rfl (lv_at hl 0 rfl) ?_
    refine m_get S hw cl_B hC1.book 4 (by decide) g149 (fun _ h => h) rfl d_B_clearing_47 ?_
    refine m_get S hw cl_A (mU_eq _ _ _) 0 (by decide) g133 (fun _ h => h) rfl d_B_clearing_50 ?_
    refine lv_i2l S.1 S.2.1 d_B_clearing_53 rfl ?_
    exact m_lret S hlk hr hw (⟨(show clr (aAt (sI σ) (L 1) (L 2) (srf σ) 2000) w0 = ((aAt (sI σ) (L 1) (L 2) (srf σ) 2000).1).toInt64 from by unfold clr; rw [if_pos h43]).symm, hC1, hf1⟩) (Nat.le_refl _) (Nat.le_refl _) d_B_clearing_54
set_option maxHeartbeats 4000000 in
set_option maxRecDepth 100000 in
theorem c_B_known (l : Launch) (γ : mG) (M : mMap) (β : BK) (oa cp : Nat → Nat) (L : Nat → List Nat) (σ : St) (hC : CB γ M β oa cp L σ) (hn : sn σ ≤ 250) (k : Nat) (hk : k < sn σ) : Met l y_B_known w_B_known ({ frames := 3, cells := 0, slots := 0, locals := 64 } : Room) (mPc γ M [.ref (bx β), .int (nI k)]) (mQq γ (fun r M' => r = some (oa k) ∧ M' = M)) 0 0 (mA (gz γ)) := by
  refine m_enter (by decide) (Nat.le_of_ble_eq_true rfl) ?_
  intro p e s m below meth c ls S hr hlk hnm hl hw
  have hl : lv_has ls 2 [(0, .ref (bx β)), (1, .int (nI k))] := hl
  obtain ⟨r0, hA0⟩ := hC.alls
  obtain ⟨⟨md0, hl0⟩, -⟩ := id hA0
  have hml : ((List.range (sn σ)).map oa).length = sn σ := rg_len
  have hge := rg_at (f := oa) hk
  refine lv_iload_n S.1 S.2.1 d_B_known_0 rfl (lv_at hl 1 rfl) ?_
  refine lv_if_lt (tgt := 15) S.1 S.2.1 d_B_known_1 rfl (fun h => absurd h (nI_pos (by omega))) (fun _ => ?_)
  refine lv_iload_n S.1 S.2.1 d_B_known_4 rfl (lv_at hl 1 rfl) ?_
  refine lv_aload_n S.1 S.2.1 d_B_known_5 rfl (lv_at hl 0 rfl) ?_
  refine m_get S hw cl_B hC.book 0 (by decide) g145 (fun _ h => h) rfl d_B_known_6 ?_
  refine m_ci hw (va_runV (As := []) (rest := [.int (nI k)]) S (c_AL_size l γ M (bal β 0) md0 _ _ hl0) (m_cwV 0 S g185 g186 g187 g44 g188 rfl rfl ⟨by decide +kernel, by decide +kernel, by decide +kernel⟩ ⟨(Nat.le_of_ble_eq_true rfl), (Nat.le_of_ble_eq_true rfl)⟩) (hw.preV hl0 cl_AL.1) rfl rfl hl.1 rfl (lv_room (Nat.le_of_ble_eq_true rfl)) d_B_known_9 ⟨(Nat.zero_le _), (Nat.zero_le _)⟩) (fun r1 M1 H locs hp hw => ?_)
  obtain ⟨rfl, hM1⟩ := hp
  rw [hM1] at hw
  refine lv_icmp_lt (tgt := 23) S.1 S.2.1 d_B_known_12 rfl (fun _ => ?_) (fun h => absurd (nI_lt (by omega) (by omega)) h)
  refine lv_aload_n S.1 S.2.1 d_B_known_23 rfl (lv_at hl 0 rfl) ?_
  refine m_get S hw cl_B hC.book 0 (by decide) g145 (fun _ h => h) rfl d_B_known_24 ?_
  refine lv_iload_n S.1 S.2.1 d_B_known_27 rfl (lv_at hl 1 rfl) ?_
  refine m_cq hw (va_runV (As := [.int (nI k)]) (rest := []) S (c_AL_get l γ M (bal β 0) r0 (cp 0) ((List.range (sn σ)).map oa) hA0 k (by omega)) (m_cwV 1 S g189 g190 g191 g44 g192 rfl rfl ⟨by decide +kernel, by decide +kernel, by decide +kernel⟩ ⟨(Nat.le_of_ble_eq_true rfl), (Nat.le_of_ble_eq_true rfl)⟩) (hw.preV hl0 cl_AL.1) rfl rfl hl.1 rfl (lv_room (Nat.le_of_ble_eq_true rfl)) d_B_known_28 ⟨(Nat.zero_le _), (Nat.zero_le _)⟩) (fun r1 M1 H locs hp hw => ?_)
  obtain ⟨rfl, hM1⟩ := hp
  rw [hM1] at hw
  refine W.eq (g2 := F0 m 31 ls [.ref (oa k)]) (by rw [hge]; rfl) ?_
  refine m_cast S hw cl_O (hC.ord k hk) g203 d_B_known_31 ?_
  exact m_aret (r := (some (oa k))) S hlk hr (Or.inl ⟨_, rfl⟩) hw (⟨rfl, rfl⟩) (Nat.le_refl _) (Nat.le_refl _) d_B_known_34
set_option maxHeartbeats 4000000 in
set_option maxRecDepth 100000 in
theorem c_B_order (l : Launch) (γ : mG) (M : mMap) (β : BK) (oa cp : Nat → Nat) (L : Nat → List Nat) (σ : St) (hC : CB γ M β oa cp L σ) (hI : Inv0 σ) (k : Nat) (hk : k < sn σ) (w0 : Int32) (hv : rg 0 8 w0 = true) : Met l y_B_order w_B_order ({ frames := 4, cells := 0, slots := 0, locals := 85 } : Room) (mPc γ M [.ref (bx β), .int (nI k), .int w0]) (mQi γ (fun r M' => r = och (sI σ) k w0 ∧ M' = M)) 0 0 (mA (gz γ)) := by
  refine m_enter (by decide) (Nat.le_of_ble_eq_true rfl) ?_
  intro p e s m below meth c ls S hr hlk hnm hl hw
  have hl : lv_has ls 4 [(0, .ref (bx β)), (1, .int (nI k)), (2, .int w0)] := hl
  have hn := hI.1
  have hOk := hC.ord k hk
  have hsd := (hI.2.1.1 k hk).2.2
  refine lv_aload_n S.1 S.2.1 d_B_order_0 rfl (lv_at hl 0 rfl) ?_
  refine lv_iload_n S.1 S.2.1 d_B_order_1 rfl (lv_at hl 1 rfl) ?_
  refine m_cq hw (va_runV (As := [.int (nI k)]) (rest := []) S (c_B_known l γ M β oa cp L σ hC hn k hk) (m_cwV 1 S g586 g588 g18 g41 g589 rfl rfl ⟨by decide +kernel, by decide +kernel, by decide +kernel⟩ ⟨(Nat.le_of_ble_eq_true rfl), (Nat.le_of_ble_eq_true rfl)⟩) (hw.preV hC.book cl_B.1) rfl rfl hl.1 rfl (lv_room (Nat.le_of_ble_eq_true rfl)) d_B_order_2 ⟨(Nat.zero_le _), (Nat.zero_le _)⟩) (fun r1 M1 H locs hp hw => ?_)
  obtain ⟨rfl, hM1⟩ := hp
  rw [hM1] at hw
  refine W.eq (g2 := F0 m 5 ls [.ref (oa k)]) rfl ?_
  refine lv_astore_n S.1 S.2.1 d_B_order_5 rfl hl (by decide) rfl (fun ls hl => ?_)
  have hl : lv_has ls 4 [(3, .ref (oa k)), (0, .ref (bx β)), (1, .int (nI k)), (2, .int w0)] := hl
  refine lv_iload_n S.1 S.2.1 d_B_order_6 rfl (lv_at hl 3 rfl) ?_
  by_cases hs0 : w0 = 0
  · refine lv_tableIn (off := 49) (tgt := 56) S.1 S.2.1 d_B_order_7 (by rw [hs0]; decide) (by rw [hs0]; decide) (by rw [hs0]; decide) (by decide) ?_
    refine lv_aload_n S.1 S.2.1 d_B_order_56 rfl (lv_at hl 0 rfl) ?_
    refine m_get S hw cl_O hOk 1 (by decide) g387 (fun _ h => h) rfl d_B_order_57 ?_
    exact m_iret S hlk hr rfl hw (⟨(show och (sI σ) k w0 = (sI σ) 0 k from by rw [hs0]; rfl).symm, rfl⟩) (Nat.le_refl _) (Nat.le_refl _) d_B_order_60
  by_cases hs1 : w0 = 1
  · refine lv_tableIn (off := 54) (tgt := 61) S.1 S.2.1 d_B_order_7 (by rw [hs1]; decide) (by rw [hs1]; decide) (by rw [hs1]; decide) (by decide) ?_
    refine lv_aload_n S.1 S.2.1 d_B_order_61 rfl (lv_at hl 0 rfl) ?_
    refine m_get S hw cl_O hOk 2 (by decide) g389 (fun _ h => h) rfl d_B_order_62 ?_
    refine lv_if_eq (tgt := 72) S.1 S.2.1 d_B_order_65 rfl (fun h65 => ?_) (fun h65 => ?_)
    · refine lv_iconst (v := 0) S.1 S.2.1 d_B_order_72 (by decide) ?_
      exact m_iret S hlk hr rfl hw (⟨(show och (sI σ) k w0 = 0 from by rw [hs1]; show sI σ 1 k = 0; exact h65).symm, rfl⟩) (Nat.le_refl _) (Nat.le_refl _) d_B_order_73
    · refine lv_iconst (v := 1) S.1 S.2.1 d_B_order_68 (by decide) ?_
      refine lv_goto (tgt := 73) S.1 S.2.1 d_B_order_69 rfl ?_
      exact m_iret S hlk hr rfl hw (⟨(show och (sI σ) k w0 = 1 from by rw [hs1]; show sI σ 1 k = 1; exact hsd.resolve_left h65).symm, rfl⟩) (Nat.le_refl _) (Nat.le_refl _) d_B_order_73
  by_cases hs2 : w0 = 2
  · refine lv_tableIn (off := 67) (tgt := 74) S.1 S.2.1 d_B_order_7 (by rw [hs2]; decide) (by rw [hs2]; decide) (by rw [hs2]; decide) (by decide) ?_
    refine lv_aload_n S.1 S.2.1 d_B_order_74 rfl (lv_at hl 0 rfl) ?_
    refine m_get S hw cl_O hOk 5 (by decide) g395 (fun _ h => h) rfl d_B_order_75 ?_
    exact m_iret S hlk hr rfl hw (⟨(show och (sI σ) k w0 = (sI σ) 2 k from by rw [hs2]; rfl).symm, rfl⟩) (Nat.le_refl _) (Nat.le_refl _) d_B_order_78
  by_cases hs3 : w0 = 3
  · refine lv_tableIn (off := 72) (tgt := 79) S.1 S.2.1 d_B_order_7 (by rw [hs3]; decide) (by rw [hs3]; decide) (by rw [hs3]; decide) (by decide) ?_
    refine lv_aload_n S.1 S.2.1 d_B_order_79 rfl (lv_at hl 0 rfl) ?_
    refine m_get S hw cl_O hOk 6 (by decide) g398 (fun _ h => h) rfl d_B_order_80 ?_
    exact m_iret S hlk hr rfl hw (⟨(show och (sI σ) k w0 = (sI σ) 3 k from by rw [hs3]; rfl).symm, rfl⟩) (Nat.le_refl _) (Nat.le_refl _) d_B_order_83
  by_cases hs4 : w0 = 4
  · refine lv_tableIn (off := 77) (tgt := 84) S.1 S.2.1 d_B_order_7 (by rw [hs4]; decide) (by rw [hs4]; decide) (by rw [hs4]; decide) (by decide) ?_
    refine lv_aload_n S.1 S.2.1 d_B_order_84 rfl (lv_at hl 0 rfl) ?_
    refine m_get S hw cl_O hOk 7 (by decide) g400 (fun _ h => h) rfl d_B_order_85 ?_
    exact m_iret S hlk hr rfl hw (⟨(show och (sI σ) k w0 = (sI σ) 4 k from by rw [hs4]; rfl).symm, rfl⟩) (Nat.le_refl _) (Nat.le_refl _) d_B_order_88
  by_cases hs5 : w0 = 5
  · refine lv_tableIn (off := 82) (tgt := 89) S.1 S.2.1 d_B_order_7 (by rw [hs5]; decide) (by rw [hs5]; decide) (by rw [hs5]; decide) (by decide) ?_
    refine lv_aload_n S.1 S.2.1 d_B_order_89 rfl (lv_at hl 0 rfl) ?_
    refine m_get S hw cl_O hOk 8 (by decide) g403 (fun _ h => h) rfl d_B_order_90 ?_
    exact m_iret S hlk hr rfl hw (⟨(show och (sI σ) k w0 = (sI σ) 5 k from by rw [hs5]; rfl).symm, rfl⟩) (Nat.le_refl _) (Nat.le_refl _) d_B_order_93
  by_cases hs6 : w0 = 6
  · refine lv_tableIn (off := 87) (tgt := 94) S.1 S.2.1 d_B_order_7 (by rw [hs6]; decide) (by rw [hs6]; decide) (by rw [hs6]; decide) (by decide) ?_
    refine lv_aload_n S.1 S.2.1 d_B_order_94 rfl (lv_at hl 0 rfl) ?_
    refine m_get S hw cl_O hOk 4 (by decide) g393 (fun _ h => h) rfl d_B_order_95 ?_
    exact m_iret S hlk hr rfl hw (⟨(show och (sI σ) k w0 = (sI σ) 6 k from by rw [hs6]; rfl).symm, rfl⟩) (Nat.le_refl _) (Nat.le_refl _) d_B_order_98
  by_cases hs7 : w0 = 7
  · refine lv_tableIn (off := 92) (tgt := 99) S.1 S.2.1 d_B_order_7 (by rw [hs7]; decide) (by rw [hs7]; decide) (by rw [hs7]; decide) (by decide) ?_
    refine lv_aload_n S.1 S.2.1 d_B_order_99 rfl (lv_at hl 0 rfl) ?_
    refine m_get S hw cl_O hOk 9 (by decide) g405 (fun _ h => h) rfl d_B_order_100 ?_
    exact m_iret S hlk hr rfl hw (⟨(show och (sI σ) k w0 = (sI σ) 7 k from by rw [hs7]; rfl).symm, rfl⟩) (Nat.le_refl _) (Nat.le_refl _) d_B_order_103
  by_cases hs8 : w0 = 8
  · refine lv_tableIn (off := 97) (tgt := 104) S.1 S.2.1 d_B_order_7 (by rw [hs8]; decide) (by rw [hs8]; decide) (by rw [hs8]; decide) (by decide) ?_
    refine lv_aload_n S.1 S.2.1 d_B_order_104 rfl (lv_at hl 0 rfl) ?_
    refine m_get S hw cl_O hOk 3 (by decide) g391 (fun _ h => h) rfl d_B_order_105 ?_
    exact m_iret S hlk hr rfl hw (⟨(show och (sI σ) k w0 = (sI σ) 8 k from by rw [hs8]; rfl).symm, rfl⟩) (Nat.le_refl _) (Nat.le_refl _) d_B_order_108
  refine lv_tableOut (tgt := 109) S.1 S.2.1 d_B_order_7 (by have q0 := lv_neT hs0 (show (0 : Int32).toInt = 0 by decide); have q1 := lv_neT hs1 (show (1 : Int32).toInt = 1 by decide); have q2 := lv_neT hs2 (show (2 : Int32).toInt = 2 by decide); have q3 := lv_neT hs3 (show (3 : Int32).toInt = 3 by decide); have q4 := lv_neT hs4 (show (4 : Int32).toInt = 4 by decide); have q5 := lv_neT hs5 (show (5 : Int32).toInt = 5 by decide); have q6 := lv_neT hs6 (show (6 : Int32).toInt = 6 by decide); have q7 := lv_neT hs7 (show (7 : Int32).toInt = 7 by decide); have q8 := lv_neT hs8 (show (8 : Int32).toInt = 8 by decide); omega) (by decide) ?_
  exfalso
  have hv9 := rg_i hv
  rw [show (0 : Int32).toInt = 0 by decide, show (8 : Int32).toInt = 8 by decide] at hv9
  have q0 := lv_neT hs0 (show (0 : Int32).toInt = 0 by decide)
  have q1 := lv_neT hs1 (show (1 : Int32).toInt = 1 by decide)
  have q2 := lv_neT hs2 (show (2 : Int32).toInt = 2 by decide)
  have q3 := lv_neT hs3 (show (3 : Int32).toInt = 3 by decide)
  have q4 := lv_neT hs4 (show (4 : Int32).toInt = 4 by decide)
  have q5 := lv_neT hs5 (show (5 : Int32).toInt = 5 by decide)
  have q6 := lv_neT hs6 (show (6 : Int32).toInt = 6 by decide)
  have q7 := lv_neT hs7 (show (7 : Int32).toInt = 7 by decide)
  have q8 := lv_neT hs8 (show (8 : Int32).toInt = 8 by decide)
  omega
set_option maxHeartbeats 4000000 in
set_option maxRecDepth 100000 in
theorem c_B_depth (l : Launch) (γ : mG) (M : mMap) (β : BK) (oa cp : Nat → Nat) (L : Nat → List Nat) (σ : St) (hC : CB γ M β oa cp L σ) (hI : Inv0 σ) (hL : LN σ L) (b0 : Int32) (hb0 : b0 = 0 ∨ b0 = 1) (p0 f0 : Int32) (hv : rg 0 2000 p0 = true) : Met l y_B_depth w_B_depth ({ frames := 3, cells := 0, slots := 0, locals := 64 } : Room) (mPc γ M [.ref (bx β), .int b0, .int p0, .int f0]) (mQl γ (fun r M' => r = dS (sI σ) f0 p0 (L (sj b0)) ∧ M' = M)) 0 0 (mA (gz γ)) := by
  refine m_enter (by decide) (Nat.le_of_ble_eq_true rfl) ?_
  intro p e s m below meth c ls S hr hlk hnm hl hw
  have hl : lv_has ls 9 [(0, .ref (bx β)), (1, .int b0), (2, .int p0), (3, .int f0)] := hl
  obtain ⟨r0, hA0⟩ := hC.list (sj_or b0)
  obtain ⟨⟨md0, hl0⟩, -⟩ := id hA0
  have hLj : Line (sI σ) (sn σ) b0 (L (sj b0)) := sj_val hb0 hL
  have hml : ((L (sj b0)).map oa).length = (L (sj b0)).length := List.length_map _
  have hlen : (L (sj b0)).length ≤ 250 := hLj.len hI.1
  refine lv_iload_n S.1 S.2.1 d_B_depth_0 rfl (lv_at hl 2 rfl) ?_
  refine m_ci hw (va_runS (As := [.int p0]) (rest := []) S (c_B_isPriceOrMarket l γ M p0) (m_cwS 1 S g286 g287 g41 g288 rfl rfl ⟨by decide +kernel, by decide +kernel, by decide +kernel⟩ ⟨(Nat.le_of_ble_eq_true rfl), (Nat.le_of_ble_eq_true rfl)⟩) hw.preS rfl rfl hl.1 rfl (lv_room (Nat.le_of_ble_eq_true rfl)) d_B_depth_1 ⟨(Nat.zero_le _), (Nat.zero_le _)⟩) (fun r1 M1 H locs hp hw => ?_)
  obtain ⟨rfl, hM1⟩ := hp
  rw [hM1] at hw
  refine lv_if_ne (tgt := 15) S.1 S.2.1 d_B_depth_4 rfl (fun _ => ?_) (fun h => absurd h (b2i_n0.mpr hv))
  refine lv_aload_n S.1 S.2.1 d_B_depth_15 rfl (lv_at hl 0 rfl) ?_
  refine lv_iload_n S.1 S.2.1 d_B_depth_16 rfl (lv_at hl 1 rfl) ?_
  refine m_cq hw (va_runV (As := [.int b0]) (rest := []) S (c_B_side l γ M β σ.2.1 hC.book b0) (m_cwV 1 S g181 g183 g0 g41 g184 rfl rfl ⟨by decide +kernel, by decide +kernel, by decide +kernel⟩ ⟨(Nat.le_of_ble_eq_true rfl), (Nat.le_of_ble_eq_true rfl)⟩) (hw.preV hC.book cl_B.1) rfl rfl hl.1 rfl (lv_room (Nat.le_of_ble_eq_true rfl)) d_B_depth_17 ⟨(Nat.zero_le _), (Nat.zero_le _)⟩) (fun r1 M1 H locs hp hw => ?_)
  obtain ⟨rfl, hM1⟩ := hp
  rw [hM1] at hw
  refine m_get S hw cl_S (hC.side (sj_or _)) 0 (by decide) g105 (fun _ h => h) rfl d_B_depth_20 ?_
  refine lv_astore S.1 S.2.1 d_B_depth_23 hl (by decide) rfl (fun ls hl => ?_)
  have hl : lv_has ls 9 [(4, .ref (bal β (sj b0))), (0, .ref (bx β)), (1, .int b0), (2, .int p0), (3, .int f0)] := hl
  refine lv_lconst (v := 0) S.1 S.2.1 d_B_depth_25 (by decide) ?_
  refine lv_lstore S.1 S.2.1 d_B_depth_26 hl (by decide) rfl (fun ls hl => ?_)
  have hl : lv_has ls 9 [(5, .long 0), (4, .ref (bal β (sj b0))), (0, .ref (bx β)), (1, .int b0), (2, .int p0), (3, .int f0)] := hl
  refine lv_iconst (v := 0) S.1 S.2.1 d_B_depth_28 (by decide) ?_
  refine lv_istore S.1 S.2.1 d_B_depth_29 hl (by decide) rfl (fun ls hl => ?_)
  have hl : lv_has ls 9 [(7, .int 0), (5, .long 0), (4, .ref (bal β (sj b0))), (0, .ref (bx β)), (1, .int b0), (2, .int p0), (3, .int f0)] := hl
  have loop : ∀ (d i0 : Nat) (a : Int64) (H : Heap) (locs : List Loc) (ls : Array Slot), i0 + d = (L (sj b0)).length → a = dS (sI σ) f0 p0 ((L (sj b0)).take i0) → lv_has ls 9 [(7, .int (nI i0)), (5, .long a), (4, .ref (bal β (sj b0))), (2, .int p0), (3, .int f0)] → mW γ M s H locs → W p l e ({ frames := 3, cells := 0, slots := 0, locals := 64 } : Room) s m #[.ref (bx β), .int b0, .int p0, .int f0] below meth c H locs 0 0 (MQ below (mQl γ (fun r M' => r = dS (sI σ) f0 p0 (L (sj b0)) ∧ M' = M)) #[.ref (bx β), .int b0, .int p0, .int f0] s 0 0 (mA (gz γ))) (F0 m 31 ls []) := by
    intro d
    induction d with
    | zero =>
      intro i0 a H locs ls hi ha hl hw
      refine lv_iload S.1 S.2.1 d_B_depth_31 (lv_at hl 0 rfl) ?_
      refine lv_aload S.1 S.2.1 d_B_depth_33 (lv_at hl 2 rfl) ?_
      refine m_ci hw (va_runV (As := []) (rest := [.int (nI i0)]) S (c_AL_size l γ M (bal β (sj b0)) md0 _ _ hl0) (m_cwV 0 S g185 g186 g187 g44 g188 rfl rfl ⟨by decide +kernel, by decide +kernel, by decide +kernel⟩ ⟨(Nat.le_of_ble_eq_true rfl), (Nat.le_of_ble_eq_true rfl)⟩) (hw.preV hl0 cl_AL.1) rfl rfl hl.1 rfl (lv_room (Nat.le_of_ble_eq_true rfl)) d_B_depth_35 ⟨(Nat.zero_le _), (Nat.zero_le _)⟩) (fun r1 M1 H locs hp hw => ?_)
      obtain ⟨rfl, hM1⟩ := hp
      rw [hM1] at hw
      refine lv_icmp_ge (tgt := 92) S.1 S.2.1 d_B_depth_38 rfl (fun _ => ?_) (fun h => absurd (nI_le (by omega) (by omega)) h)
      refine lv_lload S.1 S.2.1 d_B_depth_92 (lv_at hl 1 rfl) ?_
      exact m_lret S hlk hr hw (⟨by rw [ha, List.take_of_length_le (by omega)], rfl⟩) (Nat.le_refl _) (Nat.le_refl _) d_B_depth_94
    | succ d ih =>
      intro i0 a H locs ls hi ha hl hw
      have hbd : i0 < (L (sj b0)).length := by omega
      have hm := (hLj.1 (L (sj b0))[i0]).mp (List.getElem_mem hbd)
      refine lv_iload S.1 S.2.1 d_B_depth_31 (lv_at hl 0 rfl) ?_
      refine lv_aload S.1 S.2.1 d_B_depth_33 (lv_at hl 2 rfl) ?_
      refine m_ci hw (va_runV (As := []) (rest := [.int (nI i0)]) S (c_AL_size l γ M (bal β (sj b0)) md0 _ _ hl0) (m_cwV 0 S g185 g186 g187 g44 g188 rfl rfl ⟨by decide +kernel, by decide +kernel, by decide +kernel⟩ ⟨(Nat.le_of_ble_eq_true rfl), (Nat.le_of_ble_eq_true rfl)⟩) (hw.preV hl0 cl_AL.1) rfl rfl hl.1 rfl (lv_room (Nat.le_of_ble_eq_true rfl)) d_B_depth_35 ⟨(Nat.zero_le _), (Nat.zero_le _)⟩) (fun r1 M1 H locs hp hw => ?_)
      obtain ⟨rfl, hM1⟩ := hp
      rw [hM1] at hw
      refine lv_icmp_ge (tgt := 92) S.1 S.2.1 d_B_depth_38 rfl (fun h => absurd h (nI_ge (by omega) (by omega))) (fun _ => ?_)
      refine lv_aload S.1 S.2.1 d_B_depth_41 (lv_at hl 2 rfl) ?_
      refine lv_iload S.1 S.2.1 d_B_depth_43 (lv_at hl 0 rfl) ?_
      refine m_cq hw (va_runV (As := [.int (nI i0)]) (rest := []) S (c_AL_get l γ M (bal β (sj b0)) r0 (cp (sj b0)) ((L (sj b0)).map oa) hA0 i0 (by omega)) (m_cwV 1 S g189 g190 g191 g44 g192 rfl rfl ⟨by decide +kernel, by decide +kernel, by decide +kernel⟩ ⟨(Nat.le_of_ble_eq_true rfl), (Nat.le_of_ble_eq_true rfl)⟩) (hw.preV hl0 cl_AL.1) rfl rfl hl.1 rfl (lv_room (Nat.le_of_ble_eq_true rfl)) d_B_depth_45 ⟨(Nat.zero_le _), (Nat.zero_le _)⟩) (fun r1 M1 H locs hp hw => ?_)
      obtain ⟨rfl, hM1⟩ := hp
      rw [hM1] at hw
      have hge := map_at (oa := oa) hbd
      refine W.eq (g2 := F0 m 48 ls [.ref (oa (L (sj b0))[i0])]) (by rw [hge]; rfl) ?_
      refine m_cast S hw cl_O (hC.ord _ hm.1) g203 d_B_depth_48 ?_
      refine lv_astore S.1 S.2.1 d_B_depth_51 hl (by decide) rfl (fun ls hl => ?_)
      have hl : lv_has ls 9 [(8, .ref (oa (L (sj b0))[i0])), (7, .int (nI i0)), (5, .long a), (4, .ref (bal β (sj b0))), (2, .int p0), (3, .int f0)] := hl
      refine lv_aload S.1 S.2.1 d_B_depth_53 (lv_at hl 0 rfl) ?_
      refine m_get S hw cl_O (hC.ord _ hm.1) 5 (by decide) g395 (fun _ h => h) rfl d_B_depth_55 ?_
      refine lv_iload_n S.1 S.2.1 d_B_depth_58 rfl (lv_at hl 4 rfl) ?_
      refine lv_icmp_ne (tgt := 86) S.1 S.2.1 d_B_depth_59 rfl (fun h59 => ?_) (fun h59 => ?_)
      · refine lv_iinc (k := 1) (v := nI (i0 + 1)) S.1 S.2.1 d_B_depth_86 hl rfl (nI_1 i0) (by decide) rfl (fun ls hl => ?_)
        have hl : lv_has ls 9 [(7, .int (nI (i0 + 1))), (8, .ref (oa (L (sj b0))[i0])), (5, .long a), (4, .ref (bal β (sj b0))), (2, .int p0), (3, .int f0)] := hl
        refine lv_goto (tgt := 31) S.1 S.2.1 d_B_depth_89 rfl ?_
        have hl := lv_sub hl [0, 2, 3, 4, 5] rfl
        exact ih (i0 + 1) _ H locs ls (by omega) (by rw [dS_up hbd, ha, if_neg h59, Int64.add_zero]) hl hw
      · refine lv_lload S.1 S.2.1 d_B_depth_62 (lv_at hl 2 rfl) ?_
        refine lv_iload_n S.1 S.2.1 d_B_depth_64 rfl (lv_at hl 5 rfl) ?_
        refine lv_if_eq (tgt := 77) S.1 S.2.1 d_B_depth_65 rfl (fun h65 => ?_) (fun h65 => ?_)
        · refine lv_aload S.1 S.2.1 d_B_depth_77 (lv_at hl 0 rfl) ?_
          refine m_get S hw cl_O (hC.ord _ hm.1) 7 (by decide) g400 (fun _ h => h) rfl d_B_depth_79 ?_
          refine lv_i2l S.1 S.2.1 d_B_depth_82 rfl ?_
          refine lv_ladd S.1 S.2.1 d_B_depth_83 ?_
          refine lv_lstore S.1 S.2.1 d_B_depth_84 hl (by decide) rfl (fun ls hl => ?_)
          have hl : lv_has ls 9 [(5, .long (a + (((sI σ) 4 ((L (sj b0))[i0])).toInt64))), (8, .ref (oa (L (sj b0))[i0])), (7, .int (nI i0)), (4, .ref (bal β (sj b0))), (2, .int p0), (3, .int f0)] := hl
          refine lv_iinc (k := 2) (v := nI (i0 + 1)) S.1 S.2.1 d_B_depth_86 hl rfl (nI_1 i0) (by decide) rfl (fun ls hl => ?_)
          have hl : lv_has ls 9 [(7, .int (nI (i0 + 1))), (5, .long (a + (((sI σ) 4 ((L (sj b0))[i0])).toInt64))), (8, .ref (oa (L (sj b0))[i0])), (4, .ref (bal β (sj b0))), (2, .int p0), (3, .int f0)] := hl
          refine lv_goto (tgt := 31) S.1 S.2.1 d_B_depth_89 rfl ?_
          have hl := lv_sub hl [0, 1, 3, 4, 5] rfl
          exact ih (i0 + 1) _ H locs ls (by omega) (by rw [dS_up hbd, ha, if_pos h59, if_pos h65]) hl hw
        · refine lv_aload S.1 S.2.1 d_B_depth_68 (lv_at hl 0 rfl) ?_
          refine m_get S hw cl_O (hC.ord _ hm.1) 6 (by decide) g398 (fun _ h => h) rfl d_B_depth_70 ?_
          refine lv_i2l S.1 S.2.1 d_B_depth_73 rfl ?_
          refine lv_goto (tgt := 83) S.1 S.2.1 d_B_depth_74 rfl ?_
          refine lv_ladd S.1 S.2.1 d_B_depth_83 ?_
          refine lv_lstore S.1 S.2.1 d_B_depth_84 hl (by decide) rfl (fun ls hl => ?_)
          have hl : lv_has ls 9 [(5, .long (a + (((sI σ) 3 ((L (sj b0))[i0])).toInt64))), (8, .ref (oa (L (sj b0))[i0])), (7, .int (nI i0)), (4, .ref (bal β (sj b0))), (2, .int p0), (3, .int f0)] := hl
          refine lv_iinc (k := 2) (v := nI (i0 + 1)) S.1 S.2.1 d_B_depth_86 hl rfl (nI_1 i0) (by decide) rfl (fun ls hl => ?_)
          have hl : lv_has ls 9 [(7, .int (nI (i0 + 1))), (5, .long (a + (((sI σ) 3 ((L (sj b0))[i0])).toInt64))), (8, .ref (oa (L (sj b0))[i0])), (4, .ref (bal β (sj b0))), (2, .int p0), (3, .int f0)] := hl
          refine lv_goto (tgt := 31) S.1 S.2.1 d_B_depth_89 rfl ?_
          have hl := lv_sub hl [0, 1, 3, 4, 5] rfl
          exact ih (i0 + 1) _ H locs ls (by omega) (by rw [dS_up hbd, ha, if_pos h59, if_neg h65]) hl hw
  have hl := lv_sub hl [0, 1, 2, 5, 6] rfl
  exact loop _ 0 0 H locs ls (Nat.zero_add _) rfl hl hw
set_option maxHeartbeats 4000000 in
set_option maxRecDepth 100000 in
theorem c_B_cancel (l : Launch) (γ : mG) (M : mMap) (β : BK) (oa cp : Nat → Nat) (L : Nat → List Nat) (σ : St) (hC : CB γ M β oa cp L σ) (hI : Inv0 σ) (hL : LN σ L) (k : Nat) (hk : k < sn σ) (hr5 : ¬ sI σ 5 k = -1) : Met l y_B_cancel w_B_cancel ({ frames := 5, cells := 0, slots := 0, locals := 137 } : Room) (mPc γ M [.ref (bx β), .int (nI k)]) (mQi γ (fun r M' => r = sI σ 3 k ∧ ∃ L', CB γ M' β oa cp L' (xEnd σ k) ∧ Inv0 (xEnd σ k) ∧ LN (xEnd σ k) L' ∧ frC M M')) 0 0 (mA (gz γ)) := by
  refine m_enter (by decide) (Nat.le_of_ble_eq_true rfl) ?_
  intro p e s m below meth c ls S hr hlk hnm hl hw
  have hl : lv_has ls 4 [(0, .ref (bx β)), (1, .int (nI k))] := hl
  have hn := hI.1
  have hOk := hC.ord k hk
  refine lv_aload_n S.1 S.2.1 d_B_cancel_0 rfl (lv_at hl 0 rfl) ?_
  refine lv_iload_n S.1 S.2.1 d_B_cancel_1 rfl (lv_at hl 1 rfl) ?_
  refine m_cq hw (va_runV (As := [.int (nI k)]) (rest := []) S (c_B_known l γ M β oa cp L σ hC hn k hk) (m_cwV 1 S g586 g588 g18 g41 g589 rfl rfl ⟨by decide +kernel, by decide +kernel, by decide +kernel⟩ ⟨(Nat.le_of_ble_eq_true rfl), (Nat.le_of_ble_eq_true rfl)⟩) (hw.preV hC.book cl_B.1) rfl rfl hl.1 rfl (lv_room (Nat.le_of_ble_eq_true rfl)) d_B_cancel_2 ⟨(Nat.zero_le _), (Nat.zero_le _)⟩) (fun r1 M1 H locs hp hw => ?_)
  obtain ⟨rfl, hM1⟩ := hp
  rw [hM1] at hw
  refine W.eq (g2 := F0 m 5 ls [.ref (oa k)]) rfl ?_
  refine lv_astore_n S.1 S.2.1 d_B_cancel_5 rfl hl (by decide) rfl (fun ls hl => ?_)
  have hl : lv_has ls 4 [(2, .ref (oa k)), (0, .ref (bx β)), (1, .int (nI k))] := hl
  refine lv_aload_n S.1 S.2.1 d_B_cancel_6 rfl (lv_at hl 0 rfl) ?_
  refine m_ci hw (va_runV (As := []) (rest := []) S (c_O_rests l γ M (oa k) _ _ _ _ _ _ _ _ _ _ hOk) (m_cwV 0 S g270 g244 g245 g54 g246 rfl rfl ⟨by decide +kernel, by decide +kernel, by decide +kernel⟩ ⟨(Nat.le_of_ble_eq_true rfl), (Nat.le_of_ble_eq_true rfl)⟩) (hw.preV hOk cl_O.1) rfl rfl hl.1 rfl (lv_room (Nat.le_of_ble_eq_true rfl)) d_B_cancel_7 ⟨(Nat.zero_le _), (Nat.zero_le _)⟩) (fun r1 M1 H locs hp hw => ?_)
  obtain ⟨rfl, hM1⟩ := hp
  rw [hM1] at hw
  refine lv_if_ne (tgt := 21) S.1 S.2.1 d_B_cancel_10 rfl (fun _ => ?_) (fun h => absurd h (b2i_n0.mpr (decide_eq_true hr5)))
  refine lv_aload_n S.1 S.2.1 d_B_cancel_21 rfl (lv_at hl 0 rfl) ?_
  refine m_get S hw cl_O hOk 6 (by decide) g398 (fun _ h => h) rfl d_B_cancel_22 ?_
  refine lv_istore_n S.1 S.2.1 d_B_cancel_25 rfl hl (by decide) rfl (fun ls hl => ?_)
  have hl : lv_has ls 4 [(3, .int ((sI σ) 3 k)), (2, .ref (oa k)), (0, .ref (bx β)), (1, .int (nI k))] := hl
  refine lv_aload_n S.1 S.2.1 d_B_cancel_26 rfl (lv_at hl 2 rfl) ?_
  refine lv_aload_n S.1 S.2.1 d_B_cancel_27 rfl (lv_at hl 1 rfl) ?_
  refine m_cv hw (va_runV (As := [.ref (oa k)]) (rest := []) S (c_B_finish l γ M β oa cp L σ hC hI.b hL k hk) (m_cwV 1 S g563 g565 g16 g41 g566 rfl rfl ⟨by decide +kernel, by decide +kernel, by decide +kernel⟩ ⟨(Nat.le_of_ble_eq_true rfl), (Nat.le_of_ble_eq_true rfl)⟩) (hw.preV hC.book cl_B.1) rfl rfl hl.1 rfl (lv_room (Nat.le_of_ble_eq_true rfl)) d_B_cancel_28 ⟨(Nat.zero_le _), (Nat.zero_le _)⟩) (fun M1 H locs hp hw => ?_)
  obtain ⟨L3, hC3, hB3, hL3, hf3⟩ := hp
  refine lv_iload_n S.1 S.2.1 d_B_cancel_31 rfl (lv_at hl 0 rfl) ?_
  exact m_iret S hlk hr rfl hw (⟨rfl, L3, hC3, end_inv (hI.x k) hB3, hL3, hf3⟩) (Nat.le_refl _) (Nat.le_refl _) d_B_cancel_32
set_option maxHeartbeats 4000000 in
set_option maxRecDepth 100000 in
theorem c_B_cancelAll (l : Launch) (γ : mG) (M : mMap) (β : BK) (oa cp : Nat → Nat) (L : Nat → List Nat) (σ : St) (hC : CB γ M β oa cp L σ) (hI : Inv0 σ) (hL : LN σ L) (w0 : Int32) (hv : rg 0 9 w0 = true) : Met l y_B_cancelAll w_B_cancelAll ({ frames := 5, cells := 0, slots := 0, locals := 137 } : Room) (mPc γ M [.ref (bx β), .int w0]) (mQi γ (fun r M' => r = nI (xCan σ w0 (sn σ)).2 ∧ ∃ L', CB γ M' β oa cp L' (xCan σ w0 (sn σ)).1 ∧ Inv0 (xCan σ w0 (sn σ)).1 ∧ LN (xCan σ w0 (sn σ)).1 L' ∧ frC M M')) 0 0 (mA (gz γ)) := by
  refine m_enter (by decide) (Nat.le_of_ble_eq_true rfl) ?_
  intro p e s m below meth c ls S hr hlk hnm hl hw
  have hl : lv_has ls 5 [(0, .ref (bx β)), (1, .int w0)] := hl
  have hn := hI.1
  refine lv_iload_n S.1 S.2.1 d_B_cancelAll_0 rfl (lv_at hl 1 rfl) ?_
  refine m_ci hw (va_runS (As := [.int w0]) (rest := []) S (c_B_isOwner l γ M w0) (m_cwS 1 S g283 g284 g41 g285 rfl rfl ⟨by decide +kernel, by decide +kernel, by decide +kernel⟩ ⟨(Nat.le_of_ble_eq_true rfl), (Nat.le_of_ble_eq_true rfl)⟩) hw.preS rfl rfl hl.1 rfl (lv_room (Nat.le_of_ble_eq_true rfl)) d_B_cancelAll_1 ⟨(Nat.zero_le _), (Nat.zero_le _)⟩) (fun r1 M1 H locs hp hw => ?_)
  obtain ⟨rfl, hM1⟩ := hp
  rw [hM1] at hw
  refine lv_if_ne (tgt := 15) S.1 S.2.1 d_B_cancelAll_4 rfl (fun _ => ?_) (fun h => absurd h (b2i_n0.mpr hv))
  refine lv_iconst (v := 0) S.1 S.2.1 d_B_cancelAll_15 (by decide) ?_
  refine lv_istore_n S.1 S.2.1 d_B_cancelAll_16 rfl hl (by decide) rfl (fun ls hl => ?_)
  have hl : lv_has ls 5 [(2, .int 0), (0, .ref (bx β)), (1, .int w0)] := hl
  refine lv_iconst (v := 0) S.1 S.2.1 d_B_cancelAll_17 (by decide) ?_
  refine lv_istore_n S.1 S.2.1 d_B_cancelAll_18 rfl hl (by decide) rfl (fun ls hl => ?_)
  have hl : lv_has ls 5 [(3, .int 0), (2, .int 0), (0, .ref (bx β)), (1, .int w0)] := hl
  have loop : ∀ (d i0 : Nat) (M2 : mMap) (L2 : Nat → List Nat) (H : Heap) (locs : List Loc) (ls : Array Slot), i0 + d = sn σ → CB γ M2 β oa cp L2 (xCan σ w0 i0).1 → Inv0 (xCan σ w0 i0).1 → LN (xCan σ w0 i0).1 L2 → frC M M2 → lv_has ls 5 [(3, .int (nI i0)), (2, .int (nI (xCan σ w0 i0).2)), (0, .ref (bx β)), (1, .int w0)] → mW γ M2 s H locs → W p l e ({ frames := 5, cells := 0, slots := 0, locals := 137 } : Room) s m #[.ref (bx β), .int w0] below meth c H locs 0 0 (MQ below (mQi γ (fun r M' => r = nI (xCan σ w0 (sn σ)).2 ∧ ∃ L', CB γ M' β oa cp L' (xCan σ w0 (sn σ)).1 ∧ Inv0 (xCan σ w0 (sn σ)).1 ∧ LN (xCan σ w0 (sn σ)).1 L' ∧ frC M M')) #[.ref (bx β), .int w0] s 0 0 (mA (gz γ))) (F0 m 19 ls []) := by
    intro d
    induction d with
    | zero =>
      intro i0 M2 L2 H locs ls hi hC2 hI2 hL2 hf2 hl hw
      obtain ⟨hcs, hcc, hc2⟩ := can_sn σ w0 i0
      obtain ⟨r0, hA0⟩ := hC2.alls
      obtain ⟨⟨md0, hl0⟩, -⟩ := id hA0
      have hml : ((List.range (sn (xCan σ w0 i0).1)).map oa).length = sn σ := rg_len.trans hcs
      have hi2 : i0 = sn σ := by omega
      refine lv_iload_n S.1 S.2.1 d_B_cancelAll_19 rfl (lv_at hl 0 rfl) ?_
      refine lv_aload_n S.1 S.2.1 d_B_cancelAll_20 rfl (lv_at hl 2 rfl) ?_
      refine m_get S hw cl_B hC2.book 0 (by decide) g145 (fun _ h => h) rfl d_B_cancelAll_21 ?_
      refine m_ci hw (va_runV (As := []) (rest := [.int (nI i0)]) S (c_AL_size l γ M2 (bal β 0) md0 _ _ hl0) (m_cwV 0 S g185 g186 g187 g44 g188 rfl rfl ⟨by decide +kernel, by decide +kernel, by decide +kernel⟩ ⟨(Nat.le_of_ble_eq_true rfl), (Nat.le_of_ble_eq_true rfl)⟩) (hw.preV hl0 cl_AL.1) rfl rfl hl.1 rfl (lv_room (Nat.le_of_ble_eq_true rfl)) d_B_cancelAll_24 ⟨(Nat.zero_le _), (Nat.zero_le _)⟩) (fun r1 M1 H locs hp hw => ?_)
      obtain ⟨rfl, hM1⟩ := hp
      rw [hM1] at hw
      refine lv_icmp_ge (tgt := 75) S.1 S.2.1 d_B_cancelAll_27 rfl (fun _ => ?_) (fun h => absurd (nI_le (by omega) (by omega)) h)
      refine lv_iload_n S.1 S.2.1 d_B_cancelAll_75 rfl (lv_at hl 1 rfl) ?_
      exact m_iret S hlk hr rfl hw (⟨by rw [hi2], L2, by rw [← hi2]; exact hC2, by rw [← hi2]; exact hI2, by rw [← hi2]; exact hL2, hf2⟩) (Nat.le_refl _) (Nat.le_refl _) d_B_cancelAll_76
    | succ d ih =>
      intro i0 M2 L2 H locs ls hi hC2 hI2 hL2 hf2 hl hw
      obtain ⟨hcs, hcc, hc2⟩ := can_sn σ w0 i0
      obtain ⟨r0, hA0⟩ := hC2.alls
      obtain ⟨⟨md0, hl0⟩, -⟩ := id hA0
      have hml : ((List.range (sn (xCan σ w0 i0).1)).map oa).length = sn σ := rg_len.trans hcs
      have hbd : i0 < sn σ := by omega
      have hk : i0 < sn (xCan σ w0 i0).1 := by rw [hcs]; exact hbd
      have hge := rg_at (f := oa) hk
      have hOk := hC2.ord i0 hk
      refine lv_iload_n S.1 S.2.1 d_B_cancelAll_19 rfl (lv_at hl 0 rfl) ?_
      refine lv_aload_n S.1 S.2.1 d_B_cancelAll_20 rfl (lv_at hl 2 rfl) ?_
      refine m_get S hw cl_B hC2.book 0 (by decide) g145 (fun _ h => h) rfl d_B_cancelAll_21 ?_
      refine m_ci hw (va_runV (As := []) (rest := [.int (nI i0)]) S (c_AL_size l γ M2 (bal β 0) md0 _ _ hl0) (m_cwV 0 S g185 g186 g187 g44 g188 rfl rfl ⟨by decide +kernel, by decide +kernel, by decide +kernel⟩ ⟨(Nat.le_of_ble_eq_true rfl), (Nat.le_of_ble_eq_true rfl)⟩) (hw.preV hl0 cl_AL.1) rfl rfl hl.1 rfl (lv_room (Nat.le_of_ble_eq_true rfl)) d_B_cancelAll_24 ⟨(Nat.zero_le _), (Nat.zero_le _)⟩) (fun r1 M1 H locs hp hw => ?_)
      obtain ⟨rfl, hM1⟩ := hp
      rw [hM1] at hw
      refine lv_icmp_ge (tgt := 75) S.1 S.2.1 d_B_cancelAll_27 rfl (fun h => absurd h (nI_ge (by omega) (by omega))) (fun _ => ?_)
      refine lv_aload_n S.1 S.2.1 d_B_cancelAll_30 rfl (lv_at hl 2 rfl) ?_
      refine m_get S hw cl_B hC2.book 0 (by decide) g145 (fun _ h => h) rfl d_B_cancelAll_31 ?_
      refine lv_iload_n S.1 S.2.1 d_B_cancelAll_34 rfl (lv_at hl 0 rfl) ?_
      refine m_cq hw (va_runV (As := [.int (nI i0)]) (rest := []) S (c_AL_get l γ M2 (bal β 0) r0 (cp 0) ((List.range (sn (xCan σ w0 i0).1)).map oa) hA0 i0 (by omega)) (m_cwV 1 S g189 g190 g191 g44 g192 rfl rfl ⟨by decide +kernel, by decide +kernel, by decide +kernel⟩ ⟨(Nat.le_of_ble_eq_true rfl), (Nat.le_of_ble_eq_true rfl)⟩) (hw.preV hl0 cl_AL.1) rfl rfl hl.1 rfl (lv_room (Nat.le_of_ble_eq_true rfl)) d_B_cancelAll_35 ⟨(Nat.zero_le _), (Nat.zero_le _)⟩) (fun r1 M1 H locs hp hw => ?_)
      obtain ⟨rfl, hM1⟩ := hp
      rw [hM1] at hw
      refine W.eq (g2 := F0 m 38 ls [.ref (oa i0)]) (by rw [hge]; rfl) ?_
      refine m_cast S hw cl_O hOk g203 d_B_cancelAll_38 ?_
      refine lv_astore S.1 S.2.1 d_B_cancelAll_41 hl (by decide) rfl (fun ls hl => ?_)
      have hl : lv_has ls 5 [(4, .ref (oa i0)), (3, .int (nI i0)), (2, .int (nI (xCan σ w0 i0).2)), (0, .ref (bx β)), (1, .int w0)] := hl
      refine lv_aload S.1 S.2.1 d_B_cancelAll_43 (lv_at hl 0 rfl) ?_
      refine m_get S hw cl_O hOk 1 (by decide) g387 (fun _ h => h) rfl d_B_cancelAll_45 ?_
      refine lv_iload_n S.1 S.2.1 d_B_cancelAll_48 rfl (lv_at hl 4 rfl) ?_
      refine lv_icmp_ne (tgt := 69) S.1 S.2.1 d_B_cancelAll_49 rfl (fun h49 => ?_) (fun h49 => ?_)
      · refine lv_iinc (k := 1) (v := nI (i0 + 1)) S.1 S.2.1 d_B_cancelAll_69 hl rfl (nI_1 i0) (by decide) rfl (fun ls hl => ?_)
        have hl : lv_has ls 5 [(3, .int (nI (i0 + 1))), (4, .ref (oa i0)), (2, .int (nI (xCan σ w0 i0).2)), (0, .ref (bx β)), (1, .int w0)] := hl
        refine lv_goto (tgt := 19) S.1 S.2.1 d_B_cancelAll_72 rfl ?_
        have hl := lv_sub hl [0, 2, 3, 4] rfl
        have hX : xCan σ w0 (i0 + 1) = xCan σ w0 i0 := if_neg (fun z => h49 z.1)
        rw [← hX] at hC2 hI2 hL2 hl
        exact ih (i0 + 1) M2 L2 H locs ls (by omega) hC2 hI2 hL2 hf2 hl hw
      · refine lv_aload S.1 S.2.1 d_B_cancelAll_52 (lv_at hl 0 rfl) ?_
        refine m_ci hw (va_runV (As := []) (rest := []) S (c_O_rests l γ M2 (oa i0) _ _ _ _ _ _ _ _ _ _ hOk) (m_cwV 0 S g270 g244 g245 g54 g246 rfl rfl ⟨by decide +kernel, by decide +kernel, by decide +kernel⟩ ⟨(Nat.le_of_ble_eq_true rfl), (Nat.le_of_ble_eq_true rfl)⟩) (hw.preV hOk cl_O.1) rfl rfl hl.1 rfl (lv_room (Nat.le_of_ble_eq_true rfl)) d_B_cancelAll_54 ⟨(Nat.zero_le _), (Nat.zero_le _)⟩) (fun r1 M1 H locs hp hw => ?_)
        obtain ⟨rfl, hM1⟩ := hp
        rw [hM1] at hw
        refine lv_if_eq (tgt := 69) S.1 S.2.1 d_B_cancelAll_57 rfl (fun h57 => ?_) (fun h57 => ?_)
        · refine lv_iinc (k := 1) (v := nI (i0 + 1)) S.1 S.2.1 d_B_cancelAll_69 hl rfl (nI_1 i0) (by decide) rfl (fun ls hl => ?_)
          have hl : lv_has ls 5 [(3, .int (nI (i0 + 1))), (4, .ref (oa i0)), (2, .int (nI (xCan σ w0 i0).2)), (0, .ref (bx β)), (1, .int w0)] := hl
          refine lv_goto (tgt := 19) S.1 S.2.1 d_B_cancelAll_72 rfl ?_
          have hl := lv_sub hl [0, 2, 3, 4] rfl
          have hX : xCan σ w0 (i0 + 1) = xCan σ w0 i0 := if_neg (fun z => absurd z.2 (of_decide_eq_false (b2i_0.mp h57)))
          rw [← hX] at hC2 hI2 hL2 hl
          exact ih (i0 + 1) M2 L2 H locs ls (by omega) hC2 hI2 hL2 hf2 hl hw
        · have hX : xCan σ w0 (i0 + 1) = (xEnd (xCan σ w0 i0).1 i0, (xCan σ w0 i0).2 + 1) := if_pos ⟨h49, of_decide_eq_true (b2i_n0.mp h57)⟩
          refine lv_aload_n S.1 S.2.1 d_B_cancelAll_60 rfl (lv_at hl 3 rfl) ?_
          refine lv_aload S.1 S.2.1 d_B_cancelAll_61 (lv_at hl 0 rfl) ?_
          refine m_cv hw (va_runV (As := [.ref (oa i0)]) (rest := []) S (c_B_finish l γ M2 β oa cp L2 (xCan σ w0 i0).1 hC2 hI2.b hL2 i0 hk) (m_cwV 1 S g563 g565 g16 g41 g566 rfl rfl ⟨by decide +kernel, by decide +kernel, by decide +kernel⟩ ⟨(Nat.le_of_ble_eq_true rfl), (Nat.le_of_ble_eq_true rfl)⟩) (hw.preV hC2.book cl_B.1) rfl rfl hl.1 rfl (lv_room (Nat.le_of_ble_eq_true rfl)) d_B_cancelAll_63 ⟨(Nat.zero_le _), (Nat.zero_le _)⟩) (fun M1 H locs hp hw => ?_)
          obtain ⟨L3, hC3, hB3, hL3, hf3⟩ := hp
          have hI3 := end_inv (hI2.x i0) hB3
          rw [show xEnd (xCan σ w0 i0).1 i0 = (xCan σ w0 (i0 + 1)).1 by rw [hX]] at hC3 hI3 hL3
          refine lv_iinc (k := 2) (v := nI (xCan σ w0 (i0 + 1)).2) S.1 S.2.1 d_B_cancelAll_66 hl rfl (by rw [hX]; exact nI_1 _) (by decide) rfl (fun ls hl => ?_)
          have hl : lv_has ls 5 [(2, .int (nI (xCan σ w0 (i0 + 1)).2)), (4, .ref (oa i0)), (3, .int (nI i0)), (0, .ref (bx β)), (1, .int w0)] := hl
          refine lv_iinc (k := 2) (v := nI (i0 + 1)) S.1 S.2.1 d_B_cancelAll_69 hl rfl (nI_1 i0) (by decide) rfl (fun ls hl => ?_)
          have hl : lv_has ls 5 [(3, .int (nI (i0 + 1))), (2, .int (nI (xCan σ w0 (i0 + 1)).2)), (4, .ref (oa i0)), (0, .ref (bx β)), (1, .int w0)] := hl
          refine lv_goto (tgt := 19) S.1 S.2.1 d_B_cancelAll_72 rfl ?_
          have hl := lv_sub hl [0, 1, 3, 4] rfl
          exact ih (i0 + 1) M1 L3 H locs ls (by omega) hC3 hI3 hL3 (hf2.tr hf3) hl hw
  have hl := lv_sub hl [0, 1, 2, 3] rfl
  exact loop _ 0 M L H locs ls (Nat.zero_add _) hC hI hL (frC.rf M) hl hw
