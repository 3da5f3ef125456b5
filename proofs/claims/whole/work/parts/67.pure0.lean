/-! Calls that write nothing, said so -/
set_option maxHeartbeats 4000000 in
set_option maxRecDepth 100000 in
theorem c0_AL_size (l : Launch) (γ : mG) (M : mMap) (a : Nat) (md z : Int32) (rv : Value) (ha : M a = some (.inr (0, [.int md, rv, .int z]))) : Met l y_AL_size w_AL_size ({ frames := 0, cells := 0, slots := 0, locals := 0 } : Room) (mPc γ M [.ref a]) (mQi γ (fun r M' => r = z ∧ M' = M)) 0 0 nof := by
  refine m_enter (by decide) (Nat.le_of_ble_eq_true rfl) ?_
  intro p e s m below meth c ls S hr hlk hnm hl hw
  have hl : lv_has ls 1 [(0, .ref a)] := hl
  refine lv_aload_n S.1 S.2.1 d_AL_size_0 rfl (lv_at hl 0 rfl) ?_
  refine m_get S hw cl_AL ha 2 (by decide) g85 (fun _ h => h) rfl d_AL_size_1 ?_
  exact m_iret0 S hlk hr rfl hw (⟨rfl, rfl⟩) (Nat.le_refl _) (Nat.le_refl _) d_AL_size_4
set_option maxHeartbeats 4000000 in
set_option maxRecDepth 100000 in
theorem c0_Pc_checkIndex (l : Launch) (γ : mG) (M : mMap) (j n : Int32) (h0 : ¬ j < 0) (h1 : j < n) : Met l y_Pc_checkIndex w_Pc_checkIndex ({ frames := 0, cells := 0, slots := 0, locals := 0 } : Room) (mPc γ M [.int j, .int n, .null]) (mQi γ (fun r M' => r = j ∧ M' = M)) 0 0 nof := by
  refine m_enter (by decide) (Nat.le_of_ble_eq_true rfl) ?_
  intro p e s m below meth c ls S hr hlk hnm hl hw
  have hl : lv_has ls 3 [(0, .int j), (1, .int n), (2, .null)] := hl
  refine lv_iload_n S.1 S.2.1 d_Pc_checkIndex_0 rfl (lv_at hl 0 rfl) ?_
  refine lv_if_lt (tgt := 9) S.1 S.2.1 d_Pc_checkIndex_1 rfl (fun h => absurd h h0) (fun _ => ?_)
  refine lv_iload_n S.1 S.2.1 d_Pc_checkIndex_4 rfl (lv_at hl 0 rfl) ?_
  refine lv_iload_n S.1 S.2.1 d_Pc_checkIndex_5 rfl (lv_at hl 1 rfl) ?_
  refine lv_icmp_lt (tgt := 16) S.1 S.2.1 d_Pc_checkIndex_6 rfl (fun _ => ?_) (fun h => absurd h1 h)
  refine lv_iload_n S.1 S.2.1 d_Pc_checkIndex_16 rfl (lv_at hl 0 rfl) ?_
  exact m_iret0 S hlk hr rfl hw (⟨rfl, rfl⟩) (Nat.le_refl _) (Nat.le_refl _) d_Pc_checkIndex_17
set_option maxHeartbeats 4000000 in
set_option maxRecDepth 100000 in
theorem c0_Ob_checkIndex (l : Launch) (γ : mG) (M : mMap) (j n : Int32) (h0 : ¬ j < 0) (h1 : j < n) : Met l y_Ob_checkIndex w_Ob_checkIndex ({ frames := 1, cells := 0, slots := 0, locals := 22 } : Room) (mPc γ M [.int j, .int n]) (mQi γ (fun r M' => r = j ∧ M' = M)) 0 0 nof := by
  refine m_enter (by decide) (Nat.le_of_ble_eq_true rfl) ?_
  intro p e s m below meth c ls S hr hlk hnm hl hw
  have hl : lv_has ls 2 [(0, .int j), (1, .int n)] := hl
  refine lv_iload_n S.1 S.2.1 d_Ob_checkIndex_0 rfl (lv_at hl 0 rfl) ?_
  refine lv_iload_n S.1 S.2.1 d_Ob_checkIndex_1 rfl (lv_at hl 1 rfl) ?_
  refine lv_null S.1 S.2.1 d_Ob_checkIndex_2 ?_
  refine m_ci0 hw (va_runS (As := [.int j, .int n, .null]) (rest := []) S (c0_Pc_checkIndex l γ M j n h0 h1) (m_cwS 3 S g196 g197 g60 g198 rfl rfl ⟨by decide +kernel, by decide +kernel, by decide +kernel⟩ ⟨(Nat.le_of_ble_eq_true rfl), (Nat.le_of_ble_eq_true rfl)⟩) hw.preS rfl rfl hl.1 rfl (lv_room (Nat.le_of_ble_eq_true rfl)) d_Ob_checkIndex_3 ⟨(Nat.zero_le _), (Nat.zero_le _)⟩) (fun r1 M1 H hp hw => ?_)
  obtain ⟨rfl, hM1⟩ := hp
  rw [hM1] at hw
  exact m_iret0 S hlk hr rfl hw (⟨rfl, rfl⟩) (Nat.le_refl _) (Nat.le_refl _) d_Ob_checkIndex_6
set_option maxHeartbeats 4000000 in
set_option maxRecDepth 100000 in
theorem c0_AL_elementData (l : Launch) (γ : mG) (M : mMap) (a : Nat) (md z : Int32) (rr n : Nat) (f : Nat → Option Nat) (ha : M a = some (.inr (0, [.int md, .ref rr, .int z]))) (hr0 : M rr = some (.inl (gA γ 3, n, .inr (.inr (.inr (.inr f)))))) (k : Nat) (hk : k < n) (hn : n < 2 ^ 31) : Met l y_AL_elementData w_AL_elementData ({ frames := 0, cells := 0, slots := 0, locals := 0 } : Room) (mPc γ M [.ref a, .int (nI k)]) (mQq γ (fun r M' => r = f k ∧ M' = M)) 0 0 nof := by
  refine m_enter (by decide) (Nat.le_of_ble_eq_true rfl) ?_
  intro p e s m below meth c ls S hr hlk hnm hl hw
  have hl : lv_has ls 2 [(0, .ref a), (1, .int (nI k))] := hl
  refine lv_aload_n S.1 S.2.1 d_AL_elementData_0 rfl (lv_at hl 0 rfl) ?_
  refine m_get S hw cl_AL ha 1 (by decide) g84 (fun _ h => h) rfl d_AL_elementData_1 ?_
  refine lv_iload_n S.1 S.2.1 d_AL_elementData_4 rfl (lv_at hl 1 rfl) ?_
  refine m_aald S hw hr0 (vp_in_nI hk hn) d_AL_elementData_5 ?_
  exact m_aret0 (r := (f (nI k : Int32).toNatClampNeg)) S hlk hr (Or.inl ⟨_, rfl⟩) hw (⟨by rw [nI_clamp (by omega)], rfl⟩) (Nat.le_refl _) (Nat.le_refl _) d_AL_elementData_6
set_option maxHeartbeats 4000000 in
set_option maxRecDepth 100000 in
theorem c0_AL_get (l : Launch) (γ : mG) (M : mMap) (a rr cap : Nat) (xs : List Nat) (hA : AL γ M a rr cap xs) (k : Nat) (hk : k < xs.length) : Met l y_AL_get w_AL_get ({ frames := 2, cells := 0, slots := 0, locals := 43 } : Room) (mPc γ M [.ref a, .int (nI k)]) (mQq γ (fun r M' => r = xs[k]? ∧ M' = M)) 0 0 nof := by
  refine m_enter (by decide) (Nat.le_of_ble_eq_true rfl) ?_
  intro p e s m below meth c ls S hr hlk hnm hl hw
  have hl : lv_has ls 2 [(0, .ref a), (1, .int (nI k))] := hl
  obtain ⟨md, f, ha, hr0, hct, hle, hcap, h10⟩ := hA.pos hk
  refine lv_iload_n S.1 S.2.1 d_AL_get_0 rfl (lv_at hl 1 rfl) ?_
  refine lv_aload_n S.1 S.2.1 d_AL_get_1 rfl (lv_at hl 0 rfl) ?_
  refine m_get S hw cl_AL ha 2 (by decide) g85 (fun _ h => h) rfl d_AL_get_2 ?_
  refine m_ci0 hw (va_runS (As := [.int (nI k), .int (nI xs.length)]) (rest := []) S (c0_Ob_checkIndex l γ M (nI k) (nI xs.length) (nI_pos (by omega)) (nI_lt hk (by omega))) (m_cwS 2 S g193 g194 g59 g195 rfl rfl ⟨by decide +kernel, by decide +kernel, by decide +kernel⟩ ⟨(Nat.le_of_ble_eq_true rfl), (Nat.le_of_ble_eq_true rfl)⟩) hw.preS rfl rfl hl.1 rfl (lv_room (Nat.le_of_ble_eq_true rfl)) d_AL_get_5 ⟨(Nat.zero_le _), (Nat.zero_le _)⟩) (fun r1 M1 H hp hw => ?_)
  obtain ⟨rfl, hM1⟩ := hp
  rw [hM1] at hw
  refine lv_pop S.1 S.2.1 d_AL_get_8 rfl ?_
  refine lv_aload_n S.1 S.2.1 d_AL_get_9 rfl (lv_at hl 0 rfl) ?_
  refine lv_iload_n S.1 S.2.1 d_AL_get_10 rfl (lv_at hl 1 rfl) ?_
  refine m_cq0 hw (va_runV (As := [.int (nI k)]) (rest := []) S (c0_AL_elementData l γ M a md _ rr cap f ha hr0 k (by omega) (by omega)) (m_cwV 1 S g199 g200 g201 g44 g202 rfl rfl ⟨by decide +kernel, by decide +kernel, by decide +kernel⟩ ⟨(Nat.le_of_ble_eq_true rfl), (Nat.le_of_ble_eq_true rfl)⟩) (hw.preV ha cl_AL.1) rfl rfl hl.1 rfl (lv_room (Nat.le_of_ble_eq_true rfl)) d_AL_get_11 ⟨(Nat.zero_le _), (Nat.zero_le _)⟩) (fun r1 M1 H hp hw => ?_)
  obtain ⟨rfl, hM1⟩ := hp
  rw [hM1] at hw
  exact m_aret0 (r := (f k)) S hlk hr (Or.inl ⟨_, rfl⟩) hw (⟨hct k hk, rfl⟩) (Nat.le_refl _) (Nat.le_refl _) d_AL_get_14

set_option maxHeartbeats 4000000 in
set_option maxRecDepth 100000 in
theorem c0_O_rests (l : Launch) (γ : mG) (M : mMap) (a : Nat) (x0 x1 x2 x3 x4 x5 x6 x7 x8 x9 : Int32) (ha : M a = some (.inr (2, [.int x0, .int x1, .int x2, .int x3, .int x4, .int x5, .int x6, .int x7, .int x8, .int x9]))) : Met l y_O_rests w_O_rests ({ frames := 0, cells := 0, slots := 0, locals := 0 } : Room) (mPc γ M [.ref a]) (mQi γ (fun r M' => r = b2i (decide (¬ x8 = -1)) ∧ M' = M)) 0 0 nof := by
  refine m_enter (by decide) (Nat.le_of_ble_eq_true rfl) ?_
  intro p e s m below meth c ls S hr hlk hnm hl hw
  have hl : lv_has ls 1 [(0, .ref a)] := hl
  refine lv_aload_n S.1 S.2.1 d_O_rests_0 rfl (lv_at hl 0 rfl) ?_
  refine m_get S hw cl_O ha 8 (by decide) g401 (fun _ h => h) rfl d_O_rests_1 ?_
  refine lv_iconst (v := (-1)) S.1 S.2.1 d_O_rests_4 (by decide) ?_
  refine lv_icmp_eq (tgt := 12) S.1 S.2.1 d_O_rests_5 rfl (fun h5 => ?_) (fun h5 => ?_)
  · refine lv_iconst (v := 0) S.1 S.2.1 d_O_rests_12 (by decide) ?_
    exact m_iret0 S hlk hr rfl hw (by simp [b2i, h5]) (Nat.le_refl _) (Nat.le_refl _) d_O_rests_13
  · refine lv_iconst (v := 1) S.1 S.2.1 d_O_rests_8 (by decide) ?_
    refine lv_goto (tgt := 13) S.1 S.2.1 d_O_rests_9 rfl ?_
    exact m_iret0 S hlk hr rfl hw (by simp [b2i, h5]) (Nat.le_refl _) (Nat.le_refl _) d_O_rests_13
set_option maxHeartbeats 4000000 in
set_option maxRecDepth 100000 in
theorem c0_B_isOwner (l : Launch) (γ : mG) (M : mMap) (x0 : Int32) : Met l y_B_isOwner w_B_isOwner ({ frames := 0, cells := 0, slots := 0, locals := 0 } : Room) (mPc γ M [.int x0]) (mQi γ (fun r M' => r = b2i (rg 0 9 x0) ∧ M' = M)) 0 0 nof := by
  refine m_enter (by decide) (Nat.le_of_ble_eq_true rfl) ?_
  intro p e s m below meth c ls S hr hlk hnm hl hw
  have hl : lv_has ls 1 [(0, .int x0)] := hl
  refine lv_iload_n S.1 S.2.1 d_B_isOwner_0 rfl (lv_at hl 0 rfl) ?_
  refine lv_if_lt (tgt := 14) S.1 S.2.1 d_B_isOwner_1 rfl (fun h1 => ?_) (fun h1 => ?_)
  · refine lv_iconst (v := 0) S.1 S.2.1 d_B_isOwner_14 (by decide) ?_
    exact m_iret0 S hlk hr rfl hw (⟨(congrArg b2i (show rg 0 9 x0 = false from rg_lo h1)).symm, rfl⟩) (Nat.le_refl _) (Nat.le_refl _) d_B_isOwner_15
  · refine lv_iload_n S.1 S.2.1 d_B_isOwner_4 rfl (lv_at hl 0 rfl) ?_
    refine lv_bipush (v := 9) S.1 S.2.1 d_B_isOwner_5 (by decide) ?_
    refine lv_icmp_gt (tgt := 14) S.1 S.2.1 d_B_isOwner_7 rfl (fun h7 => ?_) (fun h7 => ?_)
    · refine lv_iconst (v := 0) S.1 S.2.1 d_B_isOwner_14 (by decide) ?_
      exact m_iret0 S hlk hr rfl hw (⟨(congrArg b2i (show rg 0 9 x0 = false from rg_hi h7)).symm, rfl⟩) (Nat.le_refl _) (Nat.le_refl _) d_B_isOwner_15
    · refine lv_iconst (v := 1) S.1 S.2.1 d_B_isOwner_10 (by decide) ?_
      refine lv_goto (tgt := 15) S.1 S.2.1 d_B_isOwner_11 rfl ?_
      exact m_iret0 S hlk hr rfl hw (⟨(congrArg b2i (show rg 0 9 x0 = true from rg_in h1 h7)).symm, rfl⟩) (Nat.le_refl _) (Nat.le_refl _) d_B_isOwner_15
set_option maxHeartbeats 4000000 in
set_option maxRecDepth 100000 in
theorem c0_B_isPriceOrMarket (l : Launch) (γ : mG) (M : mMap) (x0 : Int32) : Met l y_B_isPriceOrMarket w_B_isPriceOrMarket ({ frames := 0, cells := 0, slots := 0, locals := 0 } : Room) (mPc γ M [.int x0]) (mQi γ (fun r M' => r = b2i (rg 0 2000 x0) ∧ M' = M)) 0 0 nof := by
  refine m_enter (by decide) (Nat.le_of_ble_eq_true rfl) ?_
  intro p e s m below meth c ls S hr hlk hnm hl hw
  have hl : lv_has ls 1 [(0, .int x0)] := hl
  refine lv_iload_n S.1 S.2.1 d_B_isPriceOrMarket_0 rfl (lv_at hl 0 rfl) ?_
  refine lv_if_lt (tgt := 15) S.1 S.2.1 d_B_isPriceOrMarket_1 rfl (fun h1 => ?_) (fun h1 => ?_)
  · refine lv_iconst (v := 0) S.1 S.2.1 d_B_isPriceOrMarket_15 (by decide) ?_
    exact m_iret0 S hlk hr rfl hw (⟨(congrArg b2i (show rg 0 2000 x0 = false from rg_lo h1)).symm, rfl⟩) (Nat.le_refl _) (Nat.le_refl _) d_B_isPriceOrMarket_16
  · refine lv_iload_n S.1 S.2.1 d_B_isPriceOrMarket_4 rfl (lv_at hl 0 rfl) ?_
    refine lv_sipush (v := 2000) S.1 S.2.1 d_B_isPriceOrMarket_5 (by decide) ?_
    refine lv_icmp_gt (tgt := 15) S.1 S.2.1 d_B_isPriceOrMarket_8 rfl (fun h8 => ?_) (fun h8 => ?_)
    · refine lv_iconst (v := 0) S.1 S.2.1 d_B_isPriceOrMarket_15 (by decide) ?_
      exact m_iret0 S hlk hr rfl hw (⟨(congrArg b2i (show rg 0 2000 x0 = false from rg_hi h8)).symm, rfl⟩) (Nat.le_refl _) (Nat.le_refl _) d_B_isPriceOrMarket_16
    · refine lv_iconst (v := 1) S.1 S.2.1 d_B_isPriceOrMarket_11 (by decide) ?_
      refine lv_goto (tgt := 16) S.1 S.2.1 d_B_isPriceOrMarket_12 rfl ?_
      exact m_iret0 S hlk hr rfl hw (⟨(congrArg b2i (show rg 0 2000 x0 = true from rg_in h1 h8)).symm, rfl⟩) (Nat.le_refl _) (Nat.le_refl _) d_B_isPriceOrMarket_16
set_option maxHeartbeats 4000000 in
set_option maxRecDepth 100000 in
theorem c0_B_isQuantity (l : Launch) (γ : mG) (M : mMap) (x0 : Int32) : Met l y_B_isQuantity w_B_isQuantity ({ frames := 0, cells := 0, slots := 0, locals := 0 } : Room) (mPc γ M [.int x0]) (mQi γ (fun r M' => r = b2i (rg 1 100000 x0) ∧ M' = M)) 0 0 nof := by
  refine m_enter (by decide) (Nat.le_of_ble_eq_true rfl) ?_
  intro p e s m below meth c ls S hr hlk hnm hl hw
  have hl : lv_has ls 1 [(0, .int x0)] := hl
  refine lv_iload_n S.1 S.2.1 d_B_isQuantity_0 rfl (lv_at hl 0 rfl) ?_
  refine lv_iconst (v := 1) S.1 S.2.1 d_B_isQuantity_1 (by decide) ?_
  refine lv_icmp_lt (tgt := 15) S.1 S.2.1 d_B_isQuantity_2 rfl (fun h2 => ?_) (fun h2 => ?_)
  · refine lv_iconst (v := 0) S.1 S.2.1 d_B_isQuantity_15 (by decide) ?_
    exact m_iret0 S hlk hr rfl hw (⟨(congrArg b2i (show rg 1 100000 x0 = false from rg_lo h2)).symm, rfl⟩) (Nat.le_refl _) (Nat.le_refl _) d_B_isQuantity_16
  · refine lv_iload_n S.1 S.2.1 d_B_isQuantity_5 rfl (lv_at hl 0 rfl) ?_
    refine lv_ldc S.1 S.2.1 S.2.2.2.1 (S.2.2.2.2 _ (gc g292)) d_B_isQuantity_6 ?_
    refine lv_icmp_gt (tgt := 15) S.1 S.2.1 d_B_isQuantity_8 rfl (fun h8 => ?_) (fun h8 => ?_)
    · refine lv_iconst (v := 0) S.1 S.2.1 d_B_isQuantity_15 (by decide) ?_
      exact m_iret0 S hlk hr rfl hw (⟨(congrArg b2i (show rg 1 100000 x0 = false from rg_hi h8)).symm, rfl⟩) (Nat.le_refl _) (Nat.le_refl _) d_B_isQuantity_16
    · refine lv_iconst (v := 1) S.1 S.2.1 d_B_isQuantity_11 (by decide) ?_
      refine lv_goto (tgt := 16) S.1 S.2.1 d_B_isQuantity_12 rfl ?_
      exact m_iret0 S hlk hr rfl hw (⟨(congrArg b2i (show rg 1 100000 x0 = true from rg_in h2 h8)).symm, rfl⟩) (Nat.le_refl _) (Nat.le_refl _) d_B_isQuantity_16
set_option maxHeartbeats 4000000 in
set_option maxRecDepth 100000 in
theorem c0_B_isPeak (l : Launch) (γ : mG) (M : mMap) (x0 : Int32) : Met l y_B_isPeak w_B_isPeak ({ frames := 0, cells := 0, slots := 0, locals := 0 } : Room) (mPc γ M [.int x0]) (mQi γ (fun r M' => r = b2i (rg 0 100000 x0) ∧ M' = M)) 0 0 nof := by
  refine m_enter (by decide) (Nat.le_of_ble_eq_true rfl) ?_
  intro p e s m below meth c ls S hr hlk hnm hl hw
  have hl : lv_has ls 1 [(0, .int x0)] := hl
  refine lv_iload_n S.1 S.2.1 d_B_isPeak_0 rfl (lv_at hl 0 rfl) ?_
  refine lv_if_lt (tgt := 14) S.1 S.2.1 d_B_isPeak_1 rfl (fun h1 => ?_) (fun h1 => ?_)
  · refine lv_iconst (v := 0) S.1 S.2.1 d_B_isPeak_14 (by decide) ?_
    exact m_iret0 S hlk hr rfl hw (⟨(congrArg b2i (show rg 0 100000 x0 = false from rg_lo h1)).symm, rfl⟩) (Nat.le_refl _) (Nat.le_refl _) d_B_isPeak_15
  · refine lv_iload_n S.1 S.2.1 d_B_isPeak_4 rfl (lv_at hl 0 rfl) ?_
    refine lv_ldc S.1 S.2.1 S.2.2.2.1 (S.2.2.2.2 _ (gc g292)) d_B_isPeak_5 ?_
    refine lv_icmp_gt (tgt := 14) S.1 S.2.1 d_B_isPeak_7 rfl (fun h7 => ?_) (fun h7 => ?_)
    · refine lv_iconst (v := 0) S.1 S.2.1 d_B_isPeak_14 (by decide) ?_
      exact m_iret0 S hlk hr rfl hw (⟨(congrArg b2i (show rg 0 100000 x0 = false from rg_hi h7)).symm, rfl⟩) (Nat.le_refl _) (Nat.le_refl _) d_B_isPeak_15
    · refine lv_iconst (v := 1) S.1 S.2.1 d_B_isPeak_10 (by decide) ?_
      refine lv_goto (tgt := 15) S.1 S.2.1 d_B_isPeak_11 rfl ?_
      exact m_iret0 S hlk hr rfl hw (⟨(congrArg b2i (show rg 0 100000 x0 = true from rg_in h1 h7)).symm, rfl⟩) (Nat.le_refl _) (Nat.le_refl _) d_B_isPeak_15
set_option maxHeartbeats 4000000 in
set_option maxRecDepth 100000 in
theorem c0_B_isLife (l : Launch) (γ : mG) (M : mMap) (x0 : Int32) : Met l y_B_isLife w_B_isLife ({ frames := 0, cells := 0, slots := 0, locals := 0 } : Room) (mPc γ M [.int x0]) (mQi γ (fun r M' => r = b2i (rg 0 2 x0) ∧ M' = M)) 0 0 nof := by
  refine m_enter (by decide) (Nat.le_of_ble_eq_true rfl) ?_
  intro p e s m below meth c ls S hr hlk hnm hl hw
  have hl : lv_has ls 1 [(0, .int x0)] := hl
  refine lv_iload_n S.1 S.2.1 d_B_isLife_0 rfl (lv_at hl 0 rfl) ?_
  refine lv_if_lt (tgt := 13) S.1 S.2.1 d_B_isLife_1 rfl (fun h1 => ?_) (fun h1 => ?_)
  · refine lv_iconst (v := 0) S.1 S.2.1 d_B_isLife_13 (by decide) ?_
    exact m_iret0 S hlk hr rfl hw (⟨(congrArg b2i (show rg 0 2 x0 = false from rg_lo h1)).symm, rfl⟩) (Nat.le_refl _) (Nat.le_refl _) d_B_isLife_14
  · refine lv_iload_n S.1 S.2.1 d_B_isLife_4 rfl (lv_at hl 0 rfl) ?_
    refine lv_iconst (v := 2) S.1 S.2.1 d_B_isLife_5 (by decide) ?_
    refine lv_icmp_gt (tgt := 13) S.1 S.2.1 d_B_isLife_6 rfl (fun h6 => ?_) (fun h6 => ?_)
    · refine lv_iconst (v := 0) S.1 S.2.1 d_B_isLife_13 (by decide) ?_
      exact m_iret0 S hlk hr rfl hw (⟨(congrArg b2i (show rg 0 2 x0 = false from rg_hi h6)).symm, rfl⟩) (Nat.le_refl _) (Nat.le_refl _) d_B_isLife_14
    · refine lv_iconst (v := 1) S.1 S.2.1 d_B_isLife_9 (by decide) ?_
      refine lv_goto (tgt := 14) S.1 S.2.1 d_B_isLife_10 rfl ?_
      exact m_iret0 S hlk hr rfl hw (⟨(congrArg b2i (show rg 0 2 x0 = true from rg_in h1 h6)).symm, rfl⟩) (Nat.le_refl _) (Nat.le_refl _) d_B_isLife_14
set_option maxHeartbeats 4000000 in
set_option maxRecDepth 100000 in
theorem c0_B_fitsPeak (l : Launch) (γ : mG) (M : mMap) (q0 k0 : Int32) : Met l y_B_fitsPeak w_B_fitsPeak ({ frames := 0, cells := 0, slots := 0, locals := 0 } : Room) (mPc γ M [.int q0, .int k0]) (mQi γ (fun r M' => r = b2i (fpk q0 k0) ∧ M' = M)) 0 0 nof := by
  refine m_enter (by decide) (Nat.le_of_ble_eq_true rfl) ?_
  intro p e s m below meth c ls S hr hlk hnm hl hw
  have hl : lv_has ls 2 [(0, .int q0), (1, .int k0)] := hl
  refine lv_iload_n S.1 S.2.1 d_B_fitsPeak_0 rfl (lv_at hl 1 rfl) ?_
  refine lv_if_eq (tgt := 12) S.1 S.2.1 d_B_fitsPeak_1 rfl (fun h1 => ?_) (fun h1 => ?_)
  · refine lv_iconst (v := 1) S.1 S.2.1 d_B_fitsPeak_12 (by decide) ?_
    refine lv_goto (tgt := 17) S.1 S.2.1 d_B_fitsPeak_13 rfl ?_
    exact m_iret0 S hlk hr rfl hw (⟨(congrArg b2i (show fpk q0 k0 = true from by unfold fpk; rw [decide_eq_true h1]; rfl)).symm, rfl⟩) (Nat.le_refl _) (Nat.le_refl _) d_B_fitsPeak_17
  · refine lv_iload_n S.1 S.2.1 d_B_fitsPeak_4 rfl (lv_at hl 0 rfl) ?_
    refine lv_bipush (v := 50) S.1 S.2.1 d_B_fitsPeak_5 (by decide) ?_
    refine lv_iload_n S.1 S.2.1 d_B_fitsPeak_7 rfl (lv_at hl 1 rfl) ?_
    refine lv_imul S.1 S.2.1 d_B_fitsPeak_8 ?_
    refine lv_icmp_gt (tgt := 16) S.1 S.2.1 d_B_fitsPeak_9 rfl (fun h9 => ?_) (fun h9 => ?_)
    · refine lv_iconst (v := 0) S.1 S.2.1 d_B_fitsPeak_16 (by decide) ?_
      exact m_iret0 S hlk hr rfl hw (⟨(congrArg b2i (show fpk q0 k0 = false from by unfold fpk; rw [decide_eq_false h1, decide_eq_false (Int32.not_le.mpr h9)]; rfl)).symm, rfl⟩) (Nat.le_refl _) (Nat.le_refl _) d_B_fitsPeak_17
    · refine lv_iconst (v := 1) S.1 S.2.1 d_B_fitsPeak_12 (by decide) ?_
      refine lv_goto (tgt := 17) S.1 S.2.1 d_B_fitsPeak_13 rfl ?_
      exact m_iret0 S hlk hr rfl hw (⟨(congrArg b2i (show fpk q0 k0 = true from by unfold fpk; rw [decide_eq_true (Int32.not_lt.mp h9), Bool.or_true])).symm, rfl⟩) (Nat.le_refl _) (Nat.le_refl _) d_B_fitsPeak_17
set_option maxHeartbeats 4000000 in
set_option maxRecDepth 100000 in
theorem c0_B_known (l : Launch) (γ : mG) (M : mMap) (β : BK) (oa cp : Nat → Nat) (L : Nat → List Nat) (σ : St) (hC : CB γ M β oa cp L σ) (hn : sn σ ≤ 250) (k : Nat) (hk : k < sn σ) : Met l y_B_known w_B_known ({ frames := 3, cells := 0, slots := 0, locals := 64 } : Room) (mPc γ M [.ref (bx β), .int (nI k)]) (mQq γ (fun r M' => r = some (oa k) ∧ M' = M)) 0 0 nof := by
  refine m_enter (by decide) (Nat.le_of_ble_eq_true rfl) ?_
  intro p e s m below meth c ls S hr hlk hnm hl hw
  have hl : lv_has ls 2 [(0, .ref (bx β)), (1, .int (nI k))] := hl
  obtain ⟨r0, hA0⟩ := hC.alls
  obtain ⟨⟨md0, hl0⟩, -⟩ := id hA0
  have hml : ((List.range (sn σ)).map oa).length = sn σ := rg_len
  have hge := rg_at (f := oa) hk
  refine lv_iload_n S.1 S.2.1 d_B_known_0 rfl (lv_at hl 1 rfl) ?_
  refine lv_if_lt (tgt := 15) S.1 S.2.1 d_B_known_1 rfl (fun h => absurd h (nI_pos (by omega))) (fun _ => ?_)
  refine lv_iload_n S.1 S.2.1 d_B_known_4 rfl (lv_at hl 1 rfl) ?_
  refine lv_aload_n S.1 S.2.1 d_B_known_5 rfl (lv_at hl 0 rfl) ?_
  refine m_get S hw cl_B hC.book 0 (by decide) g145 (fun _ h => h) rfl d_B_known_6 ?_
  refine m_ci0 hw (va_runV (As := []) (rest := [.int (nI k)]) S (c0_AL_size l γ M (bal β 0) md0 _ _ hl0) (m_cwV 0 S g185 g186 g187 g44 g188 rfl rfl ⟨by decide +kernel, by decide +kernel, by decide +kernel⟩ ⟨(Nat.le_of_ble_eq_true rfl), (Nat.le_of_ble_eq_true rfl)⟩) (hw.preV hl0 cl_AL.1) rfl rfl hl.1 rfl (lv_room (Nat.le_of_ble_eq_true rfl)) d_B_known_9 ⟨(Nat.zero_le _), (Nat.zero_le _)⟩) (fun r1 M1 H hp hw => ?_)
  obtain ⟨rfl, hM1⟩ := hp
  rw [hM1] at hw
  refine lv_icmp_lt (tgt := 23) S.1 S.2.1 d_B_known_12 rfl (fun _ => ?_) (fun h => absurd (nI_lt (by omega) (by omega)) h)
  refine lv_aload_n S.1 S.2.1 d_B_known_23 rfl (lv_at hl 0 rfl) ?_
  refine m_get S hw cl_B hC.book 0 (by decide) g145 (fun _ h => h) rfl d_B_known_24 ?_
  refine lv_iload_n S.1 S.2.1 d_B_known_27 rfl (lv_at hl 1 rfl) ?_
  refine m_cq0 hw (va_runV (As := [.int (nI k)]) (rest := []) S (c0_AL_get l γ M (bal β 0) r0 (cp 0) ((List.range (sn σ)).map oa) hA0 k (by omega)) (m_cwV 1 S g189 g190 g191 g44 g192 rfl rfl ⟨by decide +kernel, by decide +kernel, by decide +kernel⟩ ⟨(Nat.le_of_ble_eq_true rfl), (Nat.le_of_ble_eq_true rfl)⟩) (hw.preV hl0 cl_AL.1) rfl rfl hl.1 rfl (lv_room (Nat.le_of_ble_eq_true rfl)) d_B_known_28 ⟨(Nat.zero_le _), (Nat.zero_le _)⟩) (fun r1 M1 H hp hw => ?_)
  obtain ⟨rfl, hM1⟩ := hp
  rw [hM1] at hw
  refine W.eq (g2 := F0 m 31 ls [.ref (oa k)]) (by rw [hge]; rfl) ?_
  refine m_cast S hw cl_O (hC.ord k hk) g203 d_B_known_31 ?_
  exact m_aret0 (r := (some (oa k))) S hlk hr (Or.inl ⟨_, rfl⟩) hw (⟨rfl, rfl⟩) (Nat.le_refl _) (Nat.le_refl _) d_B_known_34
