/-! CallBook$Order: each method on one cell -/
set_option maxHeartbeats 4000000 in
set_option maxRecDepth 100000 in
theorem c_O_rests (l : Launch) (γ : mG) (M : mMap) (a : Nat) (x0 x1 x2 x3 x4 x5 x6 x7 x8 x9 : Int32) (ha : M a = some (.inr (2, [.int x0, .int x1, .int x2, .int x3, .int x4, .int x5, .int x6, .int x7, .int x8, .int x9]))) : Met l y_O_rests w_O_rests ({ frames := 0, cells := 0, slots := 0, locals := 0 } : Room) (mPc γ M [.ref a]) (mQi γ (fun r M' => r = b2i (decide (¬ x8 = -1)) ∧ M' = M)) 0 0 (mA (gz γ)) := by
  refine m_enter (by decide) (Nat.le_of_ble_eq_true rfl) ?_
  intro p e s m below meth c ls S hr hlk hnm hl hw
  have hl : lv_has ls 1 [(0, .ref a)] := hl
  refine lv_aload_n S.1 S.2.1 d_O_rests_0 rfl (lv_at hl 0 rfl) ?_
  refine m_get S hw cl_O ha 8 (by decide) g401 (fun _ h => h) rfl d_O_rests_1 ?_
  refine lv_iconst (v := (-1)) S.1 S.2.1 d_O_rests_4 (by decide) ?_
  refine lv_icmp_eq (tgt := 12) S.1 S.2.1 d_O_rests_5 rfl (fun h5 => ?_) (fun h5 => ?_)
  · refine lv_iconst (v := 0) S.1 S.2.1 d_O_rests_12 (by decide) ?_
    exact m_iret S hlk hr rfl hw (by simp [b2i, h5]) (Nat.le_refl _) (Nat.le_refl _) d_O_rests_13
  · refine lv_iconst (v := 1) S.1 S.2.1 d_O_rests_8 (by decide) ?_
    refine lv_goto (tgt := 13) S.1 S.2.1 d_O_rests_9 rfl ?_
    exact m_iret S hlk hr rfl hw (by simp [b2i, h5]) (Nat.le_refl _) (Nat.le_refl _) d_O_rests_13
set_option maxHeartbeats 4000000 in
set_option maxRecDepth 100000 in
theorem c_O_ask (l : Launch) (γ : mG) (M : mMap) (a : Nat) (x0 x1 x2 x3 x4 x5 x6 x7 x8 x9 : Int32) (ha : M a = some (.inr (2, [.int x0, .int x1, .int x2, .int x3, .int x4, .int x5, .int x6, .int x7, .int x8, .int x9]))) (p0 q0 : Int32) : Met l y_O_ask w_O_ask ({ frames := 0, cells := 0, slots := 0, locals := 0 } : Room) (mPc γ M [.ref a, .int p0, .int q0]) (mQv γ (fun M' => M' = mU M a (.inr (2, [.int x0, .int x1, .int x2, .int x3, .int x4, .int p0, .int q0, .int x7, .int x8, .int x9])))) 0 0 (mA (gz γ)) := by
  refine m_enter (by decide) (Nat.le_of_ble_eq_true rfl) ?_
  intro p e s m below meth c ls S hr hlk hnm hl hw
  have hl : lv_has ls 3 [(0, .ref a), (1, .int p0), (2, .int q0)] := hl
  refine lv_aload_n S.1 S.2.1 d_O_ask_0 rfl (lv_at hl 0 rfl) ?_
  refine lv_iload_n S.1 S.2.1 d_O_ask_1 rfl (lv_at hl 1 rfl) ?_
  refine m_put S hw cl_O ha 5 (by decide) g394 (fun _ h => h) rfl rfl rfl (Nat.le_of_ble_eq_true rfl) d_O_ask_2 (fun H locs hw => ?_)
  have hw : mW γ (mU M a (.inr (2, [.int x0, .int x1, .int x2, .int x3, .int x4, .int p0, .int x6, .int x7, .int x8, .int x9]))) s H locs := hw
  refine lv_aload_n S.1 S.2.1 d_O_ask_5 rfl (lv_at hl 0 rfl) ?_
  refine lv_iload_n S.1 S.2.1 d_O_ask_6 rfl (lv_at hl 2 rfl) ?_
  refine m_put S hw cl_O (mU_eq _ _ _) 6 (by decide) g396 (fun _ h => h) rfl rfl rfl (Nat.le_of_ble_eq_true rfl) d_O_ask_7 (fun H locs hw => ?_)
  have hw : mW γ (mU (mU M a (.inr (2, [.int x0, .int x1, .int x2, .int x3, .int x4, .int p0, .int x6, .int x7, .int x8, .int x9]))) a (.inr (2, [.int x0, .int x1, .int x2, .int x3, .int x4, .int p0, .int q0, .int x7, .int x8, .int x9]))) s H locs := hw
  exact m_vret S hlk hr hw (mU_uu _ _ _ _) (Nat.le_refl _) (Nat.le_refl _) d_O_ask_10
set_option maxHeartbeats 4000000 in
set_option maxRecDepth 100000 in
theorem c_O_give (l : Launch) (γ : mG) (M : mMap) (a : Nat) (x0 x1 x2 x3 x4 x5 x6 x7 x8 x9 : Int32) (ha : M a = some (.inr (2, [.int x0, .int x1, .int x2, .int x3, .int x4, .int x5, .int x6, .int x7, .int x8, .int x9]))) (q0 : Int32) : Met l y_O_give w_O_give ({ frames := 0, cells := 0, slots := 0, locals := 0 } : Room) (mPc γ M [.ref a, .int q0]) (mQv γ (fun M' => M' = mU M a (.inr (2, [.int x0, .int x1, .int x2, .int x3, .int x4, .int x5, .int (x6 - q0), .int x7, .int x8, .int (x9 + q0)])))) 0 0 (mA (gz γ)) := by
  refine m_enter (by decide) (Nat.le_of_ble_eq_true rfl) ?_
  intro p e s m below meth c ls S hr hlk hnm hl hw
  have hl : lv_has ls 2 [(0, .ref a), (1, .int q0)] := hl
  refine lv_aload_n S.1 S.2.1 d_O_give_0 rfl (lv_at hl 0 rfl) ?_
  refine lv_dup S.1 S.2.1 d_O_give_1 rfl ?_
  refine m_get S hw cl_O ha 6 (by decide) g396 (fun _ h => h) rfl d_O_give_2 ?_
  refine lv_iload_n S.1 S.2.1 d_O_give_5 rfl (lv_at hl 1 rfl) ?_
  refine lv_isub S.1 S.2.1 d_O_give_6 ?_
  refine m_put S hw cl_O ha 6 (by decide) g396 (fun _ h => h) rfl rfl rfl (Nat.le_of_ble_eq_true rfl) d_O_give_7 (fun H locs hw => ?_)
  have hw : mW γ (mU M a (.inr (2, [.int x0, .int x1, .int x2, .int x3, .int x4, .int x5, .int (x6 - q0), .int x7, .int x8, .int x9]))) s H locs := hw
  refine lv_aload_n S.1 S.2.1 d_O_give_10 rfl (lv_at hl 0 rfl) ?_
  refine lv_dup S.1 S.2.1 d_O_give_11 rfl ?_
  refine m_get S hw cl_O (mU_eq _ _ _) 9 (by decide) g404 (fun _ h => h) rfl d_O_give_12 ?_
  refine lv_iload_n S.1 S.2.1 d_O_give_15 rfl (lv_at hl 1 rfl) ?_
  refine lv_iadd S.1 S.2.1 d_O_give_16 ?_
  refine m_put S hw cl_O (mU_eq _ _ _) 9 (by decide) g404 (fun _ h => h) rfl rfl rfl (Nat.le_of_ble_eq_true rfl) d_O_give_17 (fun H locs hw => ?_)
  have hw : mW γ (mU (mU M a (.inr (2, [.int x0, .int x1, .int x2, .int x3, .int x4, .int x5, .int (x6 - q0), .int x7, .int x8, .int x9]))) a (.inr (2, [.int x0, .int x1, .int x2, .int x3, .int x4, .int x5, .int (x6 - q0), .int x7, .int x8, .int (x9 + q0)]))) s H locs := hw
  exact m_vret S hlk hr hw (mU_uu _ _ _ _) (Nat.le_refl _) (Nat.le_refl _) d_O_give_20
set_option maxHeartbeats 4000000 in
set_option maxRecDepth 100000 in
theorem c_O_lessen (l : Launch) (γ : mG) (M : mMap) (a : Nat) (x0 x1 x2 x3 x4 x5 x6 x7 x8 x9 : Int32) (ha : M a = some (.inr (2, [.int x0, .int x1, .int x2, .int x3, .int x4, .int x5, .int x6, .int x7, .int x8, .int x9]))) (q0 : Int32) : Met l y_O_lessen w_O_lessen ({ frames := 1, cells := 0, slots := 0, locals := 18 } : Room) (mPc γ M [.ref a, .int q0]) (mQv γ (fun M' => M' = mU M a (.inr (2, [.int x0, .int x1, .int x2, .int x3, .int x4, .int x5, .int q0, .int (if q0 < x7 then q0 else x7), .int x8, .int x9])))) 0 0 (mA (gz γ)) := by
  refine m_enter (by decide) (Nat.le_of_ble_eq_true rfl) ?_
  intro p e s m below meth c ls S hr hlk hnm hl hw
  have hl : lv_has ls 2 [(0, .ref a), (1, .int q0)] := hl
  refine lv_aload_n S.1 S.2.1 d_O_lessen_0 rfl (lv_at hl 0 rfl) ?_
  refine lv_iload_n S.1 S.2.1 d_O_lessen_1 rfl (lv_at hl 1 rfl) ?_
  refine m_put S hw cl_O ha 6 (by decide) g396 (fun _ h => h) rfl rfl rfl (Nat.le_of_ble_eq_true rfl) d_O_lessen_2 (fun H locs hw => ?_)
  have hw : mW γ (mU M a (.inr (2, [.int x0, .int x1, .int x2, .int x3, .int x4, .int x5, .int q0, .int x7, .int x8, .int x9]))) s H locs := hw
  refine lv_aload_n S.1 S.2.1 d_O_lessen_5 rfl (lv_at hl 0 rfl) ?_
  refine lv_aload_n S.1 S.2.1 d_O_lessen_6 rfl (lv_at hl 0 rfl) ?_
  refine m_get S hw cl_O (mU_eq _ _ _) 7 (by decide) g399 (fun _ h => h) rfl d_O_lessen_7 ?_
  refine lv_iload_n S.1 S.2.1 d_O_lessen_10 rfl (lv_at hl 1 rfl) ?_
  refine va_mmin S.1 S.2.1 (S.2.2.1.trans hl.1.symm) S.2.2.2.1 (S.2.2.2.2 _ (gc g240)) (S.2.2.2.2 _ (gc g241)) (S.2.2.2.2 _ (gc g56)) (S.2.2.2.2 _ (gc g242)) (Nat.le_of_ble_eq_true rfl) (Nat.le_of_ble_eq_true rfl) (Nat.zero_le _) (Nat.zero_le _) d_O_lessen_11 ?_
  refine m_put S hw cl_O (mU_eq _ _ _) 7 (by decide) g399 (fun _ h => h) rfl rfl rfl (Nat.le_of_ble_eq_true rfl) d_O_lessen_14 (fun H locs hw => ?_)
  have hw : mW γ (mU (mU M a (.inr (2, [.int x0, .int x1, .int x2, .int x3, .int x4, .int x5, .int q0, .int x7, .int x8, .int x9]))) a (.inr (2, [.int x0, .int x1, .int x2, .int x3, .int x4, .int x5, .int q0, .int (if q0 < x7 then q0 else x7), .int x8, .int x9]))) s H locs := hw
  exact m_vret S hlk hr hw (mU_uu _ _ _ _) (Nat.le_refl _) (Nat.le_refl _) d_O_lessen_17
set_option maxHeartbeats 4000000 in
set_option maxRecDepth 100000 in
theorem c_O_mayShow (l : Launch) (γ : mG) (M : mMap) (a : Nat) (x0 x1 x2 x3 x4 x5 x6 x7 x8 x9 : Int32) (ha : M a = some (.inr (2, [.int x0, .int x1, .int x2, .int x3, .int x4, .int x5, .int x6, .int x7, .int x8, .int x9]))) : Met l y_O_mayShow w_O_mayShow ({ frames := 1, cells := 0, slots := 0, locals := 17 } : Room) (mPc γ M [.ref a]) (mQi γ (fun r M' => r = (if x3 = 0 then x6 else (if x3 < x6 then x3 else x6)) ∧ M' = M)) 0 0 (mA (gz γ)) := by
  refine m_enter (by decide) (Nat.le_of_ble_eq_true rfl) ?_
  intro p e s m below meth c ls S hr hlk hnm hl hw
  have hl : lv_has ls 1 [(0, .ref a)] := hl
  refine lv_aload_n S.1 S.2.1 d_O_mayShow_0 rfl (lv_at hl 0 rfl) ?_
  refine m_get S hw cl_O ha 3 (by decide) g390 (fun _ h => h) rfl d_O_mayShow_1 ?_
  refine lv_if_ne (tgt := 14) S.1 S.2.1 d_O_mayShow_4 rfl (fun h4 => ?_) (fun h4 => ?_)
  · refine lv_aload_n S.1 S.2.1 d_O_mayShow_14 rfl (lv_at hl 0 rfl) ?_
    refine m_get S hw cl_O ha 6 (by decide) g396 (fun _ h => h) rfl d_O_mayShow_15 ?_
    refine lv_aload_n S.1 S.2.1 d_O_mayShow_18 rfl (lv_at hl 0 rfl) ?_
    refine m_get S hw cl_O ha 3 (by decide) g390 (fun _ h => h) rfl d_O_mayShow_19 ?_
    refine va_mmin S.1 S.2.1 (S.2.2.1.trans hl.1.symm) S.2.2.2.1 (S.2.2.2.2 _ (gc g240)) (S.2.2.2.2 _ (gc g241)) (S.2.2.2.2 _ (gc g56)) (S.2.2.2.2 _ (gc g242)) (Nat.le_of_ble_eq_true rfl) (Nat.le_of_ble_eq_true rfl) (Nat.zero_le _) (Nat.zero_le _) d_O_mayShow_22 ?_
    exact m_iret S hlk hr rfl hw (by simp [h4]) (Nat.le_refl _) (Nat.le_refl _) d_O_mayShow_25
  · refine lv_aload_n S.1 S.2.1 d_O_mayShow_7 rfl (lv_at hl 0 rfl) ?_
    refine m_get S hw cl_O ha 6 (by decide) g396 (fun _ h => h) rfl d_O_mayShow_8 ?_
    refine lv_goto (tgt := 25) S.1 S.2.1 d_O_mayShow_11 rfl ?_
    exact m_iret S hlk hr rfl hw (by simp [h4]) (Nat.le_refl _) (Nat.le_refl _) d_O_mayShow_25
set_option maxHeartbeats 4000000 in
set_option maxRecDepth 100000 in
theorem c_O_takes (l : Launch) (γ : mG) (M : mMap) (a : Nat) (x0 x1 x2 x3 x4 x5 x6 x7 x8 x9 : Int32) (ha : M a = some (.inr (2, [.int x0, .int x1, .int x2, .int x3, .int x4, .int x5, .int x6, .int x7, .int x8, .int x9]))) (p0 : Int32) : Met l y_O_takes w_O_takes ({ frames := 0, cells := 0, slots := 0, locals := 0 } : Room) (mPc γ M [.ref a, .int p0]) (mQi γ (fun r M' => r = b2i (decide (x5 = 0) || (if x2 = 0 then decide (x5 ≤ p0) else decide (p0 ≤ x5))) ∧ M' = M)) 0 0 (mA (gz γ)) := by
  refine m_enter (by decide) (Nat.le_of_ble_eq_true rfl) ?_
  intro p e s m below meth c ls S hr hlk hnm hl hw
  have hl : lv_has ls 2 [(0, .ref a), (1, .int p0)] := hl
  refine lv_aload_n S.1 S.2.1 d_O_takes_0 rfl (lv_at hl 0 rfl) ?_
  refine m_get S hw cl_O ha 5 (by decide) g394 (fun _ h => h) rfl d_O_takes_1 ?_
  refine lv_if_ne (tgt := 9) S.1 S.2.1 d_O_takes_4 rfl (fun h4 => ?_) (fun h4 => ?_)
  · refine lv_aload_n S.1 S.2.1 d_O_takes_9 rfl (lv_at hl 0 rfl) ?_
    refine m_get S hw cl_O ha 2 (by decide) g388 (fun _ h => h) rfl d_O_takes_10 ?_
    refine lv_if_eq (tgt := 32) S.1 S.2.1 d_O_takes_13 rfl (fun h13 => ?_) (fun h13 => ?_)
    · refine lv_iload_n S.1 S.2.1 d_O_takes_32 rfl (lv_at hl 1 rfl) ?_
      refine lv_aload_n S.1 S.2.1 d_O_takes_33 rfl (lv_at hl 0 rfl) ?_
      refine m_get S hw cl_O ha 5 (by decide) g394 (fun _ h => h) rfl d_O_takes_34 ?_
      refine lv_icmp_lt (tgt := 44) S.1 S.2.1 d_O_takes_37 rfl (fun h37 => ?_) (fun h37 => ?_)
      · refine lv_iconst (v := 0) S.1 S.2.1 d_O_takes_44 (by decide) ?_
        exact m_iret S hlk hr rfl hw (by simp_all [b2i]) (Nat.le_refl _) (Nat.le_refl _) d_O_takes_45
      · refine lv_iconst (v := 1) S.1 S.2.1 d_O_takes_40 (by decide) ?_
        refine lv_goto (tgt := 45) S.1 S.2.1 d_O_takes_41 rfl ?_
        exact m_iret S hlk hr rfl hw (by simp_all [b2i]) (Nat.le_refl _) (Nat.le_refl _) d_O_takes_45
    · refine lv_iload_n S.1 S.2.1 d_O_takes_16 rfl (lv_at hl 1 rfl) ?_
      refine lv_aload_n S.1 S.2.1 d_O_takes_17 rfl (lv_at hl 0 rfl) ?_
      refine m_get S hw cl_O ha 5 (by decide) g394 (fun _ h => h) rfl d_O_takes_18 ?_
      refine lv_icmp_gt (tgt := 28) S.1 S.2.1 d_O_takes_21 rfl (fun h21 => ?_) (fun h21 => ?_)
      · refine lv_iconst (v := 0) S.1 S.2.1 d_O_takes_28 (by decide) ?_
        refine lv_goto (tgt := 45) S.1 S.2.1 d_O_takes_29 rfl ?_
        exact m_iret S hlk hr rfl hw (by simp_all [b2i]) (Nat.le_refl _) (Nat.le_refl _) d_O_takes_45
      · refine lv_iconst (v := 1) S.1 S.2.1 d_O_takes_24 (by decide) ?_
        refine lv_goto (tgt := 45) S.1 S.2.1 d_O_takes_25 rfl ?_
        exact m_iret S hlk hr rfl hw (by simp_all [b2i]) (Nat.le_refl _) (Nat.le_refl _) d_O_takes_45
  · refine lv_iconst (v := 1) S.1 S.2.1 d_O_takes_7 (by decide) ?_
    exact m_iret S hlk hr rfl hw (by simp_all [b2i]) (Nat.le_refl _) (Nat.le_refl _) d_O_takes_8
set_option maxHeartbeats 4000000 in
set_option maxRecDepth 100000 in
theorem c_O_standsBefore (l : Launch) (γ : mG) (M : mMap) (a : Nat) (x0 x1 x2 x3 x4 x5 x6 x7 x8 x9 : Int32) (ha : M a = some (.inr (2, [.int x0, .int x1, .int x2, .int x3, .int x4, .int x5, .int x6, .int x7, .int x8, .int x9]))) (b : Nat) (y0 y1 y2 y3 y4 y5 y6 y7 y8 y9 : Int32) (hb : M b = some (.inr (2, [.int y0, .int y1, .int y2, .int y3, .int y4, .int y5, .int y6, .int y7, .int y8, .int y9]))) : Met l y_O_standsBefore w_O_standsBefore ({ frames := 0, cells := 0, slots := 0, locals := 0 } : Room) (mPc γ M [.ref a, .ref b]) (mQi γ (fun r M' => r = b2i (if x5 = y5 then decide (x8 < y8) else if x5 = 0 ∨ y5 = 0 then decide (x5 = 0) else if x2 = 0 then decide (x5 < y5) else decide (y5 < x5)) ∧ M' = M)) 0 0 (mA (gz γ)) := by
  refine m_enter (by decide) (Nat.le_of_ble_eq_true rfl) ?_
  intro p e s m below meth c ls S hr hlk hnm hl hw
  have hl : lv_has ls 2 [(0, .ref a), (1, .ref b)] := hl
  refine lv_aload_n S.1 S.2.1 d_O_standsBefore_0 rfl (lv_at hl 0 rfl) ?_
  refine m_get S hw cl_O ha 5 (by decide) g394 (fun _ h => h) rfl d_O_standsBefore_1 ?_
  refine lv_aload_n S.1 S.2.1 d_O_standsBefore_4 rfl (lv_at hl 1 rfl) ?_
  refine m_get S hw cl_O hb 5 (by decide) g394 (fun _ h => h) rfl d_O_standsBefore_5 ?_
  refine lv_icmp_ne (tgt := 28) S.1 S.2.1 d_O_standsBefore_8 rfl (fun h8 => ?_) (fun h8 => ?_)
  · refine lv_aload_n S.1 S.2.1 d_O_standsBefore_28 rfl (lv_at hl 0 rfl) ?_
    refine m_get S hw cl_O ha 5 (by decide) g394 (fun _ h => h) rfl d_O_standsBefore_29 ?_
    refine lv_if_eq (tgt := 42) S.1 S.2.1 d_O_standsBefore_32 rfl (fun h32 => ?_) (fun h32 => ?_)
    · refine lv_aload_n S.1 S.2.1 d_O_standsBefore_42 rfl (lv_at hl 0 rfl) ?_
      refine m_get S hw cl_O ha 5 (by decide) g394 (fun _ h => h) rfl d_O_standsBefore_43 ?_
      refine lv_if_ne (tgt := 53) S.1 S.2.1 d_O_standsBefore_46 rfl (fun h46 => ?_) (fun h46 => ?_)
      · refine lv_iconst (v := 0) S.1 S.2.1 d_O_standsBefore_53 (by decide) ?_
        exact m_iret S hlk hr rfl hw (by simp_all [b2i]) (Nat.le_refl _) (Nat.le_refl _) d_O_standsBefore_54
      · refine lv_iconst (v := 1) S.1 S.2.1 d_O_standsBefore_49 (by decide) ?_
        refine lv_goto (tgt := 54) S.1 S.2.1 d_O_standsBefore_50 rfl ?_
        exact m_iret S hlk hr rfl hw (by simp_all [b2i]) (Nat.le_refl _) (Nat.le_refl _) d_O_standsBefore_54
    · refine lv_aload_n S.1 S.2.1 d_O_standsBefore_35 rfl (lv_at hl 1 rfl) ?_
      refine m_get S hw cl_O hb 5 (by decide) g394 (fun _ h => h) rfl d_O_standsBefore_36 ?_
      refine lv_if_ne (tgt := 55) S.1 S.2.1 d_O_standsBefore_39 rfl (fun h39 => ?_) (fun h39 => ?_)
      · refine lv_aload_n S.1 S.2.1 d_O_standsBefore_55 rfl (lv_at hl 0 rfl) ?_
        refine m_get S hw cl_O ha 2 (by decide) g388 (fun _ h => h) rfl d_O_standsBefore_56 ?_
        refine lv_if_eq (tgt := 81) S.1 S.2.1 d_O_standsBefore_59 rfl (fun h59 => ?_) (fun h59 => ?_)
        · refine lv_aload_n S.1 S.2.1 d_O_standsBefore_81 rfl (lv_at hl 0 rfl) ?_
          refine m_get S hw cl_O ha 5 (by decide) g394 (fun _ h => h) rfl d_O_standsBefore_82 ?_
          refine lv_aload_n S.1 S.2.1 d_O_standsBefore_85 rfl (lv_at hl 1 rfl) ?_
          refine m_get S hw cl_O hb 5 (by decide) g394 (fun _ h => h) rfl d_O_standsBefore_86 ?_
          refine lv_icmp_ge (tgt := 96) S.1 S.2.1 d_O_standsBefore_89 rfl (fun h89 => ?_) (fun h89 => ?_)
          · refine lv_iconst (v := 0) S.1 S.2.1 d_O_standsBefore_96 (by decide) ?_
            exact m_iret S hlk hr rfl hw (by simp_all [b2i]) (Nat.le_refl _) (Nat.le_refl _) d_O_standsBefore_97
          · refine lv_iconst (v := 1) S.1 S.2.1 d_O_standsBefore_92 (by decide) ?_
            refine lv_goto (tgt := 97) S.1 S.2.1 d_O_standsBefore_93 rfl ?_
            exact m_iret S hlk hr rfl hw (by simp_all [b2i]) (Nat.le_refl _) (Nat.le_refl _) d_O_standsBefore_97
        · refine lv_aload_n S.1 S.2.1 d_O_standsBefore_62 rfl (lv_at hl 0 rfl) ?_
          refine m_get S hw cl_O ha 5 (by decide) g394 (fun _ h => h) rfl d_O_standsBefore_63 ?_
          refine lv_aload_n S.1 S.2.1 d_O_standsBefore_66 rfl (lv_at hl 1 rfl) ?_
          refine m_get S hw cl_O hb 5 (by decide) g394 (fun _ h => h) rfl d_O_standsBefore_67 ?_
          refine lv_icmp_le (tgt := 77) S.1 S.2.1 d_O_standsBefore_70 rfl (fun h70 => ?_) (fun h70 => ?_)
          · refine lv_iconst (v := 0) S.1 S.2.1 d_O_standsBefore_77 (by decide) ?_
            refine lv_goto (tgt := 97) S.1 S.2.1 d_O_standsBefore_78 rfl ?_
            exact m_iret S hlk hr rfl hw (by simp_all [b2i]) (Nat.le_refl _) (Nat.le_refl _) d_O_standsBefore_97
          · refine lv_iconst (v := 1) S.1 S.2.1 d_O_standsBefore_73 (by decide) ?_
            refine lv_goto (tgt := 97) S.1 S.2.1 d_O_standsBefore_74 rfl ?_
            exact m_iret S hlk hr rfl hw (by simp_all [b2i]) (Nat.le_refl _) (Nat.le_refl _) d_O_standsBefore_97
      · refine lv_aload_n S.1 S.2.1 d_O_standsBefore_42 rfl (lv_at hl 0 rfl) ?_
        refine m_get S hw cl_O ha 5 (by decide) g394 (fun _ h => h) rfl d_O_standsBefore_43 ?_
        refine lv_if_ne (tgt := 53) S.1 S.2.1 d_O_standsBefore_46 rfl (fun h46 => ?_) (fun h46 => ?_)
        · refine lv_iconst (v := 0) S.1 S.2.1 d_O_standsBefore_53 (by decide) ?_
          exact m_iret S hlk hr rfl hw (by simp_all [b2i]) (Nat.le_refl _) (Nat.le_refl _) d_O_standsBefore_54
        · refine lv_iconst (v := 1) S.1 S.2.1 d_O_standsBefore_49 (by decide) ?_
          refine lv_goto (tgt := 54) S.1 S.2.1 d_O_standsBefore_50 rfl ?_
          exact m_iret S hlk hr rfl hw (by simp_all [b2i]) (Nat.le_refl _) (Nat.le_refl _) d_O_standsBefore_54
  · refine lv_aload_n S.1 S.2.1 d_O_standsBefore_11 rfl (lv_at hl 0 rfl) ?_
    refine m_get S hw cl_O ha 8 (by decide) g401 (fun _ h => h) rfl d_O_standsBefore_12 ?_
    refine lv_aload_n S.1 S.2.1 d_O_standsBefore_15 rfl (lv_at hl 1 rfl) ?_
    refine m_get S hw cl_O hb 8 (by decide) g401 (fun _ h => h) rfl d_O_standsBefore_16 ?_
    refine lv_icmp_ge (tgt := 26) S.1 S.2.1 d_O_standsBefore_19 rfl (fun h19 => ?_) (fun h19 => ?_)
    · refine lv_iconst (v := 0) S.1 S.2.1 d_O_standsBefore_26 (by decide) ?_
      exact m_iret S hlk hr rfl hw (by simp_all [b2i]) (Nat.le_refl _) (Nat.le_refl _) d_O_standsBefore_27
    · refine lv_iconst (v := 1) S.1 S.2.1 d_O_standsBefore_22 (by decide) ?_
      refine lv_goto (tgt := 27) S.1 S.2.1 d_O_standsBefore_23 rfl ?_
      exact m_iret S hlk hr rfl hw (by simp_all [b2i]) (Nat.le_refl _) (Nat.le_refl _) d_O_standsBefore_27
set_option maxHeartbeats 4000000 in
set_option maxRecDepth 100000 in
theorem c_O_isWrongAtRest (l : Launch) (γ : mG) (M : mMap) (a : Nat) (x0 x1 x2 x3 x4 x5 x6 x7 x8 x9 : Int32) (ha : M a = some (.inr (2, [.int x0, .int x1, .int x2, .int x3, .int x4, .int x5, .int x6, .int x7, .int x8, .int x9]))) : Met l y_O_isWrongAtRest w_O_isWrongAtRest ({ frames := 2, cells := 0, slots := 0, locals := 37 } : Room) (mPc γ M [.ref a]) (mQi γ (fun r M' => r = b2i ((decide (x8 = -1) || decide (x6 < 1) || decide (100000 < x6)) || (decide (x7 < 1) || decide ((if x3 = 0 then x6 else (if x3 < x6 then x3 else x6)) < x7) || (decide (x3 = 0) && decide (¬ x7 = x6)))) ∧ M' = M)) 0 0 (mA (gz γ)) := by
  refine m_enter (by decide) (Nat.le_of_ble_eq_true rfl) ?_
  intro p e s m below meth c ls S hr hlk hnm hl hw
  have hl : lv_has ls 2 [(0, .ref a)] := hl
  refine lv_aload_n S.1 S.2.1 d_O_isWrongAtRest_0 rfl (lv_at hl 0 rfl) ?_
  refine m_get S hw cl_O ha 7 (by decide) g399 (fun _ h => h) rfl d_O_isWrongAtRest_1 ?_
  refine lv_iconst (v := 1) S.1 S.2.1 d_O_isWrongAtRest_4 (by decide) ?_
  refine lv_icmp_lt (tgt := 37) S.1 S.2.1 d_O_isWrongAtRest_5 rfl (fun h5 => ?_) (fun h5 => ?_)
  · refine lv_iconst (v := 1) S.1 S.2.1 d_O_isWrongAtRest_37 (by decide) ?_
    refine lv_goto (tgt := 42) S.1 S.2.1 d_O_isWrongAtRest_38 rfl ?_
    refine lv_istore_n S.1 S.2.1 d_O_isWrongAtRest_42 rfl hl (by decide) rfl (fun ls hl => ?_)
    have hl : lv_has ls 2 [(1, .int 1), (0, .ref a)] := hl
    refine lv_aload_n S.1 S.2.1 d_O_isWrongAtRest_43 rfl (lv_at hl 1 rfl) ?_
    refine m_ci hw (va_runV (As := []) (rest := []) S (c_O_rests l γ M a _ _ _ _ _ _ _ _ _ _ ha) (m_cwV 0 S g243 g244 g245 g54 g246 rfl rfl ⟨by decide +kernel, by decide +kernel, by decide +kernel⟩ ⟨(Nat.le_of_ble_eq_true rfl), (Nat.le_of_ble_eq_true rfl)⟩) (hw.preV ha cl_O.1) rfl rfl hl.1 rfl (lv_room (Nat.le_of_ble_eq_true rfl)) d_O_isWrongAtRest_44 ⟨(Nat.zero_le _), (Nat.zero_le _)⟩) (fun r1 M1 H locs hp hw => ?_)
    obtain ⟨rfl, hM1⟩ := hp
    rw [hM1] at hw
    refine lv_if_eq (tgt := 71) S.1 S.2.1 d_O_isWrongAtRest_47 rfl (fun h47 => ?_) (fun h47 => ?_)
    · refine lv_iconst (v := 1) S.1 S.2.1 d_O_isWrongAtRest_71 (by decide) ?_
      refine lv_goto (tgt := 76) S.1 S.2.1 d_O_isWrongAtRest_72 rfl ?_
      exact m_iret S hlk hr rfl hw (by simp_all [b2i]) (Nat.le_refl _) (Nat.le_refl _) d_O_isWrongAtRest_76
    · refine lv_aload_n S.1 S.2.1 d_O_isWrongAtRest_50 rfl (lv_at hl 1 rfl) ?_
      refine m_get S hw cl_O ha 6 (by decide) g396 (fun _ h => h) rfl d_O_isWrongAtRest_51 ?_
      refine lv_iconst (v := 1) S.1 S.2.1 d_O_isWrongAtRest_54 (by decide) ?_
      refine lv_icmp_lt (tgt := 71) S.1 S.2.1 d_O_isWrongAtRest_55 rfl (fun h55 => ?_) (fun h55 => ?_)
      · refine lv_iconst (v := 1) S.1 S.2.1 d_O_isWrongAtRest_71 (by decide) ?_
        refine lv_goto (tgt := 76) S.1 S.2.1 d_O_isWrongAtRest_72 rfl ?_
        exact m_iret S hlk hr rfl hw (by simp_all [b2i]) (Nat.le_refl _) (Nat.le_refl _) d_O_isWrongAtRest_76
      · refine lv_aload_n S.1 S.2.1 d_O_isWrongAtRest_58 rfl (lv_at hl 1 rfl) ?_
        refine m_get S hw cl_O ha 6 (by decide) g396 (fun _ h => h) rfl d_O_isWrongAtRest_59 ?_
        refine lv_ldc S.1 S.2.1 S.2.2.2.1 (S.2.2.2.2 _ (gc g247)) d_O_isWrongAtRest_62 ?_
        refine lv_icmp_gt (tgt := 71) S.1 S.2.1 d_O_isWrongAtRest_64 rfl (fun h64 => ?_) (fun h64 => ?_)
        · refine lv_iconst (v := 1) S.1 S.2.1 d_O_isWrongAtRest_71 (by decide) ?_
          refine lv_goto (tgt := 76) S.1 S.2.1 d_O_isWrongAtRest_72 rfl ?_
          exact m_iret S hlk hr rfl hw (by simp_all [b2i]) (Nat.le_refl _) (Nat.le_refl _) d_O_isWrongAtRest_76
        · refine lv_iload_n S.1 S.2.1 d_O_isWrongAtRest_67 rfl (lv_at hl 0 rfl) ?_
          refine lv_if_eq (tgt := 75) S.1 S.2.1 d_O_isWrongAtRest_68 rfl (fun h68 => ?_) (fun h68 => ?_)
          · refine lv_iconst (v := 0) S.1 S.2.1 d_O_isWrongAtRest_75 (by decide) ?_
            exact m_iret S hlk hr rfl hw (by simp_all [b2i]) (Nat.le_refl _) (Nat.le_refl _) d_O_isWrongAtRest_76
          · refine lv_iconst (v := 1) S.1 S.2.1 d_O_isWrongAtRest_71 (by decide) ?_
            refine lv_goto (tgt := 76) S.1 S.2.1 d_O_isWrongAtRest_72 rfl ?_
            exact m_iret S hlk hr rfl hw (by simp_all [b2i]) (Nat.le_refl _) (Nat.le_refl _) d_O_isWrongAtRest_76
  · refine lv_aload_n S.1 S.2.1 d_O_isWrongAtRest_8 rfl (lv_at hl 0 rfl) ?_
    refine m_get S hw cl_O ha 7 (by decide) g399 (fun _ h => h) rfl d_O_isWrongAtRest_9 ?_
    refine lv_aload_n S.1 S.2.1 d_O_isWrongAtRest_12 rfl (lv_at hl 0 rfl) ?_
    refine m_ci hw (va_runV (As := []) (rest := [.int x7]) S (c_O_mayShow l γ M a _ _ _ _ _ _ _ _ _ _ ha) (m_cwV 0 S g236 g237 g238 g54 g239 rfl rfl ⟨by decide +kernel, by decide +kernel, by decide +kernel⟩ ⟨(Nat.le_of_ble_eq_true rfl), (Nat.le_of_ble_eq_true rfl)⟩) (hw.preV ha cl_O.1) rfl rfl hl.1 rfl (lv_room (Nat.le_of_ble_eq_true rfl)) d_O_isWrongAtRest_13 ⟨(Nat.zero_le _), (Nat.zero_le _)⟩) (fun r1 M1 H locs hp hw => ?_)
    obtain ⟨rfl, hM1⟩ := hp
    rw [hM1] at hw
    refine lv_icmp_gt (tgt := 37) S.1 S.2.1 d_O_isWrongAtRest_16 rfl (fun h16 => ?_) (fun h16 => ?_)
    · refine lv_iconst (v := 1) S.1 S.2.1 d_O_isWrongAtRest_37 (by decide) ?_
      refine lv_goto (tgt := 42) S.1 S.2.1 d_O_isWrongAtRest_38 rfl ?_
      refine lv_istore_n S.1 S.2.1 d_O_isWrongAtRest_42 rfl hl (by decide) rfl (fun ls hl => ?_)
      have hl : lv_has ls 2 [(1, .int 1), (0, .ref a)] := hl
      refine lv_aload_n S.1 S.2.1 d_O_isWrongAtRest_43 rfl (lv_at hl 1 rfl) ?_
      refine m_ci hw (va_runV (As := []) (rest := []) S (c_O_rests l γ M a _ _ _ _ _ _ _ _ _ _ ha) (m_cwV 0 S g243 g244 g245 g54 g246 rfl rfl ⟨by decide +kernel, by decide +kernel, by decide +kernel⟩ ⟨(Nat.le_of_ble_eq_true rfl), (Nat.le_of_ble_eq_true rfl)⟩) (hw.preV ha cl_O.1) rfl rfl hl.1 rfl (lv_room (Nat.le_of_ble_eq_true rfl)) d_O_isWrongAtRest_44 ⟨(Nat.zero_le _), (Nat.zero_le _)⟩) (fun r1 M1 H locs hp hw => ?_)
      obtain ⟨rfl, hM1⟩ := hp
      rw [hM1] at hw
      refine lv_if_eq (tgt := 71) S.1 S.2.1 d_O_isWrongAtRest_47 rfl (fun h47 => ?_) (fun h47 => ?_)
      · refine lv_iconst (v := 1) S.1 S.2.1 d_O_isWrongAtRest_71 (by decide) ?_
        refine lv_goto (tgt := 76) S.1 S.2.1 d_O_isWrongAtRest_72 rfl ?_
        exact m_iret S hlk hr rfl hw (by simp_all [b2i]) (Nat.le_refl _) (Nat.le_refl _) d_O_isWrongAtRest_76
      · refine lv_aload_n S.1 S.2.1 d_O_isWrongAtRest_50 rfl (lv_at hl 1 rfl) ?_
        refine m_get S hw cl_O ha 6 (by decide) g396 (fun _ h => h) rfl d_O_isWrongAtRest_51 ?_
        refine lv_iconst (v := 1) S.1 S.2.1 d_O_isWrongAtRest_54 (by decide) ?_
        refine lv_icmp_lt (tgt := 71) S.1 S.2.1 d_O_isWrongAtRest_55 rfl (fun h55 => ?_) (fun h55 => ?_)
        · refine lv_iconst (v := 1) S.1 S.2.1 d_O_isWrongAtRest_71 (by decide) ?_
          refine lv_goto (tgt := 76) S.1 S.2.1 d_O_isWrongAtRest_72 rfl ?_
          exact m_iret S hlk hr rfl hw (by simp_all [b2i]) (Nat.le_refl _) (Nat.le_refl _) d_O_isWrongAtRest_76
        · refine lv_aload_n S.1 S.2.1 d_O_isWrongAtRest_58 rfl (lv_at hl 1 rfl) ?_
          refine m_get S hw cl_O ha 6 (by decide) g396 (fun _ h => h) rfl d_O_isWrongAtRest_59 ?_
          refine lv_ldc S.1 S.2.1 S.2.2.2.1 (S.2.2.2.2 _ (gc g247)) d_O_isWrongAtRest_62 ?_
          refine lv_icmp_gt (tgt := 71) S.1 S.2.1 d_O_isWrongAtRest_64 rfl (fun h64 => ?_) (fun h64 => ?_)
          · refine lv_iconst (v := 1) S.1 S.2.1 d_O_isWrongAtRest_71 (by decide) ?_
            refine lv_goto (tgt := 76) S.1 S.2.1 d_O_isWrongAtRest_72 rfl ?_
            exact m_iret S hlk hr rfl hw (by simp_all [b2i]) (Nat.le_refl _) (Nat.le_refl _) d_O_isWrongAtRest_76
          · refine lv_iload_n S.1 S.2.1 d_O_isWrongAtRest_67 rfl (lv_at hl 0 rfl) ?_
            refine lv_if_eq (tgt := 75) S.1 S.2.1 d_O_isWrongAtRest_68 rfl (fun h68 => ?_) (fun h68 => ?_)
            · refine lv_iconst (v := 0) S.1 S.2.1 d_O_isWrongAtRest_75 (by decide) ?_
              exact m_iret S hlk hr rfl hw (by simp_all [b2i]) (Nat.le_refl _) (Nat.le_refl _) d_O_isWrongAtRest_76
            · refine lv_iconst (v := 1) S.1 S.2.1 d_O_isWrongAtRest_71 (by decide) ?_
              refine lv_goto (tgt := 76) S.1 S.2.1 d_O_isWrongAtRest_72 rfl ?_
              exact m_iret S hlk hr rfl hw (by simp_all [b2i]) (Nat.le_refl _) (Nat.le_refl _) d_O_isWrongAtRest_76
    · refine lv_aload_n S.1 S.2.1 d_O_isWrongAtRest_19 rfl (lv_at hl 0 rfl) ?_
      refine m_get S hw cl_O ha 3 (by decide) g390 (fun _ h => h) rfl d_O_isWrongAtRest_20 ?_
      refine lv_if_ne (tgt := 41) S.1 S.2.1 d_O_isWrongAtRest_23 rfl (fun h23 => ?_) (fun h23 => ?_)
      · refine lv_iconst (v := 0) S.1 S.2.1 d_O_isWrongAtRest_41 (by decide) ?_
        refine lv_istore_n S.1 S.2.1 d_O_isWrongAtRest_42 rfl hl (by decide) rfl (fun ls hl => ?_)
        have hl : lv_has ls 2 [(1, .int 0), (0, .ref a)] := hl
        refine lv_aload_n S.1 S.2.1 d_O_isWrongAtRest_43 rfl (lv_at hl 1 rfl) ?_
        refine m_ci hw (va_runV (As := []) (rest := []) S (c_O_rests l γ M a _ _ _ _ _ _ _ _ _ _ ha) (m_cwV 0 S g243 g244 g245 g54 g246 rfl rfl ⟨by decide +kernel, by decide +kernel, by decide +kernel⟩ ⟨(Nat.le_of_ble_eq_true rfl), (Nat.le_of_ble_eq_true rfl)⟩) (hw.preV ha cl_O.1) rfl rfl hl.1 rfl (lv_room (Nat.le_of_ble_eq_true rfl)) d_O_isWrongAtRest_44 ⟨(Nat.zero_le _), (Nat.zero_le _)⟩) (fun r1 M1 H locs hp hw => ?_)
        obtain ⟨rfl, hM1⟩ := hp
        rw [hM1] at hw
        refine lv_if_eq (tgt := 71) S.1 S.2.1 d_O_isWrongAtRest_47 rfl (fun h47 => ?_) (fun h47 => ?_)
        · refine lv_iconst (v := 1) S.1 S.2.1 d_O_isWrongAtRest_71 (by decide) ?_
          refine lv_goto (tgt := 76) S.1 S.2.1 d_O_isWrongAtRest_72 rfl ?_
          exact m_iret S hlk hr rfl hw (by simp_all [b2i]) (Nat.le_refl _) (Nat.le_refl _) d_O_isWrongAtRest_76
        · refine lv_aload_n S.1 S.2.1 d_O_isWrongAtRest_50 rfl (lv_at hl 1 rfl) ?_
          refine m_get S hw cl_O ha 6 (by decide) g396 (fun _ h => h) rfl d_O_isWrongAtRest_51 ?_
          refine lv_iconst (v := 1) S.1 S.2.1 d_O_isWrongAtRest_54 (by decide) ?_
          refine lv_icmp_lt (tgt := 71) S.1 S.2.1 d_O_isWrongAtRest_55 rfl (fun h55 => ?_) (fun h55 => ?_)
          · refine lv_iconst (v := 1) S.1 S.2.1 d_O_isWrongAtRest_71 (by decide) ?_
            refine lv_goto (tgt := 76) S.1 S.2.1 d_O_isWrongAtRest_72 rfl ?_
            exact m_iret S hlk hr rfl hw (by simp_all [b2i]) (Nat.le_refl _) (Nat.le_refl _) d_O_isWrongAtRest_76
          · refine lv_aload_n S.1 S.2.1 d_O_isWrongAtRest_58 rfl (lv_at hl 1 rfl) ?_
            refine m_get S hw cl_O ha 6 (by decide) g396 (fun _ h => h) rfl d_O_isWrongAtRest_59 ?_
            refine lv_ldc S.1 S.2.1 S.2.2.2.1 (S.2.2.2.2 _ (gc g247)) d_O_isWrongAtRest_62 ?_
            refine lv_icmp_gt (tgt := 71) S.1 S.2.1 d_O_isWrongAtRest_64 rfl (fun h64 => ?_) (fun h64 => ?_)
            · refine lv_iconst (v := 1) S.1 S.2.1 d_O_isWrongAtRest_71 (by decide) ?_
              refine lv_goto (tgt := 76) S.1 S.2.1 d_O_isWrongAtRest_72 rfl ?_
              exact m_iret S hlk hr rfl hw (by simp_all [b2i]) (Nat.le_refl _) (Nat.le_refl _) d_O_isWrongAtRest_76
            · refine lv_iload_n S.1 S.2.1 d_O_isWrongAtRest_67 rfl (lv_at hl 0 rfl) ?_
              refine lv_if_eq (tgt := 75) S.1 S.2.1 d_O_isWrongAtRest_68 rfl (fun h68 => ?_) (fun h68 => ?_)
              · refine lv_iconst (v := 0) S.1 S.2.1 d_O_isWrongAtRest_75 (by decide) ?_
                exact m_iret S hlk hr rfl hw (by simp_all [b2i]) (Nat.le_refl _) (Nat.le_refl _) d_O_isWrongAtRest_76
              · refine lv_iconst (v := 1) S.1 S.2.1 d_O_isWrongAtRest_71 (by decide) ?_
                refine lv_goto (tgt := 76) S.1 S.2.1 d_O_isWrongAtRest_72 rfl ?_
                exact m_iret S hlk hr rfl hw (by simp_all [b2i]) (Nat.le_refl _) (Nat.le_refl _) d_O_isWrongAtRest_76
      · refine lv_aload_n S.1 S.2.1 d_O_isWrongAtRest_26 rfl (lv_at hl 0 rfl) ?_
        refine m_get S hw cl_O ha 7 (by decide) g399 (fun _ h => h) rfl d_O_isWrongAtRest_27 ?_
        refine lv_aload_n S.1 S.2.1 d_O_isWrongAtRest_30 rfl (lv_at hl 0 rfl) ?_
        refine m_get S hw cl_O ha 6 (by decide) g396 (fun _ h => h) rfl d_O_isWrongAtRest_31 ?_
        refine lv_icmp_eq (tgt := 41) S.1 S.2.1 d_O_isWrongAtRest_34 rfl (fun h34 => ?_) (fun h34 => ?_)
        · refine lv_iconst (v := 0) S.1 S.2.1 d_O_isWrongAtRest_41 (by decide) ?_
          refine lv_istore_n S.1 S.2.1 d_O_isWrongAtRest_42 rfl hl (by decide) rfl (fun ls hl => ?_)
          have hl : lv_has ls 2 [(1, .int 0), (0, .ref a)] := hl
          refine lv_aload_n S.1 S.2.1 d_O_isWrongAtRest_43 rfl (lv_at hl 1 rfl) ?_
          refine m_ci hw (va_runV (As := []) (rest := []) S (c_O_rests l γ M a _ _ _ _ _ _ _ _ _ _ ha) (m_cwV 0 S g243 g244 g245 g54 g246 rfl rfl ⟨by decide +kernel, by decide +kernel, by decide +kernel⟩ ⟨(Nat.le_of_ble_eq_true rfl), (Nat.le_of_ble_eq_true rfl)⟩) (hw.preV ha cl_O.1) rfl rfl hl.1 rfl (lv_room (Nat.le_of_ble_eq_true rfl)) d_O_isWrongAtRest_44 ⟨(Nat.zero_le _), (Nat.zero_le _)⟩) (fun r1 M1 H locs hp hw => ?_)
          obtain ⟨rfl, hM1⟩ := hp
          rw [hM1] at hw
          refine lv_if_eq (tgt := 71) S.1 S.2.1 d_O_isWrongAtRest_47 rfl (fun h47 => ?_) (fun h47 => ?_)
          · refine lv_iconst (v := 1) S.1 S.2.1 d_O_isWrongAtRest_71 (by decide) ?_
            refine lv_goto (tgt := 76) S.1 S.2.1 d_O_isWrongAtRest_72 rfl ?_
            exact m_iret S hlk hr rfl hw (by simp_all [b2i]) (Nat.le_refl _) (Nat.le_refl _) d_O_isWrongAtRest_76
          · refine lv_aload_n S.1 S.2.1 d_O_isWrongAtRest_50 rfl (lv_at hl 1 rfl) ?_
            refine m_get S hw cl_O ha 6 (by decide) g396 (fun _ h => h) rfl d_O_isWrongAtRest_51 ?_
            refine lv_iconst (v := 1) S.1 S.2.1 d_O_isWrongAtRest_54 (by decide) ?_
            refine lv_icmp_lt (tgt := 71) S.1 S.2.1 d_O_isWrongAtRest_55 rfl (fun h55 => ?_) (fun h55 => ?_)
            · refine lv_iconst (v := 1) S.1 S.2.1 d_O_isWrongAtRest_71 (by decide) ?_
              refine lv_goto (tgt := 76) S.1 S.2.1 d_O_isWrongAtRest_72 rfl ?_
              exact m_iret S hlk hr rfl hw (by simp_all [b2i]) (Nat.le_refl _) (Nat.le_refl _) d_O_isWrongAtRest_76
            · refine lv_aload_n S.1 S.2.1 d_O_isWrongAtRest_58 rfl (lv_at hl 1 rfl) ?_
              refine m_get S hw cl_O ha 6 (by decide) g396 (fun _ h => h) rfl d_O_isWrongAtRest_59 ?_
              refine lv_ldc S.1 S.2.1 S.2.2.2.1 (S.2.2.2.2 _ (gc g247)) d_O_isWrongAtRest_62 ?_
              refine lv_icmp_gt (tgt := 71) S.1 S.2.1 d_O_isWrongAtRest_64 rfl (fun h64 => ?_) (fun h64 => ?_)
              · refine lv_iconst (v := 1) S.1 S.2.1 d_O_isWrongAtRest_71 (by decide) ?_
                refine lv_goto (tgt := 76) S.1 S.2.1 d_O_isWrongAtRest_72 rfl ?_
                exact m_iret S hlk hr rfl hw (by simp_all [b2i]) (Nat.le_refl _) (Nat.le_refl _) d_O_isWrongAtRest_76
              · refine lv_iload_n S.1 S.2.1 d_O_isWrongAtRest_67 rfl (lv_at hl 0 rfl) ?_
                refine lv_if_eq (tgt := 75) S.1 S.2.1 d_O_isWrongAtRest_68 rfl (fun h68 => ?_) (fun h68 => ?_)
                · refine lv_iconst (v := 0) S.1 S.2.1 d_O_isWrongAtRest_75 (by decide) ?_
                  exact m_iret S hlk hr rfl hw (by simp_all [b2i]) (Nat.le_refl _) (Nat.le_refl _) d_O_isWrongAtRest_76
                · refine lv_iconst (v := 1) S.1 S.2.1 d_O_isWrongAtRest_71 (by decide) ?_
                  refine lv_goto (tgt := 76) S.1 S.2.1 d_O_isWrongAtRest_72 rfl ?_
                  exact m_iret S hlk hr rfl hw (by simp_all [b2i]) (Nat.le_refl _) (Nat.le_refl _) d_O_isWrongAtRest_76
        · refine lv_iconst (v := 1) S.1 S.2.1 d_O_isWrongAtRest_37 (by decide) ?_
          refine lv_goto (tgt := 42) S.1 S.2.1 d_O_isWrongAtRest_38 rfl ?_
          refine lv_istore_n S.1 S.2.1 d_O_isWrongAtRest_42 rfl hl (by decide) rfl (fun ls hl => ?_)
          have hl : lv_has ls 2 [(1, .int 1), (0, .ref a)] := hl
          refine lv_aload_n S.1 S.2.1 d_O_isWrongAtRest_43 rfl (lv_at hl 1 rfl) ?_
          refine m_ci hw (va_runV (As := []) (rest := []) S (c_O_rests l γ M a _ _ _ _ _ _ _ _ _ _ ha) (m_cwV 0 S g243 g244 g245 g54 g246 rfl rfl ⟨by decide +kernel, by decide +kernel, by decide +kernel⟩ ⟨(Nat.le_of_ble_eq_true rfl), (Nat.le_of_ble_eq_true rfl)⟩) (hw.preV ha cl_O.1) rfl rfl hl.1 rfl (lv_room (Nat.le_of_ble_eq_true rfl)) d_O_isWrongAtRest_44 ⟨(Nat.zero_le _), (Nat.zero_le _)⟩) (fun r1 M1 H locs hp hw => ?_)
          obtain ⟨rfl, hM1⟩ := hp
          rw [hM1] at hw
          refine lv_if_eq (tgt := 71) S.1 S.2.1 d_O_isWrongAtRest_47 rfl (fun h47 => ?_) (fun h47 => ?_)
          · refine lv_iconst (v := 1) S.1 S.2.1 d_O_isWrongAtRest_71 (by decide) ?_
            refine lv_goto (tgt := 76) S.1 S.2.1 d_O_isWrongAtRest_72 rfl ?_
            exact m_iret S hlk hr rfl hw (by simp_all [b2i]) (Nat.le_refl _) (Nat.le_refl _) d_O_isWrongAtRest_76
          · refine lv_aload_n S.1 S.2.1 d_O_isWrongAtRest_50 rfl (lv_at hl 1 rfl) ?_
            refine m_get S hw cl_O ha 6 (by decide) g396 (fun _ h => h) rfl d_O_isWrongAtRest_51 ?_
            refine lv_iconst (v := 1) S.1 S.2.1 d_O_isWrongAtRest_54 (by decide) ?_
            refine lv_icmp_lt (tgt := 71) S.1 S.2.1 d_O_isWrongAtRest_55 rfl (fun h55 => ?_) (fun h55 => ?_)
            · refine lv_iconst (v := 1) S.1 S.2.1 d_O_isWrongAtRest_71 (by decide) ?_
              refine lv_goto (tgt := 76) S.1 S.2.1 d_O_isWrongAtRest_72 rfl ?_
              exact m_iret S hlk hr rfl hw (by simp_all [b2i]) (Nat.le_refl _) (Nat.le_refl _) d_O_isWrongAtRest_76
            · refine lv_aload_n S.1 S.2.1 d_O_isWrongAtRest_58 rfl (lv_at hl 1 rfl) ?_
              refine m_get S hw cl_O ha 6 (by decide) g396 (fun _ h => h) rfl d_O_isWrongAtRest_59 ?_
              refine lv_ldc S.1 S.2.1 S.2.2.2.1 (S.2.2.2.2 _ (gc g247)) d_O_isWrongAtRest_62 ?_
              refine lv_icmp_gt (tgt := 71) S.1 S.2.1 d_O_isWrongAtRest_64 rfl (fun h64 => ?_) (fun h64 => ?_)
              · refine lv_iconst (v := 1) S.1 S.2.1 d_O_isWrongAtRest_71 (by decide) ?_
                refine lv_goto (tgt := 76) S.1 S.2.1 d_O_isWrongAtRest_72 rfl ?_
                exact m_iret S hlk hr rfl hw (by simp_all [b2i]) (Nat.le_refl _) (Nat.le_refl _) d_O_isWrongAtRest_76
              · refine lv_iload_n S.1 S.2.1 d_O_isWrongAtRest_67 rfl (lv_at hl 0 rfl) ?_
                refine lv_if_eq (tgt := 75) S.1 S.2.1 d_O_isWrongAtRest_68 rfl (fun h68 => ?_) (fun h68 => ?_)
                · refine lv_iconst (v := 0) S.1 S.2.1 d_O_isWrongAtRest_75 (by decide) ?_
                  exact m_iret S hlk hr rfl hw (by simp_all [b2i]) (Nat.le_refl _) (Nat.le_refl _) d_O_isWrongAtRest_76
                · refine lv_iconst (v := 1) S.1 S.2.1 d_O_isWrongAtRest_71 (by decide) ?_
                  refine lv_goto (tgt := 76) S.1 S.2.1 d_O_isWrongAtRest_72 rfl ?_
                  exact m_iret S hlk hr rfl hw (by simp_all [b2i]) (Nat.le_refl _) (Nat.le_refl _) d_O_isWrongAtRest_76
