/-! CallBook$Auction (1) -/
set_option maxHeartbeats 4000000 in
set_option maxRecDepth 100000 in
theorem c_A_leftOf (l : Launch) (γ : mG) (M : mMap) (l0 r0 cap n : Nat) (K : List Nat) (oa : Nat → Nat) (I : Co) (hO : OR M oa I n) (hA : AL γ M l0 r0 cap (K.map oa)) (hK : ∀ y, y ∈ K → y < n) (hlen : K.length ≤ 250) : Met l y_A_leftOf w_A_leftOf ({ frames := 3, cells := 0, slots := 0, locals := 64 } : Room) (mPc γ M [.ref l0]) (mQl γ (fun r M' => r = lSum I K ∧ M' = M)) 0 0 (mA (gz γ)) := by
  refine m_enter (by decide) (Nat.le_of_ble_eq_true rfl) ?_
  intro p e s m below meth c ls S hr hlk hnm hl hw
  have hl : lv_has ls 4 [(0, .ref l0)] := hl
  obtain ⟨⟨md, hl0⟩, -⟩ := id hA
  have hml : (K.map oa).length = K.length := List.length_map _
  refine lv_lconst (v := 0) S.1 S.2.1 d_A_leftOf_0 (by decide) ?_
  refine lv_lstore_n S.1 S.2.1 d_A_leftOf_1 rfl hl (by decide) rfl (fun ls hl => ?_)
  have hl : lv_has ls 4 [(1, .long 0), (0, .ref l0)] := hl
  refine lv_iconst (v := 0) S.1 S.2.1 d_A_leftOf_2 (by decide) ?_
  refine lv_istore_n S.1 S.2.1 d_A_leftOf_3 rfl hl (by decide) rfl (fun ls hl => ?_)
  have hl : lv_has ls 4 [(3, .int 0), (1, .long 0), (0, .ref l0)] := hl
  have loop : ∀ (d i0 : Nat) (a : Int64) (H : Heap) (locs : List Loc) (ls : Array Slot), i0 + d = K.length → a = lSum I (K.take i0) → lv_has ls 4 [(3, .int (nI i0)), (1, .long a), (0, .ref l0)] → mW γ M s H locs → W p l e ({ frames := 3, cells := 0, slots := 0, locals := 64 } : Room) s m #[.ref l0] below meth c H locs 0 0 (MQ below (mQl γ (fun r M' => r = lSum I K ∧ M' = M)) #[.ref l0] s 0 0 (mA (gz γ))) (F0 m 4 ls []) := by
    intro d
    induction d with
    | zero =>
      intro i0 a H locs ls hi ha hl hw
      refine lv_iload_n S.1 S.2.1 d_A_leftOf_4 rfl (lv_at hl 0 rfl) ?_
      refine lv_aload_n S.1 S.2.1 d_A_leftOf_5 rfl (lv_at hl 2 rfl) ?_
      refine m_ci hw (va_runV (As := []) (rest := [.int (nI i0)]) S (c_AL_size l γ M l0 md _ _ hl0) (m_cwV 0 S g619 g186 g187 g44 g188 rfl rfl ⟨by decide +kernel, by decide +kernel, by decide +kernel⟩ ⟨(Nat.le_of_ble_eq_true rfl), (Nat.le_of_ble_eq_true rfl)⟩) (hw.preV hl0 cl_AL.1) rfl rfl hl.1 rfl (lv_room (Nat.le_of_ble_eq_true rfl)) d_A_leftOf_6 ⟨(Nat.zero_le _), (Nat.zero_le _)⟩) (fun r1 M1 H locs hp hw => ?_)
      obtain ⟨rfl, hM1⟩ := hp
      rw [hM1] at hw
      refine lv_icmp_ge (tgt := 33) S.1 S.2.1 d_A_leftOf_9 rfl (fun _ => ?_) (fun h => absurd (nI_le (by omega) (by omega)) h)
      refine lv_lload_n S.1 S.2.1 d_A_leftOf_33 rfl (lv_at hl 1 rfl) ?_
      exact m_lret S hlk hr hw (⟨by rw [ha, List.take_of_length_le (by omega)], rfl⟩) (Nat.le_refl _) (Nat.le_refl _) d_A_leftOf_34
    | succ d ih =>
      intro i0 a H locs ls hi ha hl hw
      have hbd : i0 < K.length := by omega
      have hm := hK K[i0] (List.getElem_mem hbd)
      refine lv_iload_n S.1 S.2.1 d_A_leftOf_4 rfl (lv_at hl 0 rfl) ?_
      refine lv_aload_n S.1 S.2.1 d_A_leftOf_5 rfl (lv_at hl 2 rfl) ?_
      refine m_ci hw (va_runV (As := []) (rest := [.int (nI i0)]) S (c_AL_size l γ M l0 md _ _ hl0) (m_cwV 0 S g619 g186 g187 g44 g188 rfl rfl ⟨by decide +kernel, by decide +kernel, by decide +kernel⟩ ⟨(Nat.le_of_ble_eq_true rfl), (Nat.le_of_ble_eq_true rfl)⟩) (hw.preV hl0 cl_AL.1) rfl rfl hl.1 rfl (lv_room (Nat.le_of_ble_eq_true rfl)) d_A_leftOf_6 ⟨(Nat.zero_le _), (Nat.zero_le _)⟩) (fun r1 M1 H locs hp hw => ?_)
      obtain ⟨rfl, hM1⟩ := hp
      rw [hM1] at hw
      refine lv_icmp_ge (tgt := 33) S.1 S.2.1 d_A_leftOf_9 rfl (fun h => absurd h (nI_ge (by omega) (by omega))) (fun _ => ?_)
      refine lv_lload_n S.1 S.2.1 d_A_leftOf_12 rfl (lv_at hl 1 rfl) ?_
      refine lv_aload_n S.1 S.2.1 d_A_leftOf_13 rfl (lv_at hl 2 rfl) ?_
      refine lv_iload_n S.1 S.2.1 d_A_leftOf_14 rfl (lv_at hl 0 rfl) ?_
      refine m_cq hw (va_runV (As := [.int (nI i0)]) (rest := [.long a]) S (c_AL_get l γ M l0 r0 cap (K.map oa) hA i0 (by omega)) (m_cwV 1 S g623 g190 g191 g44 g192 rfl rfl ⟨by decide +kernel, by decide +kernel, by decide +kernel⟩ ⟨(Nat.le_of_ble_eq_true rfl), (Nat.le_of_ble_eq_true rfl)⟩) (hw.preV hl0 cl_AL.1) rfl rfl hl.1 rfl (lv_room (Nat.le_of_ble_eq_true rfl)) d_A_leftOf_15 ⟨(Nat.zero_le _), (Nat.zero_le _)⟩) (fun r1 M1 H locs hp hw => ?_)
      obtain ⟨rfl, hM1⟩ := hp
      rw [hM1] at hw
      have hge := map_at (oa := oa) hbd
      refine W.eq (g2 := F0 m 18 ls [.ref (oa K[i0]), .long a]) (by rw [hge]; rfl) ?_
      refine m_cast S hw cl_O (hO _ hm) g624 d_A_leftOf_18 ?_
      refine m_get S hw cl_O (hO _ hm) 6 (by decide) g397 (fun _ h => h) rfl d_A_leftOf_21 ?_
      refine lv_i2l S.1 S.2.1 d_A_leftOf_24 rfl ?_
      refine lv_ladd S.1 S.2.1 d_A_leftOf_25 ?_
      refine lv_lstore_n S.1 S.2.1 d_A_leftOf_26 rfl hl (by decide) rfl (fun ls hl => ?_)
      have hl : lv_has ls 4 [(1, .long (a + ((I 3 (K[i0])).toInt64))), (3, .int (nI i0)), (0, .ref l0)] := hl
      refine lv_iinc (k := 1) (v := nI (i0 + 1)) S.1 S.2.1 d_A_leftOf_27 hl rfl (nI_1 i0) (by decide) rfl (fun ls hl => ?_)
      have hl : lv_has ls 4 [(3, .int (nI (i0 + 1))), (1, .long (a + ((I 3 (K[i0])).toInt64))), (0, .ref l0)] := hl
      refine lv_goto (tgt := 4) S.1 S.2.1 d_A_leftOf_30 rfl ?_
      have hl := lv_sub hl [0, 1, 2] rfl
      exact ih (i0 + 1) _ H locs ls (by omega) (by rw [lSum_up hbd, ha]) hl hw
  have hl := lv_sub hl [0, 1, 2] rfl
  exact loop _ 0 0 _ _ ls (Nat.zero_add _) rfl hl hw
set_option maxHeartbeats 4000000 in
set_option maxRecDepth 100000 in
theorem c_A_isBetter (l : Launch) (γ : mG) (M : mMap) (q0 : Nat) (a : AU) (ha : M q0 = some (.inr (1, auc a))) (p1 : Int32) (mv ov : Int64) (rf : Int32) : Met l y_A_isBetter w_A_isBetter ({ frames := 1, cells := 0, slots := 0, locals := 19 } : Room) (mPc γ M [.ref q0, .int p1, .long mv, .long ov, .int rf]) (mQi γ (fun r M' => r = b2i (aBet p1 mv ov rf a) ∧ M' = M)) 0 0 (mA (gz γ)) := by
  refine m_enter (by decide) (Nat.le_of_ble_eq_true rfl) ?_
  intro p e s m below meth c ls S hr hlk hnm hl hw
  have hl : lv_has ls 7 [(0, .ref q0), (1, .int p1), (2, .long mv), (4, .long ov), (6, .int rf)] := hl
  refine lv_lload_n S.1 S.2.1 d_A_isBetter_0 rfl (lv_at hl 2 rfl) ?_
  refine lv_aload_n S.1 S.2.1 d_A_isBetter_1 rfl (lv_at hl 0 rfl) ?_
  refine m_get S hw cl_A ha 1 (by decide) g134 (fun _ h => h) rfl d_A_isBetter_2 ?_
  refine W.lcmp S.1 S.2.1 d_A_isBetter_5 ?_
  refine lv_if_eq (tgt := 24) S.1 S.2.1 d_A_isBetter_6 rfl (fun h6 => ?_) (fun h6 => ?_)
  · refine lv_lload S.1 S.2.1 d_A_isBetter_24 (lv_at hl 3 rfl) ?_
    refine va_mabs_long S.1 S.2.1 (S.2.2.1.trans hl.1.symm) S.2.2.2.1 (S.2.2.2.2 _ (gc g637)) (S.2.2.2.2 _ (gc g638)) (S.2.2.2.2 _ (gc g56)) (S.2.2.2.2 _ (gc g639)) (Nat.le_of_ble_eq_true rfl) (Nat.le_of_ble_eq_true rfl) (Nat.zero_le _) (Nat.zero_le _) d_A_isBetter_26 ?_
    refine lv_aload_n S.1 S.2.1 d_A_isBetter_29 rfl (lv_at hl 0 rfl) ?_
    refine m_get S hw cl_A ha 2 (by decide) g136 (fun _ h => h) rfl d_A_isBetter_30 ?_
    refine va_mabs_long S.1 S.2.1 (S.2.2.1.trans hl.1.symm) S.2.2.2.1 (S.2.2.2.2 _ (gc g637)) (S.2.2.2.2 _ (gc g638)) (S.2.2.2.2 _ (gc g56)) (S.2.2.2.2 _ (gc g639)) (Nat.le_of_ble_eq_true rfl) (Nat.le_of_ble_eq_true rfl) (Nat.zero_le _) (Nat.zero_le _) d_A_isBetter_33 ?_
    refine W.lcmp S.1 S.2.1 d_A_isBetter_36 ?_
    refine lv_if_eq (tgt := 62) S.1 S.2.1 d_A_isBetter_37 rfl (fun h37 => ?_) (fun h37 => ?_)
    · refine lv_iload_n S.1 S.2.1 d_A_isBetter_62 rfl (lv_at hl 1 rfl) ?_
      refine lv_iload S.1 S.2.1 d_A_isBetter_63 (lv_at hl 4 rfl) ?_
      refine lv_isub S.1 S.2.1 d_A_isBetter_65 ?_
      refine va_mabs S.1 S.2.1 (S.2.2.1.trans hl.1.symm) S.2.2.2.1 (S.2.2.2.2 _ (gc g640)) (S.2.2.2.2 _ (gc g272)) (S.2.2.2.2 _ (gc g56)) (S.2.2.2.2 _ (gc g273)) (Nat.le_of_ble_eq_true rfl) (Nat.le_of_ble_eq_true rfl) (Nat.zero_le _) (Nat.zero_le _) d_A_isBetter_66 ?_
      refine lv_aload_n S.1 S.2.1 d_A_isBetter_69 rfl (lv_at hl 0 rfl) ?_
      refine m_get S hw cl_A ha 0 (by decide) g132 (fun _ h => h) rfl d_A_isBetter_70 ?_
      refine lv_iload S.1 S.2.1 d_A_isBetter_73 (lv_at hl 4 rfl) ?_
      refine lv_isub S.1 S.2.1 d_A_isBetter_75 ?_
      refine va_mabs S.1 S.2.1 (S.2.2.1.trans hl.1.symm) S.2.2.2.1 (S.2.2.2.2 _ (gc g640)) (S.2.2.2.2 _ (gc g272)) (S.2.2.2.2 _ (gc g56)) (S.2.2.2.2 _ (gc g273)) (Nat.le_of_ble_eq_true rfl) (Nat.le_of_ble_eq_true rfl) (Nat.zero_le _) (Nat.zero_le _) d_A_isBetter_76 ?_
      refine lv_icmp_ge (tgt := 86) S.1 S.2.1 d_A_isBetter_79 rfl (fun h79 => ?_) (fun h79 => ?_)
      · refine lv_iconst (v := 0) S.1 S.2.1 d_A_isBetter_86 (by decide) ?_
        exact m_iret S hlk hr rfl hw (⟨(congrArg b2i (show aBet p1 mv ov rf a = false from by unfold aBet; rw [if_pos ((lg_cmp_eq _ _).mp h6), if_pos (show aL ov = aL a.2.2 from (lg_cmp_eq _ _).mp h37)]; exact decide_eq_false (Int32.not_lt.mpr h79))).symm, rfl⟩) (Nat.le_refl _) (Nat.le_refl _) d_A_isBetter_87
      · refine lv_iconst (v := 1) S.1 S.2.1 d_A_isBetter_82 (by decide) ?_
        refine lv_goto (tgt := 87) S.1 S.2.1 d_A_isBetter_83 rfl ?_
        exact m_iret S hlk hr rfl hw (⟨(congrArg b2i (show aBet p1 mv ov rf a = true from by unfold aBet; rw [if_pos ((lg_cmp_eq _ _).mp h6), if_pos (show aL ov = aL a.2.2 from (lg_cmp_eq _ _).mp h37)]; exact decide_eq_true (Int32.not_le.mp h79))).symm, rfl⟩) (Nat.le_refl _) (Nat.le_refl _) d_A_isBetter_87
    · refine lv_lload S.1 S.2.1 d_A_isBetter_40 (lv_at hl 3 rfl) ?_
      refine va_mabs_long S.1 S.2.1 (S.2.2.1.trans hl.1.symm) S.2.2.2.1 (S.2.2.2.2 _ (gc g637)) (S.2.2.2.2 _ (gc g638)) (S.2.2.2.2 _ (gc g56)) (S.2.2.2.2 _ (gc g639)) (Nat.le_of_ble_eq_true rfl) (Nat.le_of_ble_eq_true rfl) (Nat.zero_le _) (Nat.zero_le _) d_A_isBetter_42 ?_
      refine lv_aload_n S.1 S.2.1 d_A_isBetter_45 rfl (lv_at hl 0 rfl) ?_
      refine m_get S hw cl_A ha 2 (by decide) g136 (fun _ h => h) rfl d_A_isBetter_46 ?_
      refine va_mabs_long S.1 S.2.1 (S.2.2.1.trans hl.1.symm) S.2.2.2.1 (S.2.2.2.2 _ (gc g637)) (S.2.2.2.2 _ (gc g638)) (S.2.2.2.2 _ (gc g56)) (S.2.2.2.2 _ (gc g639)) (Nat.le_of_ble_eq_true rfl) (Nat.le_of_ble_eq_true rfl) (Nat.zero_le _) (Nat.zero_le _) d_A_isBetter_49 ?_
      refine W.lcmp S.1 S.2.1 d_A_isBetter_52 ?_
      refine lv_if_ge (tgt := 60) S.1 S.2.1 d_A_isBetter_53 rfl (fun h53 => ?_) (fun h53 => ?_)
      · refine lv_iconst (v := 0) S.1 S.2.1 d_A_isBetter_60 (by decide) ?_
        exact m_iret S hlk hr rfl hw (⟨(congrArg b2i (show aBet p1 mv ov rf a = false from by unfold aBet; rw [if_pos ((lg_cmp_eq _ _).mp h6), if_neg (show ¬ aL ov = aL a.2.2 from fun z => h37 ((lg_cmp_eq _ _).mpr z))]; exact decide_eq_false (Int64.not_lt.mpr ((lg_cmp_ge _ _).mp h53)))).symm, rfl⟩) (Nat.le_refl _) (Nat.le_refl _) d_A_isBetter_61
      · refine lv_iconst (v := 1) S.1 S.2.1 d_A_isBetter_56 (by decide) ?_
        refine lv_goto (tgt := 61) S.1 S.2.1 d_A_isBetter_57 rfl ?_
        exact m_iret S hlk hr rfl hw (⟨(congrArg b2i (show aBet p1 mv ov rf a = true from by unfold aBet; rw [if_pos ((lg_cmp_eq _ _).mp h6), if_neg (show ¬ aL ov = aL a.2.2 from fun z => h37 ((lg_cmp_eq _ _).mpr z))]; exact decide_eq_true (Int64.not_le.mp (fun z => h53 ((lg_cmp_ge _ _).mpr z))))).symm, rfl⟩) (Nat.le_refl _) (Nat.le_refl _) d_A_isBetter_61
  · refine lv_lload_n S.1 S.2.1 d_A_isBetter_9 rfl (lv_at hl 2 rfl) ?_
    refine lv_aload_n S.1 S.2.1 d_A_isBetter_10 rfl (lv_at hl 0 rfl) ?_
    refine m_get S hw cl_A ha 1 (by decide) g134 (fun _ h => h) rfl d_A_isBetter_11 ?_
    refine W.lcmp S.1 S.2.1 d_A_isBetter_14 ?_
    refine lv_if_le (tgt := 22) S.1 S.2.1 d_A_isBetter_15 rfl (fun h15 => ?_) (fun h15 => ?_)
    · refine lv_iconst (v := 0) S.1 S.2.1 d_A_isBetter_22 (by decide) ?_
      exact m_iret S hlk hr rfl hw (⟨(congrArg b2i (show aBet p1 mv ov rf a = false from by unfold aBet; rw [if_neg (fun z => h6 ((lg_cmp_eq _ _).mpr z))]; exact decide_eq_false (Int64.not_lt.mpr ((lg_cmp_le _ _).mp h15)))).symm, rfl⟩) (Nat.le_refl _) (Nat.le_refl _) d_A_isBetter_23
    · refine lv_iconst (v := 1) S.1 S.2.1 d_A_isBetter_18 (by decide) ?_
      refine lv_goto (tgt := 23) S.1 S.2.1 d_A_isBetter_19 rfl ?_
      exact m_iret S hlk hr rfl hw (⟨(congrArg b2i (show aBet p1 mv ov rf a = true from by unfold aBet; rw [if_neg (fun z => h6 ((lg_cmp_eq _ _).mpr z))]; exact decide_eq_true (Int64.not_le.mp (fun z => h15 ((lg_cmp_le _ _).mpr z))))).symm, rfl⟩) (Nat.le_refl _) (Nat.le_refl _) d_A_isBetter_23
set_option maxHeartbeats 4000000 in
set_option maxRecDepth 100000 in
theorem c_A_weigh (l : Launch) (γ : mG) (M : mMap) (q0 : Nat) (a : AU) (ha : M q0 = some (.inr (1, auc a))) (p1 : Int32) (wt og : Int64) (rf : Int32) : Met l y_A_weigh w_A_weigh ({ frames := 2, cells := 0, slots := 0, locals := 45 } : Room) (mPc γ M [.ref q0, .int p1, .long wt, .long og, .int rf]) (mQv γ (fun M' => M' = mU M q0 (.inr (1, auc (aWgh p1 wt og rf a))))) 0 0 (mA (gz γ)) := by
  refine m_enter (by decide) (Nat.le_of_ble_eq_true rfl) ?_
  intro p e s m below meth c ls S hr hlk hnm hl hw
  have hl : lv_has ls 11 [(0, .ref q0), (1, .int p1), (2, .long wt), (4, .long og), (6, .int rf)] := hl
  refine lv_lload_n S.1 S.2.1 d_A_weigh_0 rfl (lv_at hl 2 rfl) ?_
  refine lv_lload S.1 S.2.1 d_A_weigh_1 (lv_at hl 3 rfl) ?_
  refine va_mmin_long S.1 S.2.1 (S.2.2.1.trans hl.1.symm) S.2.2.2.1 (S.2.2.2.2 _ (gc g630)) (S.2.2.2.2 _ (gc g631)) (S.2.2.2.2 _ (gc g56)) (S.2.2.2.2 _ (gc g632)) (Nat.le_of_ble_eq_true rfl) (Nat.le_of_ble_eq_true rfl) (Nat.zero_le _) (Nat.zero_le _) d_A_weigh_3 ?_
  refine W.eq (g2 := F0 m 6 ls [.long (aMv wt og)]) (congrArg (fun z => F0 m 6 ls [.long z]) rfl) ?_
  refine lv_lstore S.1 S.2.1 d_A_weigh_6 hl (by decide) rfl (fun ls hl => ?_)
  have hl : lv_has ls 11 [(7, .long (aMv wt og)), (0, .ref q0), (1, .int p1), (2, .long wt), (4, .long og), (6, .int rf)] := hl
  refine lv_lload_n S.1 S.2.1 d_A_weigh_8 rfl (lv_at hl 3 rfl) ?_
  refine lv_lload S.1 S.2.1 d_A_weigh_9 (lv_at hl 4 rfl) ?_
  refine lv_lsub S.1 S.2.1 d_A_weigh_11 ?_
  refine lv_lstore S.1 S.2.1 d_A_weigh_12 hl (by decide) rfl (fun ls hl => ?_)
  have hl : lv_has ls 11 [(9, .long (wt - og)), (7, .long (aMv wt og)), (0, .ref q0), (1, .int p1), (2, .long wt), (4, .long og), (6, .int rf)] := hl
  refine lv_lload S.1 S.2.1 d_A_weigh_14 (lv_at hl 1 rfl) ?_
  refine lv_lconst (v := 0) S.1 S.2.1 d_A_weigh_16 (by decide) ?_
  refine W.lcmp S.1 S.2.1 d_A_weigh_17 ?_
  refine lv_if_le (tgt := 52) S.1 S.2.1 d_A_weigh_18 rfl (fun h18 => ?_) (fun h18 => ?_)
  · exact m_vret S hlk hr hw (by unfold aWgh; rw [if_neg (fun z => absurd ((lg_cmp_le _ _).mp h18) (Int64.not_le.mpr z.1))]; exact (mU_same ha).symm) (Nat.le_refl _) (Nat.le_refl _) d_A_weigh_52
  · refine lv_aload_n S.1 S.2.1 d_A_weigh_21 rfl (lv_at hl 2 rfl) ?_
    refine lv_iload_n S.1 S.2.1 d_A_weigh_22 rfl (lv_at hl 3 rfl) ?_
    refine lv_lload S.1 S.2.1 d_A_weigh_23 (lv_at hl 1 rfl) ?_
    refine lv_lload S.1 S.2.1 d_A_weigh_25 (lv_at hl 0 rfl) ?_
    refine lv_iload S.1 S.2.1 d_A_weigh_27 (lv_at hl 6 rfl) ?_
    refine m_ci hw (va_runV (As := [.int p1, .long (aMv wt og), .long (wt - og), .int rf]) (rest := []) S (c_A_isBetter l γ M q0 a ha p1 (aMv wt og) (wt - og) rf) (m_cwV 4 S g633 g635 g20 g47 g636 rfl rfl ⟨by decide +kernel, by decide +kernel, by decide +kernel⟩ ⟨(Nat.le_of_ble_eq_true rfl), (Nat.le_of_ble_eq_true rfl)⟩) (hw.preV ha cl_A.1) rfl rfl hl.1 rfl (lv_room (Nat.le_of_ble_eq_true rfl)) d_A_weigh_29 ⟨(Nat.zero_le _), (Nat.zero_le _)⟩) (fun r1 M1 H locs hp hw => ?_)
    obtain ⟨rfl, hM1⟩ := hp
    rw [hM1] at hw
    refine lv_if_eq (tgt := 52) S.1 S.2.1 d_A_weigh_32 rfl (fun h32 => ?_) (fun h32 => ?_)
    · exact m_vret S hlk hr hw (by unfold aWgh; rw [if_neg (fun z => by rw [b2i_0.mp h32] at z; cases z.2)]; exact (mU_same ha).symm) (Nat.le_refl _) (Nat.le_refl _) d_A_weigh_52
    · refine lv_aload_n S.1 S.2.1 d_A_weigh_35 rfl (lv_at hl 2 rfl) ?_
      refine lv_iload_n S.1 S.2.1 d_A_weigh_36 rfl (lv_at hl 3 rfl) ?_
      refine m_put S hw cl_A ha 0 (by decide) g132 (fun _ h => h) rfl rfl rfl (Nat.le_of_ble_eq_true rfl) d_A_weigh_37 (fun H locs hw => ?_)
      have hw : mW γ (mU M q0 (.inr (1, [.int p1, .long a.2.1, .long a.2.2]))) s H locs := hw
      refine lv_aload_n S.1 S.2.1 d_A_weigh_40 rfl (lv_at hl 2 rfl) ?_
      refine lv_lload S.1 S.2.1 d_A_weigh_41 (lv_at hl 1 rfl) ?_
      refine m_put S hw cl_A (mU_eq _ _ _) 1 (by decide) g134 (fun _ h => h) rfl rfl rfl (Nat.le_of_ble_eq_true rfl) d_A_weigh_43 (fun H locs hw => ?_)
      have hw : mW γ (mU (mU M q0 (.inr (1, [.int p1, .long a.2.1, .long a.2.2]))) q0 (.inr (1, [.int p1, .long (aMv wt og), .long a.2.2]))) s H locs := hw
      refine lv_aload_n S.1 S.2.1 d_A_weigh_46 rfl (lv_at hl 2 rfl) ?_
      refine lv_lload S.1 S.2.1 d_A_weigh_47 (lv_at hl 0 rfl) ?_
      refine m_put S hw cl_A (mU_eq _ _ _) 2 (by decide) g136 (fun _ h => h) rfl rfl rfl (Nat.le_of_ble_eq_true rfl) d_A_weigh_49 (fun H locs hw => ?_)
      have hw : mW γ (mU (mU (mU M q0 (.inr (1, [.int p1, .long a.2.1, .long a.2.2]))) q0 (.inr (1, [.int p1, .long (aMv wt og), .long a.2.2]))) q0 (.inr (1, [.int p1, .long (aMv wt og), .long (wt - og)]))) s H locs := hw
      exact m_vret S hlk hr hw (by unfold aWgh; rw [if_pos ⟨Int64.not_le.mp (fun z => h18 ((lg_cmp_le _ _).mpr z)), b2i_n0.mp h32⟩, mU_uu, mU_uu]; rfl) (Nat.le_refl _) (Nat.le_refl _) d_A_weigh_52
