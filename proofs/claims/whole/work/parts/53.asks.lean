/-! CallBook: what it is asked (1) -/
set_option maxHeartbeats 4000000 in
set_option maxRecDepth 100000 in
theorem c_G_tell (l : Launch) (γ : mG) (M : mMap) (β : BK) (oa cp : Nat → Nat) (L : Nat → List Nat) (σ : St) (hC : CB γ M β oa cp L σ) (htn : stn σ ≤ 30000) (x0 w0 : Int32) : Met l y_G_tell w_G_tell ({ frames := 3, cells := 0, slots := 0, locals := 64 } : Room) (mPc γ M [.ref (btl β), .int x0, .int w0]) (mQi γ (fun r M' => r = tell σ x0 w0 ∧ M' = M)) 0 0 (mA (gz γ)) := by
  refine m_enter (by decide) (Nat.le_of_ble_eq_true rfl) ?_
  intro p e s m below meth c ls S hr hlk hnm hl hw
  have hl : lv_has ls 4 [(0, .ref (btl β)), (1, .int x0), (2, .int w0)] := hl
  obtain ⟨r3, ta, hA3, hT3⟩ := hC.keeps
  obtain ⟨⟨md3, hl3⟩, -⟩ := id hA3
  have hlt : ((List.range (stn σ)).map ta).length = stn σ := rg_len
  refine lv_iload_n S.1 S.2.1 d_G_tell_0 rfl (lv_at hl 1 rfl) ?_
  refine lv_if_lt (tgt := 15) S.1 S.2.1 d_G_tell_1 rfl (fun h1 => ?_) (fun h1 => ?_)
  · refine lv_iconst (v := (-1)) S.1 S.2.1 d_G_tell_15 (by decide) ?_
    exact m_iret S hlk hr rfl hw (⟨(show tell σ x0 w0 = -1 from if_pos h1).symm, rfl⟩) (Nat.le_refl _) (Nat.le_refl _) d_G_tell_16
  · refine lv_iload_n S.1 S.2.1 d_G_tell_4 rfl (lv_at hl 1 rfl) ?_
    refine lv_aload_n S.1 S.2.1 d_G_tell_5 rfl (lv_at hl 0 rfl) ?_
    refine m_get S hw cl_G hC.log 0 (by decide) g117 (fun _ h => h) rfl d_G_tell_6 ?_
    refine m_ci hw (va_runV (As := []) (rest := [.int x0]) S (c_AL_size l γ M (bal β 3) md3 _ _ hl3) (m_cwV 0 S g212 g186 g187 g44 g188 rfl rfl ⟨by decide +kernel, by decide +kernel, by decide +kernel⟩ ⟨(Nat.le_of_ble_eq_true rfl), (Nat.le_of_ble_eq_true rfl)⟩) (hw.preV hl3 cl_AL.1) rfl rfl hl.1 rfl (lv_room (Nat.le_of_ble_eq_true rfl)) d_G_tell_9 ⟨(Nat.zero_le _), (Nat.zero_le _)⟩) (fun r1 M1 H locs hp hw => ?_)
    obtain ⟨rfl, hM1⟩ := hp
    rw [hM1] at hw
    refine lv_icmp_lt (tgt := 17) S.1 S.2.1 d_G_tell_12 rfl (fun h12 => ?_) (fun h12 => ?_)
    · obtain ⟨k, hk, hk2⟩ := i_nI h1
      have hkl : k < stn σ := nI_ltm hk2 (by omega) (by rw [← hk, ← hlt]; exact h12)
      have hge := rg_at (f := ta) hkl
      have hTk := hT3 k hkl
      refine lv_aload_n S.1 S.2.1 d_G_tell_17 rfl (lv_at hl 0 rfl) ?_
      refine m_get S hw cl_G hC.log 0 (by decide) g117 (fun _ h => h) rfl d_G_tell_18 ?_
      refine lv_iload_n S.1 S.2.1 d_G_tell_21 rfl (lv_at hl 1 rfl) ?_
      refine W.eq (g2 := F0 m 22 ls [.int (nI k), .ref (bal β 3)]) (congrArg (fun z => F0 m 22 ls [.int z, .ref (bal β 3)]) hk) ?_
      refine m_cq hw (va_runV (As := [.int (nI k)]) (rest := []) S (c_AL_get l γ M (bal β 3) r3 (cp 3) ((List.range (stn σ)).map ta) hA3 k (by omega)) (m_cwV 1 S g213 g190 g191 g44 g192 rfl rfl ⟨by decide +kernel, by decide +kernel, by decide +kernel⟩ ⟨(Nat.le_of_ble_eq_true rfl), (Nat.le_of_ble_eq_true rfl)⟩) (hw.preV hl3 cl_AL.1) rfl rfl hl.1 rfl (lv_room (Nat.le_of_ble_eq_true rfl)) d_G_tell_22 ⟨(Nat.zero_le _), (Nat.zero_le _)⟩) (fun r1 M1 H locs hp hw => ?_)
      obtain ⟨rfl, hM1⟩ := hp
      rw [hM1] at hw
      refine W.eq (g2 := F0 m 25 ls [.ref (ta k)]) (by rw [hge]; rfl) ?_
      refine m_cast S hw cl_R hTk g214 d_G_tell_25 ?_
      refine lv_astore_n S.1 S.2.1 d_G_tell_28 rfl hl (by decide) rfl (fun ls hl => ?_)
      have hl : lv_has ls 4 [(3, .ref (ta k)), (0, .ref (btl β)), (1, .int x0), (2, .int w0)] := hl
      refine lv_iload_n S.1 S.2.1 d_G_tell_29 rfl (lv_at hl 3 rfl) ?_
      by_cases hs0 : w0 = 0
      · refine lv_tableIn (off := 30) (tgt := 60) S.1 S.2.1 d_G_tell_30 (by rw [hs0]; decide) (by rw [hs0]; decide) (by rw [hs0]; decide) (by decide) ?_
        refine lv_aload_n S.1 S.2.1 d_G_tell_60 rfl (lv_at hl 0 rfl) ?_
        refine m_get S hw cl_R hTk 0 (by decide) g546 (fun _ h => h) rfl d_G_tell_61 ?_
        exact m_iret S hlk hr rfl hw (⟨(show tell σ x0 w0 = sT σ 0 k from by unfold tell; rw [if_neg h1, if_pos (by rw [← hlt]; exact h12), hk, nI_clamp hk2]; rw [hs0]; rfl).symm, rfl⟩) (Nat.le_refl _) (Nat.le_refl _) d_G_tell_64
      by_cases hs1 : w0 = 1
      · refine lv_tableIn (off := 35) (tgt := 65) S.1 S.2.1 d_G_tell_30 (by rw [hs1]; decide) (by rw [hs1]; decide) (by rw [hs1]; decide) (by decide) ?_
        refine lv_aload_n S.1 S.2.1 d_G_tell_65 rfl (lv_at hl 0 rfl) ?_
        refine m_get S hw cl_R hTk 1 (by decide) g548 (fun _ h => h) rfl d_G_tell_66 ?_
        exact m_iret S hlk hr rfl hw (⟨(show tell σ x0 w0 = sT σ 1 k from by unfold tell; rw [if_neg h1, if_pos (by rw [← hlt]; exact h12), hk, nI_clamp hk2]; rw [hs1]; rfl).symm, rfl⟩) (Nat.le_refl _) (Nat.le_refl _) d_G_tell_69
      by_cases hs2 : w0 = 2
      · refine lv_tableIn (off := 40) (tgt := 70) S.1 S.2.1 d_G_tell_30 (by rw [hs2]; decide) (by rw [hs2]; decide) (by rw [hs2]; decide) (by decide) ?_
        refine lv_aload_n S.1 S.2.1 d_G_tell_70 rfl (lv_at hl 0 rfl) ?_
        refine m_get S hw cl_R hTk 2 (by decide) g550 (fun _ h => h) rfl d_G_tell_71 ?_
        exact m_iret S hlk hr rfl hw (⟨(show tell σ x0 w0 = sT σ 2 k from by unfold tell; rw [if_neg h1, if_pos (by rw [← hlt]; exact h12), hk, nI_clamp hk2]; rw [hs2]; rfl).symm, rfl⟩) (Nat.le_refl _) (Nat.le_refl _) d_G_tell_74
      by_cases hs3 : w0 = 3
      · refine lv_tableIn (off := 45) (tgt := 75) S.1 S.2.1 d_G_tell_30 (by rw [hs3]; decide) (by rw [hs3]; decide) (by rw [hs3]; decide) (by decide) ?_
        refine lv_aload_n S.1 S.2.1 d_G_tell_75 rfl (lv_at hl 0 rfl) ?_
        refine m_get S hw cl_R hTk 3 (by decide) g552 (fun _ h => h) rfl d_G_tell_76 ?_
        exact m_iret S hlk hr rfl hw (⟨(show tell σ x0 w0 = sT σ 3 k from by unfold tell; rw [if_neg h1, if_pos (by rw [← hlt]; exact h12), hk, nI_clamp hk2]; rw [hs3]; rfl).symm, rfl⟩) (Nat.le_refl _) (Nat.le_refl _) d_G_tell_79
      refine lv_tableOut (tgt := 80) S.1 S.2.1 d_G_tell_30 (by have q0 := lv_neT hs0 (show (0 : Int32).toInt = 0 by decide); have q1 := lv_neT hs1 (show (1 : Int32).toInt = 1 by decide); have q2 := lv_neT hs2 (show (2 : Int32).toInt = 2 by decide); have q3 := lv_neT hs3 (show (3 : Int32).toInt = 3 by decide); omega) (by decide) ?_
      refine lv_iconst (v := (-1)) S.1 S.2.1 d_G_tell_80 (by decide) ?_
      exact m_iret S hlk hr rfl hw (⟨(show tell σ x0 w0 = -1 from by unfold tell; rw [if_neg h1, if_pos (by rw [← hlt]; exact h12), hk, nI_clamp hk2]; unfold tlv; rw [if_neg hs0, if_neg hs1, if_neg hs2, if_neg hs3]).symm, rfl⟩) (Nat.le_refl _) (Nat.le_refl _) d_G_tell_81
    · refine lv_iconst (v := (-1)) S.1 S.2.1 d_G_tell_15 (by decide) ?_
      exact m_iret S hlk hr rfl hw (⟨(show tell σ x0 w0 = -1 from by unfold tell; rw [if_neg h1, if_neg (by rw [← hlt]; exact h12)]).symm, rfl⟩) (Nat.le_refl _) (Nat.le_refl _) d_G_tell_16
set_option maxHeartbeats 4000000 in
set_option maxRecDepth 100000 in
theorem c_B_trade (l : Launch) (γ : mG) (M : mMap) (β : BK) (oa cp : Nat → Nat) (L : Nat → List Nat) (σ : St) (hC : CB γ M β oa cp L σ) (htn : stn σ ≤ 30000) (x0 w0 : Int32) : Met l y_B_trade w_B_trade ({ frames := 4, cells := 0, slots := 0, locals := 87 } : Room) (mPc γ M [.ref (bx β), .int x0, .int w0]) (mQi γ (fun r M' => r = tell σ x0 w0 ∧ M' = M)) 0 0 (mA (gz γ)) := by
  refine m_enter (by decide) (Nat.le_of_ble_eq_true rfl) ?_
  intro p e s m below meth c ls S hr hlk hnm hl hw
  have hl : lv_has ls 3 [(0, .ref (bx β)), (1, .int x0), (2, .int w0)] := hl
  refine lv_aload_n S.1 S.2.1 d_B_trade_0 rfl (lv_at hl 0 rfl) ?_
  refine m_get S hw cl_B hC.book 3 (by decide) g148 (fun _ h => h) rfl d_B_trade_1 ?_
  refine lv_iload_n S.1 S.2.1 d_B_trade_4 rfl (lv_at hl 1 rfl) ?_
  refine lv_iload_n S.1 S.2.1 d_B_trade_5 rfl (lv_at hl 2 rfl) ?_
  refine m_ci hw (va_runV (As := [.int x0, .int w0]) (rest := []) S (c_G_tell l γ M β oa cp L σ hC htn x0 w0) (m_cwV 2 S g208 g209 g210 g46 g211 rfl rfl ⟨by decide +kernel, by decide +kernel, by decide +kernel⟩ ⟨(Nat.le_of_ble_eq_true rfl), (Nat.le_of_ble_eq_true rfl)⟩) (hw.preV hC.log cl_G.1) rfl rfl hl.1 rfl (lv_room (Nat.le_of_ble_eq_true rfl)) d_B_trade_6 ⟨(Nat.zero_le _), (Nat.zero_le _)⟩) (fun r1 M1 H locs hp hw => ?_)
  obtain ⟨rfl, hM1⟩ := hp
  rw [hM1] at hw
  exact m_iret S hlk hr rfl hw (⟨rfl, rfl⟩) (Nat.le_refl _) (Nat.le_refl _) d_B_trade_9
set_option maxHeartbeats 4000000 in
set_option maxRecDepth 100000 in
theorem c_B_told (l : Launch) (γ : mG) (M : mMap) (β : BK) (oa cp : Nat → Nat) (L : Nat → List Nat) (σ : St) (hC : CB γ M β oa cp L σ) (w0 : Int32) : Met l y_B_told w_B_told ({ frames := 1, cells := 0, slots := 0, locals := 20 } : Room) (mPc γ M [.ref (bx β), .int w0]) (mQl γ (fun r M' => r = told σ L w0 ∧ M' = M)) 0 0 (mA (gz γ)) := by
  refine m_enter (by decide) (Nat.le_of_ble_eq_true rfl) ?_
  intro p e s m below meth c ls S hr hlk hnm hl hw
  have hl : lv_has ls 2 [(0, .ref (bx β)), (1, .int w0)] := hl
  obtain ⟨r3, ta, hA3, hT3⟩ := hC.keeps
  obtain ⟨⟨md3, hl3⟩, -⟩ := id hA3
  have hlt : ((List.range (stn σ)).map ta).length = stn σ := rg_len
  obtain ⟨r0, hA0⟩ := hC.alls
  obtain ⟨⟨md0, hl0⟩, -⟩ := id hA0
  obtain ⟨r1, hA1⟩ := hC.list (j := 1) (Or.inl rfl)
  obtain ⟨⟨md1, hl1⟩, -⟩ := id hA1
  obtain ⟨r2, hA2⟩ := hC.list (j := 2) (Or.inr rfl)
  obtain ⟨⟨md2, hl2⟩, -⟩ := id hA2
  refine lv_iload_n S.1 S.2.1 d_B_told_0 rfl (lv_at hl 1 rfl) ?_
  by_cases hs0 : w0 = 0
  · refine lv_tableIn (off := 47) (tgt := 48) S.1 S.2.1 d_B_told_1 (by rw [hs0]; decide) (by rw [hs0]; decide) (by rw [hs0]; decide) (by decide) ?_
    refine lv_aload_n S.1 S.2.1 d_B_told_48 rfl (lv_at hl 0 rfl) ?_
    refine m_get S hw cl_B hC.book 5 (by decide) g150 (fun _ h => h) rfl d_B_told_49 ?_
    refine lv_i2l S.1 S.2.1 d_B_told_52 rfl ?_
    exact m_lret S hlk hr hw (⟨(show told σ L w0 = σ.2.1.1.toInt64 from by rw [hs0]; rfl).symm, rfl⟩) (Nat.le_refl _) (Nat.le_refl _) d_B_told_53
  by_cases hs1 : w0 = 1
  · refine lv_tableIn (off := 53) (tgt := 54) S.1 S.2.1 d_B_told_1 (by rw [hs1]; decide) (by rw [hs1]; decide) (by rw [hs1]; decide) (by decide) ?_
    refine lv_aload_n S.1 S.2.1 d_B_told_54 rfl (lv_at hl 0 rfl) ?_
    refine m_get S hw cl_B hC.book 6 (by decide) g151 (fun _ h => h) rfl d_B_told_55 ?_
    refine lv_i2l S.1 S.2.1 d_B_told_58 rfl ?_
    exact m_lret S hlk hr hw (⟨(show told σ L w0 = σ.2.1.2.1.toInt64 from by rw [hs1]; rfl).symm, rfl⟩) (Nat.le_refl _) (Nat.le_refl _) d_B_told_59
  by_cases hs2 : w0 = 2
  · refine lv_tableIn (off := 59) (tgt := 60) S.1 S.2.1 d_B_told_1 (by rw [hs2]; decide) (by rw [hs2]; decide) (by rw [hs2]; decide) (by decide) ?_
    refine lv_aload_n S.1 S.2.1 d_B_told_60 rfl (lv_at hl 0 rfl) ?_
    refine m_get S hw cl_B hC.book 7 (by decide) g152 (fun _ h => h) rfl d_B_told_61 ?_
    refine lv_i2l S.1 S.2.1 d_B_told_64 rfl ?_
    exact m_lret S hlk hr hw (⟨(show told σ L w0 = σ.2.1.2.2.1.toInt64 from by rw [hs2]; rfl).symm, rfl⟩) (Nat.le_refl _) (Nat.le_refl _) d_B_told_65
  by_cases hs3 : w0 = 3
  · refine lv_tableIn (off := 65) (tgt := 66) S.1 S.2.1 d_B_told_1 (by rw [hs3]; decide) (by rw [hs3]; decide) (by rw [hs3]; decide) (by decide) ?_
    refine lv_aload_n S.1 S.2.1 d_B_told_66 rfl (lv_at hl 0 rfl) ?_
    refine m_get S hw cl_B hC.book 0 (by decide) g145 (fun _ h => h) rfl d_B_told_67 ?_
    refine m_ci hw (va_runV (As := []) (rest := []) S (c_AL_size l γ M (bal β 0) md0 _ _ hl0) (m_cwV 0 S g185 g186 g187 g44 g188 rfl rfl ⟨by decide +kernel, by decide +kernel, by decide +kernel⟩ ⟨(Nat.le_of_ble_eq_true rfl), (Nat.le_of_ble_eq_true rfl)⟩) (hw.preV hl0 cl_AL.1) rfl rfl hl.1 rfl (lv_room (Nat.le_of_ble_eq_true rfl)) d_B_told_70 ⟨(Nat.zero_le _), (Nat.zero_le _)⟩) (fun r1 M1 H locs hp hw => ?_)
    obtain ⟨rfl, hM1⟩ := hp
    rw [hM1] at hw
    refine lv_i2l S.1 S.2.1 d_B_told_73 rfl ?_
    exact m_lret S hlk hr hw (⟨(show told σ L w0 = (nI ((List.range (sn σ)).map oa).length).toInt64 from by rw [hs3]; rw [rg_len]; rfl).symm, rfl⟩) (Nat.le_refl _) (Nat.le_refl _) d_B_told_74
  by_cases hs4 : w0 = 4
  · refine lv_tableIn (off := 74) (tgt := 75) S.1 S.2.1 d_B_told_1 (by rw [hs4]; decide) (by rw [hs4]; decide) (by rw [hs4]; decide) (by decide) ?_
    refine lv_aload_n S.1 S.2.1 d_B_told_75 rfl (lv_at hl 0 rfl) ?_
    refine m_get S hw cl_B hC.book 1 (by decide) g146 (fun _ h => h) rfl d_B_told_76 ?_
    refine m_get S hw cl_S (hC.side (Or.inl rfl)) 0 (by decide) g105 (fun _ h => h) rfl d_B_told_79 ?_
    refine m_ci hw (va_runV (As := []) (rest := []) S (c_AL_size l γ M (bal β 1) md1 _ _ hl1) (m_cwV 0 S g185 g186 g187 g44 g188 rfl rfl ⟨by decide +kernel, by decide +kernel, by decide +kernel⟩ ⟨(Nat.le_of_ble_eq_true rfl), (Nat.le_of_ble_eq_true rfl)⟩) (hw.preV hl1 cl_AL.1) rfl rfl hl.1 rfl (lv_room (Nat.le_of_ble_eq_true rfl)) d_B_told_82 ⟨(Nat.zero_le _), (Nat.zero_le _)⟩) (fun r1 M1 H locs hp hw => ?_)
    obtain ⟨rfl, hM1⟩ := hp
    rw [hM1] at hw
    refine lv_i2l S.1 S.2.1 d_B_told_85 rfl ?_
    exact m_lret S hlk hr hw (⟨(show told σ L w0 = (nI ((L 1).map oa).length).toInt64 from by rw [hs4]; rw [List.length_map]; rfl).symm, rfl⟩) (Nat.le_refl _) (Nat.le_refl _) d_B_told_86
  by_cases hs5 : w0 = 5
  · refine lv_tableIn (off := 86) (tgt := 87) S.1 S.2.1 d_B_told_1 (by rw [hs5]; decide) (by rw [hs5]; decide) (by rw [hs5]; decide) (by decide) ?_
    refine lv_aload_n S.1 S.2.1 d_B_told_87 rfl (lv_at hl 0 rfl) ?_
    refine m_get S hw cl_B hC.book 2 (by decide) g147 (fun _ h => h) rfl d_B_told_88 ?_
    refine m_get S hw cl_S (hC.side (Or.inr rfl)) 0 (by decide) g105 (fun _ h => h) rfl d_B_told_91 ?_
    refine m_ci hw (va_runV (As := []) (rest := []) S (c_AL_size l γ M (bal β 2) md2 _ _ hl2) (m_cwV 0 S g185 g186 g187 g44 g188 rfl rfl ⟨by decide +kernel, by decide +kernel, by decide +kernel⟩ ⟨(Nat.le_of_ble_eq_true rfl), (Nat.le_of_ble_eq_true rfl)⟩) (hw.preV hl2 cl_AL.1) rfl rfl hl.1 rfl (lv_room (Nat.le_of_ble_eq_true rfl)) d_B_told_94 ⟨(Nat.zero_le _), (Nat.zero_le _)⟩) (fun r1 M1 H locs hp hw => ?_)
    obtain ⟨rfl, hM1⟩ := hp
    rw [hM1] at hw
    refine lv_i2l S.1 S.2.1 d_B_told_97 rfl ?_
    exact m_lret S hlk hr hw (⟨(show told σ L w0 = (nI ((L 2).map oa).length).toInt64 from by rw [hs5]; rw [List.length_map]; rfl).symm, rfl⟩) (Nat.le_refl _) (Nat.le_refl _) d_B_told_98
  by_cases hs6 : w0 = 6
  · refine lv_tableIn (off := 98) (tgt := 99) S.1 S.2.1 d_B_told_1 (by rw [hs6]; decide) (by rw [hs6]; decide) (by rw [hs6]; decide) (by decide) ?_
    refine lv_aload_n S.1 S.2.1 d_B_told_99 rfl (lv_at hl 0 rfl) ?_
    refine m_get S hw cl_B hC.book 3 (by decide) g148 (fun _ h => h) rfl d_B_told_100 ?_
    refine m_get S hw cl_G hC.log 0 (by decide) g118 (fun _ h => h) rfl d_B_told_103 ?_
    refine m_ci hw (va_runV (As := []) (rest := []) S (c_AL_size l γ M (bal β 3) md3 _ _ hl3) (m_cwV 0 S g185 g186 g187 g44 g188 rfl rfl ⟨by decide +kernel, by decide +kernel, by decide +kernel⟩ ⟨(Nat.le_of_ble_eq_true rfl), (Nat.le_of_ble_eq_true rfl)⟩) (hw.preV hl3 cl_AL.1) rfl rfl hl.1 rfl (lv_room (Nat.le_of_ble_eq_true rfl)) d_B_told_106 ⟨(Nat.zero_le _), (Nat.zero_le _)⟩) (fun r1 M1 H locs hp hw => ?_)
    obtain ⟨rfl, hM1⟩ := hp
    rw [hM1] at hw
    refine lv_i2l S.1 S.2.1 d_B_told_109 rfl ?_
    exact m_lret S hlk hr hw (⟨(show told σ L w0 = (nI ((List.range (stn σ)).map ta).length).toInt64 from by rw [hs6]; rw [rg_len]; rfl).symm, rfl⟩) (Nat.le_refl _) (Nat.le_refl _) d_B_told_110
  by_cases hs7 : w0 = 7
  · refine lv_tableIn (off := 110) (tgt := 111) S.1 S.2.1 d_B_told_1 (by rw [hs7]; decide) (by rw [hs7]; decide) (by rw [hs7]; decide) (by decide) ?_
    refine lv_aload_n S.1 S.2.1 d_B_told_111 rfl (lv_at hl 0 rfl) ?_
    refine m_get S hw cl_B hC.book 3 (by decide) g148 (fun _ h => h) rfl d_B_told_112 ?_
    refine m_get S hw cl_G hC.log 1 (by decide) g120 (fun _ h => h) rfl d_B_told_115 ?_
    exact m_lret S hlk hr hw (⟨(show told σ L w0 = sal σ from by rw [hs7]; rfl).symm, rfl⟩) (Nat.le_refl _) (Nat.le_refl _) d_B_told_118
  refine lv_tableOut (tgt := 119) S.1 S.2.1 d_B_told_1 (by have q0 := lv_neT hs0 (show (0 : Int32).toInt = 0 by decide); have q1 := lv_neT hs1 (show (1 : Int32).toInt = 1 by decide); have q2 := lv_neT hs2 (show (2 : Int32).toInt = 2 by decide); have q3 := lv_neT hs3 (show (3 : Int32).toInt = 3 by decide); have q4 := lv_neT hs4 (show (4 : Int32).toInt = 4 by decide); have q5 := lv_neT hs5 (show (5 : Int32).toInt = 5 by decide); have q6 := lv_neT hs6 (show (6 : Int32).toInt = 6 by decide); have q7 := lv_neT hs7 (show (7 : Int32).toInt = 7 by decide); omega) (by decide) ?_
  refine lv_ldc2 S.1 S.2.1 S.2.2.2.1 (S.2.2.2.2 _ (gc g219)) d_B_told_119 ?_
  exact m_lret S hlk hr hw (⟨(show told σ L w0 = -1 from by unfold told; rw [if_neg hs0, if_neg hs1, if_neg hs2, if_neg hs3, if_neg hs4, if_neg hs5, if_neg hs6, if_neg hs7]).symm, rfl⟩) (Nat.le_refl _) (Nat.le_refl _) d_B_told_122
set_option maxHeartbeats 4000000 in
set_option maxRecDepth 100000 in
theorem c_B_call (l : Launch) (γ : mG) (M : mMap) (β : BK) (oa cp : Nat → Nat) (L : Nat → List Nat) (σ : St) (hC : CB γ M β oa cp L σ) : Met l y_B_call w_B_call ({ frames := 0, cells := 0, slots := 0, locals := 0 } : Room) (mPc γ M [.ref (bx β)]) (mQi γ (fun r M' => r = sph σ ∧ CB γ M' β oa cp L (oPh σ 0) ∧ frC M M')) 0 0 (mA (gz γ)) := by
  refine m_enter (by decide) (Nat.le_of_ble_eq_true rfl) ?_
  intro p e s m below meth c ls S hr hlk hnm hl hw
  have hl : lv_has ls 2 [(0, .ref (bx β))] := hl
  refine lv_aload_n S.1 S.2.1 d_B_call_0 rfl (lv_at hl 0 rfl) ?_
  refine m_get S hw cl_B hC.book 5 (by decide) g150 (fun _ h => h) rfl d_B_call_1 ?_
  refine lv_istore_n S.1 S.2.1 d_B_call_4 rfl hl (by decide) rfl (fun ls hl => ?_)
  have hl : lv_has ls 2 [(1, .int σ.2.1.1), (0, .ref (bx β))] := hl
  refine lv_aload_n S.1 S.2.1 d_B_call_5 rfl (lv_at hl 1 rfl) ?_
  refine lv_iconst (v := 0) S.1 S.2.1 d_B_call_6 (by decide) ?_
  refine m_put S hw cl_B hC.book 5 (by decide) g150 (fun _ h => h) rfl rfl rfl (Nat.le_of_ble_eq_true rfl) d_B_call_7 (fun H locs hw => ?_)
  have hw : mW γ (mU M (bx β) (.inr (6, [.ref (bal β 0), .ref (bsd β 1), .ref (bsd β 2), .ref (btl β), .ref (bau β), .int 0, .int σ.2.1.2.1, .int σ.2.1.2.2.1, .int σ.2.1.2.2.2]))) s H locs := hw
  obtain ⟨hC1, hf1⟩ := hC.setB (p := (0, srf σ, sbd σ, srk σ)) (e := .inr (6, bkc β (0, srf σ, sbd σ, srk σ))) rfl
  refine lv_iload_n S.1 S.2.1 d_B_call_10 rfl (lv_at hl 0 rfl) ?_
  exact m_iret S hlk hr rfl hw (⟨rfl, hC1, hf1⟩) (Nat.le_refl _) (Nat.le_refl _) d_B_call_11
set_option maxHeartbeats 4000000 in
set_option maxRecDepth 100000 in
theorem c_B_at (l : Launch) (γ : mG) (M : mMap) (β : BK) (oa cp : Nat → Nat) (L : Nat → List Nat) (σ : St) (hC : CB γ M β oa cp L σ) (hn : sn σ ≤ 250) (hL : LN σ L) (b0 : Int32) (hb0 : b0 = 0 ∨ b0 = 1) (x0 : Int32) : Met l y_B_at w_B_at ({ frames := 3, cells := 0, slots := 0, locals := 64 } : Room) (mPc γ M [.ref (bx β), .int b0, .int x0]) (mQi γ (fun r M' => r = atl (L (sj b0)) x0 ∧ M' = M)) 0 0 (mA (gz γ)) := by
  refine m_enter (by decide) (Nat.le_of_ble_eq_true rfl) ?_
  intro p e s m below meth c ls S hr hlk hnm hl hw
  have hl : lv_has ls 4 [(0, .ref (bx β)), (1, .int b0), (2, .int x0)] := hl
  obtain ⟨r0, hA0⟩ := hC.list (sj_or b0)
  obtain ⟨⟨md0, hl0⟩, -⟩ := id hA0
  have hLj : Line (sI σ) (sn σ) b0 (L (sj b0)) := sj_val hb0 hL
  have hml : ((L (sj b0)).map oa).length = (L (sj b0)).length := List.length_map _
  have hlen : (L (sj b0)).length ≤ 250 := hLj.len hn
  refine lv_aload_n S.1 S.2.1 d_B_at_0 rfl (lv_at hl 0 rfl) ?_
  refine lv_iload_n S.1 S.2.1 d_B_at_1 rfl (lv_at hl 1 rfl) ?_
  refine m_cq hw (va_runV (As := [.int b0]) (rest := []) S (c_B_side l γ M β σ.2.1 hC.book b0) (m_cwV 1 S g181 g183 g0 g41 g184 rfl rfl ⟨by decide +kernel, by decide +kernel, by decide +kernel⟩ ⟨(Nat.le_of_ble_eq_true rfl), (Nat.le_of_ble_eq_true rfl)⟩) (hw.preV hC.book cl_B.1) rfl rfl hl.1 rfl (lv_room (Nat.le_of_ble_eq_true rfl)) d_B_at_2 ⟨(Nat.zero_le _), (Nat.zero_le _)⟩) (fun r1 M1 H locs hp hw => ?_)
  obtain ⟨rfl, hM1⟩ := hp
  rw [hM1] at hw
  refine m_get S hw cl_S (hC.side (sj_or _)) 0 (by decide) g105 (fun _ h => h) rfl d_B_at_5 ?_
  refine lv_astore_n S.1 S.2.1 d_B_at_8 rfl hl (by decide) rfl (fun ls hl => ?_)
  have hl : lv_has ls 4 [(3, .ref (bal β (sj b0))), (0, .ref (bx β)), (1, .int b0), (2, .int x0)] := hl
  refine lv_iload_n S.1 S.2.1 d_B_at_9 rfl (lv_at hl 3 rfl) ?_
  refine lv_if_lt (tgt := 21) S.1 S.2.1 d_B_at_10 rfl (fun h10 => ?_) (fun h10 => ?_)
  · refine lv_iconst (v := (-1)) S.1 S.2.1 d_B_at_21 (by decide) ?_
    refine lv_goto (tgt := 36) S.1 S.2.1 d_B_at_22 rfl ?_
    exact m_iret S hlk hr rfl hw (⟨(show atl (L (sj b0)) x0 = -1 from if_pos h10).symm, rfl⟩) (Nat.le_refl _) (Nat.le_refl _) d_B_at_36
  · refine lv_iload_n S.1 S.2.1 d_B_at_13 rfl (lv_at hl 3 rfl) ?_
    refine lv_aload_n S.1 S.2.1 d_B_at_14 rfl (lv_at hl 0 rfl) ?_
    refine m_ci hw (va_runV (As := []) (rest := [.int x0]) S (c_AL_size l γ M (bal β (sj b0)) md0 _ _ hl0) (m_cwV 0 S g185 g186 g187 g44 g188 rfl rfl ⟨by decide +kernel, by decide +kernel, by decide +kernel⟩ ⟨(Nat.le_of_ble_eq_true rfl), (Nat.le_of_ble_eq_true rfl)⟩) (hw.preV hl0 cl_AL.1) rfl rfl hl.1 rfl (lv_room (Nat.le_of_ble_eq_true rfl)) d_B_at_15 ⟨(Nat.zero_le _), (Nat.zero_le _)⟩) (fun r1 M1 H locs hp hw => ?_)
    obtain ⟨rfl, hM1⟩ := hp
    rw [hM1] at hw
    refine lv_icmp_lt (tgt := 25) S.1 S.2.1 d_B_at_18 rfl (fun h18 => ?_) (fun h18 => ?_)
    · obtain ⟨k, hk, hk2⟩ := i_nI h10
      have hbd : k < (L (sj b0)).length := nI_ltm hk2 (by omega) (by rw [← hk, ← hml]; exact h18)
      have hm := (hLj.1 (L (sj b0))[k]).mp (List.getElem_mem hbd)
      refine lv_aload_n S.1 S.2.1 d_B_at_25 rfl (lv_at hl 0 rfl) ?_
      refine lv_iload_n S.1 S.2.1 d_B_at_26 rfl (lv_at hl 3 rfl) ?_
      refine W.eq (g2 := F0 m 27 ls [.int (nI k), .ref (bal β (sj b0))]) (congrArg (fun z => F0 m 27 ls [.int z, .ref (bal β (sj b0))]) hk) ?_
      refine m_cq hw (va_runV (As := [.int (nI k)]) (rest := []) S (c_AL_get l γ M (bal β (sj b0)) r0 (cp (sj b0)) ((L (sj b0)).map oa) hA0 k (by omega)) (m_cwV 1 S g189 g190 g191 g44 g192 rfl rfl ⟨by decide +kernel, by decide +kernel, by decide +kernel⟩ ⟨(Nat.le_of_ble_eq_true rfl), (Nat.le_of_ble_eq_true rfl)⟩) (hw.preV hl0 cl_AL.1) rfl rfl hl.1 rfl (lv_room (Nat.le_of_ble_eq_true rfl)) d_B_at_27 ⟨(Nat.zero_le _), (Nat.zero_le _)⟩) (fun r1 M1 H locs hp hw => ?_)
      obtain ⟨rfl, hM1⟩ := hp
      rw [hM1] at hw
      have hge := map_at (oa := oa) hbd
      refine W.eq (g2 := F0 m 30 ls [.ref (oa (L (sj b0))[k])]) (by rw [hge]; rfl) ?_
      refine m_cast S hw cl_O (hC.ord _ hm.1) g203 d_B_at_30 ?_
      refine m_get S hw cl_O (hC.ord _ hm.1) 0 (by decide) g385 (fun _ h => h) rfl d_B_at_33 ?_
      exact m_iret S hlk hr rfl hw (⟨(show atl (L (sj b0)) x0 = nI (L (sj b0))[k] from by unfold atl; rw [if_neg h10, if_pos (by rw [← hml]; exact h18), hk, nI_clamp hk2, List.getD_eq_getElem?_getD, List.getElem?_eq_getElem hbd]; rfl).symm, rfl⟩) (Nat.le_refl _) (Nat.le_refl _) d_B_at_36
    · refine lv_iconst (v := (-1)) S.1 S.2.1 d_B_at_21 (by decide) ?_
      refine lv_goto (tgt := 36) S.1 S.2.1 d_B_at_22 rfl ?_
      exact m_iret S hlk hr rfl hw (⟨(show atl (L (sj b0)) x0 = -1 from by unfold atl; rw [if_neg h10, if_neg (by rw [← hml]; exact h18)]).symm, rfl⟩) (Nat.le_refl _) (Nat.le_refl _) d_B_at_36
