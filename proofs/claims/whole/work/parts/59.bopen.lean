/-! CallBook.open, in order -/
set_option maxHeartbeats 4000000 in
set_option maxRecDepth 100000 in
theorem c_B_open (l : Launch) (γ : mG) (M : mMap) (β : BK) (oa cp : Nat → Nat) (L : Nat → List Nat) (σ : St) (hC : CB γ M β oa cp L σ) (hI : Inv0 σ) (hL : LN σ L) (hcp : cp 3 = cAt (stn σ)) (hph : ¬ sph σ = 1) (σ1 : St) (hσ1 : xOp σ (aAt (sI σ) (L 1) (L 2) (srf σ) 2000) = σ1) (hT : stn σ1 ≤ 30000) : Met l y_B_open w_B_open ({ frames := 10, cells := kC (stn σ1) - kC (stn σ), slots := kS (stn σ1) - kS (stn σ), locals := 256 } : Room) (mPc γ M [.ref (bx β)]) (mQl γ (fun r M' => r = (aAt (sI σ) (L 1) (L 2) (srf σ) 2000).2.1 ∧ ∃ L' cp', CB γ M' β oa cp' L' (oPh (xSts σ1 (sn σ)) 1) ∧ InvB (oPh (xSts σ1 (sn σ)) 1) ∧ LN (oPh (xSts σ1 (sn σ)) 1) L' ∧ cp' 3 = cAt (stn σ1) ∧ (∀ j, j ≠ 3 → cp' j = cp j) ∧ frW M M')) (kC (stn σ1) - kC (stn σ)) (kS (stn σ1) - kS (stn σ)) (mA (gz γ)) := by
  refine m_enter (by decide) (Nat.le_of_ble_eq_true rfl) ?_
  intro p e s m below meth c ls S hr hlk hnm hl hw
  have hl : lv_has ls 2 [(0, .ref (bx β))] := hl
  obtain ⟨r1, hA1⟩ := hC.list (j := 1) (Or.inl rfl)
  obtain ⟨r2, hA2⟩ := hC.list (j := 2) (Or.inr rfl)
  obtain ⟨a, ha⟩ := hC.auct
  have hn := hI.1
  have loop : ∀ (d i0 : Nat) (M2 : mMap) (cp2 : Nat → Nat) (L2 : Nat → List Nat) (H : Heap) (locs : List Loc) (ls : Array Slot), i0 + d = sn σ → sn σ1 = sn σ → CB γ M2 β oa cp2 L2 (xSts σ1 i0) → InvB (xSts σ1 i0) → LN (xSts σ1 i0) L2 → M2 (bau β) = some (.inr (1, auc (aAt (sI σ) (L 1) (L 2) (srf σ) 2000))) → cp2 3 = cAt (stn σ1) → (∀ j, j ≠ 3 → cp2 j = cp j) → frW M M2 → lv_has ls 2 [(1, .int (nI i0)), (0, .ref (bx β))] → mW γ M2 s H locs → W p l e ({ frames := 10, cells := kC (stn σ1) - kC (stn σ), slots := kS (stn σ1) - kS (stn σ), locals := 256 } : Room) s m #[.ref (bx β)] below meth c H locs (kC (stn σ1) - kC (stn σ)) (kS (stn σ1) - kS (stn σ)) (MQ below (mQl γ (fun r M' => r = (aAt (sI σ) (L 1) (L 2) (srf σ) 2000).2.1 ∧ ∃ L' cp', CB γ M' β oa cp' L' (oPh (xSts σ1 (sn σ)) 1) ∧ InvB (oPh (xSts σ1 (sn σ)) 1) ∧ LN (oPh (xSts σ1 (sn σ)) 1) L' ∧ cp' 3 = cAt (stn σ1) ∧ (∀ j, j ≠ 3 → cp' j = cp j) ∧ frW M M')) #[.ref (bx β)] s (kC (stn σ1) - kC (stn σ)) (kS (stn σ1) - kS (stn σ)) (mA (gz γ))) (F0 m 84 ls []) := by
    intro d
    induction d with
    | zero =>
      intro i0 M2 cp2 L2 H locs ls hi hsn1 hC2 hB2 hL2 hau hcp2 hcpj hf2 hl hw
      obtain ⟨hcs, hc2⟩ := sts_sn σ1 i0
      obtain ⟨r0, hA0⟩ := hC2.alls
      obtain ⟨⟨md0, hl0⟩, -⟩ := id hA0
      have hml : ((List.range (sn (xSts σ1 i0))).map oa).length = sn σ := rg_len.trans (hcs.trans hsn1)
      have hi2 : i0 = sn σ := by omega
      subst hi2
      refine lv_iload_n S.1 S.2.1 d_B_open_84 rfl (lv_at hl 0 rfl) ?_
      refine lv_aload_n S.1 S.2.1 d_B_open_85 rfl (lv_at hl 1 rfl) ?_
      refine m_get S hw cl_B hC2.book 0 (by decide) g145 (fun _ h => h) rfl d_B_open_86 ?_
      refine m_ci hw (va_runV (As := []) (rest := [.int (nI (sn σ))]) S (c_AL_size l γ M2 (bal β 0) md0 _ _ hl0) (m_cwV 0 S g185 g186 g187 g44 g188 rfl rfl ⟨by decide +kernel, by decide +kernel, by decide +kernel⟩ ⟨(Nat.le_of_ble_eq_true rfl), (Nat.le_of_ble_eq_true rfl)⟩) (hw.preV hl0 cl_AL.1) rfl rfl hl.1 rfl (lv_room (Nat.le_of_ble_eq_true rfl)) d_B_open_89 ⟨(Nat.le_of_eq (Nat.add_zero _)), (Nat.le_of_eq (Nat.add_zero _))⟩) (fun r1 M1 H locs hp hw => ?_)
      obtain ⟨rfl, hM1⟩ := hp
      rw [hM1] at hw
      refine lv_icmp_ge (tgt := 116) S.1 S.2.1 d_B_open_92 rfl (fun _ => ?_) (fun h => absurd (nI_le (by omega) (by omega)) h)
      refine lv_aload_n S.1 S.2.1 d_B_open_116 rfl (lv_at hl 1 rfl) ?_
      refine lv_iconst (v := 1) S.1 S.2.1 d_B_open_117 (by decide) ?_
      refine m_put S hw cl_B hC2.book 5 (by decide) g150 (fun _ h => h) rfl rfl rfl (Nat.le_of_ble_eq_true rfl) d_B_open_118 (fun H locs hw => ?_)
      have hw : mW γ (mU M2 (bx β) (.inr (6, [.ref (bal β 0), .ref (bsd β 1), .ref (bsd β 2), .ref (btl β), .ref (bau β), .int 1, .int ((xSts σ1 (sn σ)).2.1.2.1), .int ((xSts σ1 (sn σ)).2.1.2.2.1), .int ((xSts σ1 (sn σ)).2.1.2.2.2)]))) s H locs := hw
      obtain ⟨hC4, hf4⟩ := hC2.setB (p := (1, srf (xSts σ1 (sn σ)), sbd (xSts σ1 (sn σ)), srk (xSts σ1 (sn σ)))) (e := .inr (6, bkc β (1, srf (xSts σ1 (sn σ)), sbd (xSts σ1 (sn σ)), srk (xSts σ1 (sn σ))))) rfl
      have hau4 := hf4 _ _ hau (Or.inr rfl)
      refine lv_aload_n S.1 S.2.1 d_B_open_121 rfl (lv_at hl 1 rfl) ?_
      refine m_get S hw cl_B hC4.book 4 (by decide) g149 (fun _ h => h) rfl d_B_open_122 ?_
      refine m_get S hw cl_A hau4 1 (by decide) g135 (fun _ h => h) rfl d_B_open_125 ?_
      exact m_lret S hlk hr hw ⟨rfl, L2, cp2, hC4, hB2.cols rfl rfl rfl rfl rfl rfl, hL2.cols rfl rfl rfl rfl, hcp2, hcpj, hf2.tr hf4.w⟩ (Nat.le_refl _) (Nat.le_refl _) d_B_open_128
    | succ d ih =>
      intro i0 M2 cp2 L2 H locs ls hi hsn1 hC2 hB2 hL2 hau hcp2 hcpj hf2 hl hw
      obtain ⟨hcs, hc2⟩ := sts_sn σ1 i0
      obtain ⟨r0, hA0⟩ := hC2.alls
      obtain ⟨⟨md0, hl0⟩, -⟩ := id hA0
      have hml : ((List.range (sn (xSts σ1 i0))).map oa).length = sn σ := rg_len.trans (hcs.trans hsn1)
      have hbd : i0 < sn σ := by omega
      have hk : i0 < sn (xSts σ1 i0) := by rw [hcs, hsn1]; exact hbd
      have hge := rg_at (f := oa) hk
      have hOk := hC2.ord i0 hk
      refine lv_iload_n S.1 S.2.1 d_B_open_84 rfl (lv_at hl 0 rfl) ?_
      refine lv_aload_n S.1 S.2.1 d_B_open_85 rfl (lv_at hl 1 rfl) ?_
      refine m_get S hw cl_B hC2.book 0 (by decide) g145 (fun _ h => h) rfl d_B_open_86 ?_
      refine m_ci hw (va_runV (As := []) (rest := [.int (nI i0)]) S (c_AL_size l γ M2 (bal β 0) md0 _ _ hl0) (m_cwV 0 S g185 g186 g187 g44 g188 rfl rfl ⟨by decide +kernel, by decide +kernel, by decide +kernel⟩ ⟨(Nat.le_of_ble_eq_true rfl), (Nat.le_of_ble_eq_true rfl)⟩) (hw.preV hl0 cl_AL.1) rfl rfl hl.1 rfl (lv_room (Nat.le_of_ble_eq_true rfl)) d_B_open_89 ⟨(Nat.le_of_eq (Nat.add_zero _)), (Nat.le_of_eq (Nat.add_zero _))⟩) (fun r1 M1 H locs hp hw => ?_)
      obtain ⟨rfl, hM1⟩ := hp
      rw [hM1] at hw
      refine lv_icmp_ge (tgt := 116) S.1 S.2.1 d_B_open_92 rfl (fun h => absurd h (nI_ge (by omega) (by omega))) (fun _ => ?_)
      refine lv_aload_n S.1 S.2.1 d_B_open_95 rfl (lv_at hl 1 rfl) ?_
      refine lv_aload_n S.1 S.2.1 d_B_open_96 rfl (lv_at hl 1 rfl) ?_
      refine m_get S hw cl_B hC2.book 0 (by decide) g145 (fun _ h => h) rfl d_B_open_97 ?_
      refine lv_iload_n S.1 S.2.1 d_B_open_100 rfl (lv_at hl 0 rfl) ?_
      refine m_cq hw (va_runV (As := [.int (nI i0)]) (rest := [.ref (bx β)]) S (c_AL_get l γ M2 (bal β 0) r0 (cp2 0) ((List.range (sn (xSts σ1 i0))).map oa) hA0 i0 (by omega)) (m_cwV 1 S g189 g190 g191 g44 g192 rfl rfl ⟨by decide +kernel, by decide +kernel, by decide +kernel⟩ ⟨(Nat.le_of_ble_eq_true rfl), (Nat.le_of_ble_eq_true rfl)⟩) (hw.preV hl0 cl_AL.1) rfl rfl hl.1 rfl (lv_room (Nat.le_of_ble_eq_true rfl)) d_B_open_101 ⟨(Nat.le_of_eq (Nat.add_zero _)), (Nat.le_of_eq (Nat.add_zero _))⟩) (fun r1 M1 H locs hp hw => ?_)
      obtain ⟨rfl, hM1⟩ := hp
      rw [hM1] at hw
      refine W.eq (g2 := F0 m 104 ls [.ref (oa i0), .ref (bx β)]) (by rw [hge]; rfl) ?_
      refine m_cast S hw cl_O hOk g203 d_B_open_104 ?_
      refine m_cv hw (va_runV (As := [.ref (oa i0)]) (rest := []) S (c_B_startGoingOn l γ M2 β oa cp2 L2 (xSts σ1 i0) hC2 hB2 hL2 i0 hk) (m_cwV 1 S g650 g652 g23 g41 g653 rfl rfl ⟨by decide +kernel, by decide +kernel, by decide +kernel⟩ ⟨(Nat.le_of_ble_eq_true rfl), (Nat.le_of_ble_eq_true rfl)⟩) (hw.preV hC2.book cl_B.1) rfl rfl hl.1 rfl (lv_room (Nat.le_of_ble_eq_true rfl)) d_B_open_107 ⟨(Nat.le_of_eq (Nat.add_zero _)), (Nat.le_of_eq (Nat.add_zero _))⟩) (fun M1 H locs hp hw => ?_)
      obtain ⟨L3, hC3, hB3, hL3, hf3⟩ := hp
      have hC3 : CB γ M1 β oa cp2 L3 (xSts σ1 (i0 + 1)) := hC3
      have hB3 : InvB (xSts σ1 (i0 + 1)) := hB3
      have hL3 : LN (xSts σ1 (i0 + 1)) L3 := hL3
      refine lv_iinc (k := 0) (v := nI (i0 + 1)) S.1 S.2.1 d_B_open_110 hl rfl (nI_1 i0) (by decide) rfl (fun ls hl => ?_)
      have hl : lv_has ls 2 [(1, .int (nI (i0 + 1))), (0, .ref (bx β))] := hl
      refine lv_goto (tgt := 84) S.1 S.2.1 d_B_open_113 rfl ?_
      have hl := lv_sub hl [0, 1] rfl
      exact ih (i0 + 1) M1 cp2 L3 H locs ls (by omega) hsn1 hC3 hB3 hL3 (hf3 _ _ hau (Or.inr rfl)) hcp2 hcpj (hf2.tr hf3.w) hl hw
  refine lv_aload_n S.1 S.2.1 d_B_open_0 rfl (lv_at hl 0 rfl) ?_
  refine m_get S hw cl_B hC.book 5 (by decide) g150 (fun _ h => h) rfl d_B_open_1 ?_
  refine lv_iconst (v := 1) S.1 S.2.1 d_B_open_4 (by decide) ?_
  refine lv_icmp_ne (tgt := 16) S.1 S.2.1 d_B_open_5 rfl (fun _ => ?_) (fun h => absurd h hph)
  refine lv_aload_n S.1 S.2.1 d_B_open_16 rfl (lv_at hl 0 rfl) ?_
  refine m_get S hw cl_B hC.book 4 (by decide) g149 (fun _ h => h) rfl d_B_open_17 ?_
  refine lv_aload_n S.1 S.2.1 d_B_open_20 rfl (lv_at hl 0 rfl) ?_
  refine m_get S hw cl_B hC.book 1 (by decide) g146 (fun _ h => h) rfl d_B_open_21 ?_
  refine m_get S hw cl_S (hC.side (Or.inl rfl)) 0 (by decide) g105 (fun _ h => h) rfl d_B_open_24 ?_
  refine lv_aload_n S.1 S.2.1 d_B_open_27 rfl (lv_at hl 0 rfl) ?_
  refine m_get S hw cl_B hC.book 2 (by decide) g147 (fun _ h => h) rfl d_B_open_28 ?_
  refine m_get S hw cl_S (hC.side (Or.inr rfl)) 0 (by decide) g105 (fun _ h => h) rfl d_B_open_31 ?_
  refine lv_aload_n S.1 S.2.1 d_B_open_34 rfl (lv_at hl 0 rfl) ?_
  refine m_get S hw cl_B hC.book 6 (by decide) g151 (fun _ h => h) rfl d_B_open_35 ?_
  refine m_cv hw (va_runV (As := [.ref (bal β 1), .ref (bal β 2), .int σ.2.1.2.1]) (rest := []) S (c_A_workOut l γ M (bau β) (bal β 1) (bal β 2) r1 r2 (cp 1) (cp 2) (sn σ) (L 1) (L 2) oa (sI σ) hC.ord hI.2.1 hI.1 a ha hA1 hA2 hL.1 hL.2 (srf σ)) (m_cwV 3 S g615 g616 g617 g47 g618 rfl rfl ⟨by decide +kernel, by decide +kernel, by decide +kernel⟩ ⟨(Nat.le_of_ble_eq_true rfl), (Nat.le_of_ble_eq_true rfl)⟩) (hw.preV ha cl_A.1) rfl rfl hl.1 rfl (lv_room (Nat.le_of_ble_eq_true rfl)) d_B_open_38 ⟨(Nat.zero_le _), (Nat.zero_le _)⟩) (fun M1 H locs hp hw => ?_)
  rw [hp] at hw
  obtain ⟨hC1, hf1⟩ := hC.setA (a := aAt (sI σ) (L 1) (L 2) (srf σ) 2000) (e := .inr (1, auc (aAt (sI σ) (L 1) (L 2) (srf σ) 2000))) rfl
  refine lv_aload_n S.1 S.2.1 d_B_open_41 rfl (lv_at hl 0 rfl) ?_
  refine m_get S hw cl_B hC1.book 4 (by decide) g149 (fun _ h => h) rfl d_B_open_42 ?_
  refine m_get S hw cl_A (mU_eq _ _ _) 1 (by decide) g135 (fun _ h => h) rfl d_B_open_45 ?_
  refine lv_lconst (v := 0) S.1 S.2.1 d_B_open_48 (by decide) ?_
  refine W.lcmp S.1 S.2.1 d_B_open_49 ?_
  refine lv_if_le (tgt := 82) S.1 S.2.1 d_B_open_50 rfl (fun h50 => ?_) (fun h50 => ?_)
  · have hs1 : σ = σ1 := by rw [← hσ1]; unfold xOp; rw [if_neg (fun z => absurd ((lg_cmp_le _ _).mp h50) (Int64.not_le.mpr z))]
    refine lv_iconst (v := 0) S.1 S.2.1 d_B_open_82 (by decide) ?_
    refine lv_istore_n S.1 S.2.1 d_B_open_83 rfl hl (by decide) rfl (fun ls hl => ?_)
    have hl : lv_has ls 2 [(1, .int 0), (0, .ref (bx β))] := hl
    have hl := lv_sub hl [0, 1] rfl
    subst hs1
    refine W.widen (Nat.zero_le _) (Nat.zero_le _) (loop _ 0 _ cp L H locs ls (Nat.zero_add _) rfl hC1 hI.b hL (mU_eq _ _ _) hcp (fun _ _ => rfl) hf1 hl hw)
  · have hpos : 0 < (aAt (sI σ) (L 1) (L 2) (srf σ) 2000).2.1 := Int64.not_le.mp (fun z => h50 ((lg_cmp_le _ _).mpr z))
    obtain ⟨σ2, hs2⟩ : ∃ z, z = xOne 250 σ (aAt (sI σ) (L 1) (L 2) (srf σ) 2000).1 (aAt (sI σ) (L 1) (L 2) (srf σ) 2000).2.1 := ⟨_, rfl⟩
    have hσ2 : σ1 = oRef σ2 (aAt (sI σ) (L 1) (L 2) (srf σ) 2000).1 := by rw [← hσ1, hs2]; exact if_pos hpos
    have htn2 : stn σ1 = stn σ2 := by rw [hσ2]; rfl
    refine lv_aload_n S.1 S.2.1 d_B_open_53 rfl (lv_at hl 0 rfl) ?_
    refine lv_aload_n S.1 S.2.1 d_B_open_54 rfl (lv_at hl 0 rfl) ?_
    refine m_get S hw cl_B hC1.book 4 (by decide) g149 (fun _ h => h) rfl d_B_open_55 ?_
    refine m_get S hw cl_A (mU_eq _ _ _) 0 (by decide) g133 (fun _ h => h) rfl d_B_open_58 ?_
    refine lv_aload_n S.1 S.2.1 d_B_open_61 rfl (lv_at hl 0 rfl) ?_
    refine m_get S hw cl_B hC1.book 4 (by decide) g149 (fun _ h => h) rfl d_B_open_62 ?_
    refine m_get S hw cl_A (mU_eq _ _ _) 1 (by decide) g135 (fun _ h => h) rfl d_B_open_65 ?_
    refine m_cv hw (va_runV (As := [.int ((aAt (sI σ) (L 1) (L 2) (srf σ) 2000).1), .long ((aAt (sI σ) (L 1) (L 2) (srf σ) 2000).2.1)]) (rest := []) S (c_B_tradeAtOnePrice l γ (mU M (bau β) (.inr (1, auc (aAt (sI σ) (L 1) (L 2) (srf σ) 2000)))) β oa cp L σ σ2 hC1 hI.b hL (aAt (sI σ) (L 1) (L 2) (srf σ) 2000).1 (aAt (sI σ) (L 1) (L 2) (srf σ) 2000).2.1 hcp hs2.symm (by rw [← htn2]; exact hT)) (m_cwV 2 S g641 g643 g21 g41 g644 rfl rfl ⟨by decide +kernel, by decide +kernel, by decide +kernel⟩ ⟨(Nat.le_of_ble_eq_true rfl), (Nat.le_of_ble_eq_true rfl)⟩) (hw.preV hC1.book cl_B.1) rfl rfl hl.1 rfl (lv_room (Nat.le_of_ble_eq_true rfl)) d_B_open_68 ⟨(by rw [← htn2]; show 0 + 0 + (kC (stn σ1) - kC (stn σ)) ≤ kC (stn σ1) - kC (stn σ); omega), (by rw [← htn2]; show 0 + 0 + (kS (stn σ1) - kS (stn σ)) ≤ kS (stn σ1) - kS (stn σ); omega)⟩) (fun M1 H locs hp hw => ?_)
    obtain ⟨L4, cp4, hC4, hB4, hL4, hcp4, hcpj4, hf4, hsn4, hcol4, h44⟩ := hp
    have hau4 := hf4 _ _ (mU_eq M (bau β) (.inr (1, auc (aAt (sI σ) (L 1) (L 2) (srf σ) 2000)))) (Or.inr rfl)
    refine W.widen (k := kC (stn σ1) - kC (stn σ)) (n := kS (stn σ1) - kS (stn σ)) (by rw [htn2]; show 0 + 0 + _ ≤ _ ; omega) (by rw [htn2]; show 0 + 0 + _ ≤ _; omega) ?_
    refine lv_aload_n S.1 S.2.1 d_B_open_71 rfl (lv_at hl 0 rfl) ?_
    refine lv_aload_n S.1 S.2.1 d_B_open_72 rfl (lv_at hl 0 rfl) ?_
    refine m_get S hw cl_B hC4.book 4 (by decide) g149 (fun _ h => h) rfl d_B_open_73 ?_
    refine m_get S hw cl_A hau4 0 (by decide) g133 (fun _ h => h) rfl d_B_open_76 ?_
    refine m_put S hw cl_B hC4.book 6 (by decide) g151 (fun _ h => h) rfl rfl rfl (Nat.le_of_ble_eq_true rfl) d_B_open_79 (fun H locs hw => ?_)
    have hw : mW γ (mU M1 (bx β) (.inr (6, [.ref (bal β 0), .ref (bsd β 1), .ref (bsd β 2), .ref (btl β), .ref (bau β), .int σ2.2.1.1, .int ((aAt (sI σ) (L 1) (L 2) (srf σ) 2000).1), .int σ2.2.1.2.2.1, .int σ2.2.1.2.2.2]))) s H locs := hw
    obtain ⟨hC5, hf5⟩ := hC4.setB (p := (sph σ2, (aAt (sI σ) (L 1) (L 2) (srf σ) 2000).1, sbd σ2, srk σ2)) (e := .inr (6, bkc β (sph σ2, (aAt (sI σ) (L 1) (L 2) (srf σ) 2000).1, sbd σ2, srk σ2))) rfl
    have hau5 := hf5 _ _ hau4 (Or.inr rfl)
    refine lv_iconst (v := 0) S.1 S.2.1 d_B_open_82 (by decide) ?_
    refine lv_istore_n S.1 S.2.1 d_B_open_83 rfl hl (by decide) rfl (fun ls hl => ?_)
    have hl : lv_has ls 2 [(1, .int 0), (0, .ref (bx β))] := hl
    have hl := lv_sub hl [0, 1] rfl
    exact loop _ 0 _ cp4 L4 _ _ ls (Nat.zero_add _) (by rw [hσ2]; exact hsn4) (by rw [hσ2]; exact hC5) (by rw [hσ2]; exact hB4.cols rfl rfl rfl rfl rfl rfl) (by rw [hσ2]; exact hL4.cols rfl rfl rfl rfl) hau5 (by rw [hσ2]; exact hcp4) hcpj4 (hf1.tr (hf4.w.tr hf5.w)) hl hw
