/-! CallBook.tradeAtOnePrice -/
set_option maxHeartbeats 4000000 in
set_option maxRecDepth 100000 in
theorem c_B_tradeAtOnePrice (l : Launch) (γ : mG) (M : mMap) (β : BK) (oa cp : Nat → Nat) (L : Nat → List Nat) (σ σ' : St) (hC : CB γ M β oa cp L σ) (hB : InvB σ) (hL : LN σ L) (p0 : Int32) (v0 : Int64) (hcp : cp 3 = cAt (stn σ)) (hσ : xOne 250 σ p0 v0 = σ') (hT : stn σ' ≤ 30000) : Met l y_B_tradeAtOnePrice w_B_tradeAtOnePrice ({ frames := 9, cells := kC (stn σ') - kC (stn σ), slots := kS (stn σ') - kS (stn σ), locals := 227 } : Room) (mPc γ M [.ref (bx β), .int p0, .long v0]) (mQv γ (fun M' => ∃ L' cp', CB γ M' β oa cp' L' σ' ∧ InvB σ' ∧ LN σ' L' ∧ cp' 3 = cAt (stn σ') ∧ (∀ j, j ≠ 3 → cp' j = cp j) ∧ frC M M' ∧ sn σ' = sn σ ∧ (∀ f, f ≠ 3 → f ≠ 4 → f ≠ 5 → f ≠ 7 → sI σ' f = sI σ f) ∧ σ'.2.1 = σ.2.1)) (kC (stn σ') - kC (stn σ)) (kS (stn σ') - kS (stn σ)) (mA (gz γ)) := by
  refine m_enter (by decide) (Nat.le_of_ble_eq_true rfl) ?_
  intro p e s m below meth c ls S hr hlk hnm hl hw
  have hl : lv_has ls 10 [(0, .ref (bx β)), (1, .int p0), (2, .long v0)] := hl
  refine lv_lload_n S.1 S.2.1 d_B_tradeAtOnePrice_0 rfl (lv_at hl 2 rfl) ?_
  refine lv_lstore S.1 S.2.1 d_B_tradeAtOnePrice_1 hl (by decide) rfl (fun ls hl => ?_)
  have hl : lv_has ls 10 [(4, .long v0), (0, .ref (bx β)), (1, .int p0), (2, .long v0)] := hl
  refine lv_iconst (v := 0) S.1 S.2.1 d_B_tradeAtOnePrice_3 (by decide) ?_
  refine lv_istore S.1 S.2.1 d_B_tradeAtOnePrice_4 hl (by decide) rfl (fun ls hl => ?_)
  have hl : lv_has ls 10 [(6, .int 0), (4, .long v0), (0, .ref (bx β)), (1, .int p0), (2, .long v0)] := hl
  have loop : ∀ (d : Nat) (τ : St) (v : Int64) (M2 : mMap) (cp2 : Nat → Nat) (L2 : Nat → List Nat) (H : Heap) (locs : List Loc) (ls : Array Slot), d ≤ 250 → xOne d τ p0 v = σ' → CB γ M2 β oa cp2 L2 τ → InvB τ → LN τ L2 → cp2 3 = cAt (stn τ) → (∀ j, j ≠ 3 → cp2 j = cp j) → frC M M2 → sn τ = sn σ → (∀ f, f ≠ 3 → f ≠ 4 → f ≠ 5 → f ≠ 7 → sI τ f = sI σ f) → τ.2.1 = σ.2.1 → stn σ ≤ stn τ → lv_has ls 10 [(6, .int (nI (250 - d))), (4, .long v), (0, .ref (bx β)), (1, .int p0)] → mW γ M2 s H locs → W p l e ({ frames := 9, cells := kC (stn σ') - kC (stn σ), slots := kS (stn σ') - kS (stn σ), locals := 227 } : Room) s m #[.ref (bx β), .int p0, .long v0] below meth c H locs (kC (stn τ) - kC (stn σ)) (kS (stn τ) - kS (stn σ)) (MQ below (mQv γ (fun M' => ∃ L' cp', CB γ M' β oa cp' L' σ' ∧ InvB σ' ∧ LN σ' L' ∧ cp' 3 = cAt (stn σ') ∧ (∀ j, j ≠ 3 → cp' j = cp j) ∧ frC M M' ∧ sn σ' = sn σ ∧ (∀ f, f ≠ 3 → f ≠ 4 → f ≠ 5 → f ≠ 7 → sI σ' f = sI σ f) ∧ σ'.2.1 = σ.2.1)) #[.ref (bx β), .int p0, .long v0] s (kC (stn σ') - kC (stn σ)) (kS (stn σ') - kS (stn σ)) (mA (gz γ))) (F0 m 6 ls []) := by
    intro d
    induction d with
    | zero =>
      intro τ v M2 cp2 L2 H locs ls hd hfin hC2 hB2 hL2 hcp2 hcpj hf2 hsn hcol h4 htn2 hl hw
      have hE : τ = σ' := hfin
      subst hE
      refine lv_iload S.1 S.2.1 d_B_tradeAtOnePrice_6 (lv_at hl 0 rfl) ?_
      refine lv_sipush (v := 250) S.1 S.2.1 d_B_tradeAtOnePrice_8 (by decide) ?_
      refine lv_icmp_ge (tgt := 109) S.1 S.2.1 d_B_tradeAtOnePrice_11 rfl (fun _ => ?_) (fun h => absurd (show nI 250 ≤ nI (250 - 0) from nI_le (by omega) (by decide)) h)
      exact m_vret S hlk hr hw ⟨L2, cp2, hC2, hB2, hL2, hcp2, hcpj, hf2, hsn, hcol, h4⟩ (Nat.le_refl _) (Nat.le_refl _) d_B_tradeAtOnePrice_109
    | succ d ih =>
      intro τ v M2 cp2 L2 H locs ls hd hfin hC2 hB2 hL2 hcp2 hcpj hf2 hsn hcol h4 htn2 hl hw
      refine lv_iload S.1 S.2.1 d_B_tradeAtOnePrice_6 (lv_at hl 0 rfl) ?_
      refine lv_sipush (v := 250) S.1 S.2.1 d_B_tradeAtOnePrice_8 (by decide) ?_
      refine lv_icmp_ge (tgt := 109) S.1 S.2.1 d_B_tradeAtOnePrice_11 rfl (fun h => absurd h (show ¬ nI 250 ≤ nI (250 - (d + 1)) from nI_ge (by omega) (by decide))) (fun _ => ?_)
      refine lv_lload S.1 S.2.1 d_B_tradeAtOnePrice_14 (lv_at hl 1 rfl) ?_
      refine lv_lconst (v := 0) S.1 S.2.1 d_B_tradeAtOnePrice_16 (by decide) ?_
      refine W.lcmp S.1 S.2.1 d_B_tradeAtOnePrice_17 ?_
      refine lv_if_le (tgt := 109) S.1 S.2.1 d_B_tradeAtOnePrice_18 rfl (fun h18 => ?_) (fun h18 => ?_)
      · have hE : τ = σ' := (xOne_no (k := d) (p := p0) (fun z => absurd ((lg_cmp_le _ _).mp h18) (Int64.not_le.mpr z))).symm.trans hfin
        subst hE
        exact m_vret S hlk hr hw ⟨L2, cp2, hC2, hB2, hL2, hcp2, hcpj, hf2, hsn, hcol, h4⟩ (Nat.le_refl _) (Nat.le_refl _) d_B_tradeAtOnePrice_109
      · have hpos : 0 < v := Int64.not_le.mp (fun z => h18 ((lg_cmp_le _ _).mpr z))
        obtain ⟨r1, hA1⟩ := hC2.list (j := 1) (Or.inl rfl)
        have hLj1 : Line (sI τ) (sn τ) 1 (L2 1) := hL2.1
        have hhd1 := hLj1.hd hB2.2.1
        have hE1 : mEl M2 2 ((L2 1).map oa) := hC2.ord.el (fun y hy => ((hLj1.1 y).mp hy).1)
        have hlen1 : ((L2 1).map oa).length ≤ 250 := by rw [List.length_map]; exact hLj1.len hB2.1
        obtain ⟨r2, hA2⟩ := hC2.list (j := 2) (Or.inr rfl)
        have hLj2 : Line (sI τ) (sn τ) 0 (L2 2) := hL2.2
        have hhd2 := hLj2.hd hB2.2.1
        have hE2 : mEl M2 2 ((L2 2).map oa) := hC2.ord.el (fun y hy => ((hLj2.1 y).mp hy).1)
        have hlen2 : ((L2 2).map oa).length ≤ 250 := by rw [List.length_map]; exact hLj2.len hB2.1
        refine lv_aload_n S.1 S.2.1 d_B_tradeAtOnePrice_21 rfl (lv_at hl 2 rfl) ?_
        refine m_get S hw cl_B hC2.book 1 (by decide) g146 (fun _ h => h) rfl d_B_tradeAtOnePrice_22 ?_
        refine m_cq hw (va_runV (As := []) (rest := []) S (c_S_first l γ M2 (bsd β 1) (bal β 1) r1 (cp2 1) ((L2 1).map oa) (hC2.side (Or.inl rfl)) hA1 hE1 hlen1) (m_cwV 0 S g252 g253 g254 g45 g255 rfl rfl ⟨by decide +kernel, by decide +kernel, by decide +kernel⟩ ⟨(Nat.le_of_ble_eq_true rfl), (Nat.le_of_ble_eq_true rfl)⟩) (hw.preV (hC2.side (Or.inl rfl)) cl_S.1) rfl rfl hl.1 rfl (lv_room (Nat.le_of_ble_eq_true rfl)) d_B_tradeAtOnePrice_25 ⟨(by show kC (stn τ) - kC (stn σ) + 0 ≤ kC (stn σ') - kC (stn σ); have h8 := one_tn (k := d + 1) (σ := τ) (p := p0) (v := v); rw [hfin] at h8; have := kC_mono h8; omega), (by show kS (stn τ) - kS (stn σ) + 0 ≤ kS (stn σ') - kS (stn σ); have h8 := one_tn (k := d + 1) (σ := τ) (p := p0) (v := v); rw [hfin] at h8; have := kS_mono h8; omega)⟩) (fun r1 M1 H locs hp hw => ?_)
        obtain ⟨hres, hM1⟩ := hp
        rw [hM1] at hw
        rw [List.head?_map, ← hhd1] at hres
        rcases hh1 : fst (sI τ) 1 (sn τ) with _ | b1
        · rw [hh1] at hres
          subst hres
          refine W.eq (g2 := F0 m 28 ls [.null]) rfl ?_
          refine lv_astoreN S.1 S.2.1 d_B_tradeAtOnePrice_28 hl (by decide) rfl (fun ls hl => ?_)
          have hl : lv_has ls 10 [(7, .null), (6, .int (nI (250 - (d + 1)))), (4, .long v), (0, .ref (bx β)), (1, .int p0)] := hl
          refine lv_aload_n S.1 S.2.1 d_B_tradeAtOnePrice_30 rfl (lv_at hl 3 rfl) ?_
          refine m_get S hw cl_B hC2.book 2 (by decide) g147 (fun _ h => h) rfl d_B_tradeAtOnePrice_31 ?_
          refine m_cq hw (va_runV (As := []) (rest := []) S (c_S_first l γ M2 (bsd β 2) (bal β 2) r2 (cp2 2) ((L2 2).map oa) (hC2.side (Or.inr rfl)) hA2 hE2 hlen2) (m_cwV 0 S g252 g253 g254 g45 g255 rfl rfl ⟨by decide +kernel, by decide +kernel, by decide +kernel⟩ ⟨(Nat.le_of_ble_eq_true rfl), (Nat.le_of_ble_eq_true rfl)⟩) (hw.preV (hC2.side (Or.inr rfl)) cl_S.1) rfl rfl hl.1 rfl (lv_room (Nat.le_of_ble_eq_true rfl)) d_B_tradeAtOnePrice_34 ⟨(by show kC (stn τ) - kC (stn σ) + 0 + 0 ≤ kC (stn σ') - kC (stn σ); have h8 := one_tn (k := d + 1) (σ := τ) (p := p0) (v := v); rw [hfin] at h8; have := kC_mono h8; omega), (by show kS (stn τ) - kS (stn σ) + 0 + 0 ≤ kS (stn σ') - kS (stn σ); have h8 := one_tn (k := d + 1) (σ := τ) (p := p0) (v := v); rw [hfin] at h8; have := kS_mono h8; omega)⟩) (fun r1 M1 H locs hp hw => ?_)
          obtain ⟨hres, hM1⟩ := hp
          rw [hM1] at hw
          rw [List.head?_map, ← hhd2] at hres
          rcases hh2 : fst (sI τ) 0 (sn τ) with _ | a1
          · rw [hh2] at hres
            subst hres
            refine W.eq (g2 := F0 m 37 ls [.null]) rfl ?_
            refine lv_astoreN S.1 S.2.1 d_B_tradeAtOnePrice_37 hl (by decide) rfl (fun ls hl => ?_)
            have hl : lv_has ls 10 [(8, .null), (7, .null), (6, .int (nI (250 - (d + 1)))), (4, .long v), (0, .ref (bx β)), (1, .int p0)] := hl
            refine lv_aloadN S.1 S.2.1 d_B_tradeAtOnePrice_39 (lv_at hl 1 rfl) ?_
            refine lv_ifnullN S.1 S.2.1 d_B_tradeAtOnePrice_41 rfl ?_
            have hE : τ = σ' := (xOne_nb (k := d) (p := p0) (v := v) hh1).symm.trans hfin
            subst hE
            exact m_vret S hlk hr hw ⟨L2, cp2, hC2, hB2, hL2, hcp2, hcpj, hf2, hsn, hcol, h4⟩ (Nat.le_refl _) (Nat.le_refl _) d_B_tradeAtOnePrice_49
          · rw [hh2] at hres
            subst hres
            refine W.eq (g2 := F0 m 37 ls [.ref (oa a1)]) rfl ?_
            have hm2 : a1 ∈ L2 2 := List.mem_of_getElem? (i := 0) (by rw [← List.head?_eq_getElem?, ← hhd2, hh2])
            obtain ⟨ha1, hos2⟩ := (hLj2.1 a1).mp hm2
            obtain ⟨hs2, hsd2⟩ := onS_iff.mp hos2
            refine lv_astore S.1 S.2.1 d_B_tradeAtOnePrice_37 hl (by decide) rfl (fun ls hl => ?_)
            have hl : lv_has ls 10 [(8, .ref (oa a1)), (7, .null), (6, .int (nI (250 - (d + 1)))), (4, .long v), (0, .ref (bx β)), (1, .int p0)] := hl
            refine lv_aloadN S.1 S.2.1 d_B_tradeAtOnePrice_39 (lv_at hl 1 rfl) ?_
            refine lv_ifnullN S.1 S.2.1 d_B_tradeAtOnePrice_41 rfl ?_
            have hE : τ = σ' := (xOne_nb (k := d) (p := p0) (v := v) hh1).symm.trans hfin
            subst hE
            exact m_vret S hlk hr hw ⟨L2, cp2, hC2, hB2, hL2, hcp2, hcpj, hf2, hsn, hcol, h4⟩ (Nat.le_refl _) (Nat.le_refl _) d_B_tradeAtOnePrice_49
        · rw [hh1] at hres
          subst hres
          refine W.eq (g2 := F0 m 28 ls [.ref (oa b1)]) rfl ?_
          have hm1 : b1 ∈ L2 1 := List.mem_of_getElem? (i := 0) (by rw [← List.head?_eq_getElem?, ← hhd1, hh1])
          obtain ⟨hb1, hos1⟩ := (hLj1.1 b1).mp hm1
          obtain ⟨hs1, hsd1⟩ := onS_iff.mp hos1
          refine lv_astore S.1 S.2.1 d_B_tradeAtOnePrice_28 hl (by decide) rfl (fun ls hl => ?_)
          have hl : lv_has ls 10 [(7, .ref (oa b1)), (6, .int (nI (250 - (d + 1)))), (4, .long v), (0, .ref (bx β)), (1, .int p0)] := hl
          refine lv_aload_n S.1 S.2.1 d_B_tradeAtOnePrice_30 rfl (lv_at hl 3 rfl) ?_
          refine m_get S hw cl_B hC2.book 2 (by decide) g147 (fun _ h => h) rfl d_B_tradeAtOnePrice_31 ?_
          refine m_cq hw (va_runV (As := []) (rest := []) S (c_S_first l γ M2 (bsd β 2) (bal β 2) r2 (cp2 2) ((L2 2).map oa) (hC2.side (Or.inr rfl)) hA2 hE2 hlen2) (m_cwV 0 S g252 g253 g254 g45 g255 rfl rfl ⟨by decide +kernel, by decide +kernel, by decide +kernel⟩ ⟨(Nat.le_of_ble_eq_true rfl), (Nat.le_of_ble_eq_true rfl)⟩) (hw.preV (hC2.side (Or.inr rfl)) cl_S.1) rfl rfl hl.1 rfl (lv_room (Nat.le_of_ble_eq_true rfl)) d_B_tradeAtOnePrice_34 ⟨(by show kC (stn τ) - kC (stn σ) + 0 + 0 ≤ kC (stn σ') - kC (stn σ); have h8 := one_tn (k := d + 1) (σ := τ) (p := p0) (v := v); rw [hfin] at h8; have := kC_mono h8; omega), (by show kS (stn τ) - kS (stn σ) + 0 + 0 ≤ kS (stn σ') - kS (stn σ); have h8 := one_tn (k := d + 1) (σ := τ) (p := p0) (v := v); rw [hfin] at h8; have := kS_mono h8; omega)⟩) (fun r1 M1 H locs hp hw => ?_)
          obtain ⟨hres, hM1⟩ := hp
          rw [hM1] at hw
          rw [List.head?_map, ← hhd2] at hres
          rcases hh2 : fst (sI τ) 0 (sn τ) with _ | a1
          · rw [hh2] at hres
            subst hres
            refine W.eq (g2 := F0 m 37 ls [.null]) rfl ?_
            refine lv_astoreN S.1 S.2.1 d_B_tradeAtOnePrice_37 hl (by decide) rfl (fun ls hl => ?_)
            have hl : lv_has ls 10 [(8, .null), (7, .ref (oa b1)), (6, .int (nI (250 - (d + 1)))), (4, .long v), (0, .ref (bx β)), (1, .int p0)] := hl
            refine lv_aload S.1 S.2.1 d_B_tradeAtOnePrice_39 (lv_at hl 1 rfl) ?_
            refine lv_ifnull S.1 S.2.1 d_B_tradeAtOnePrice_41 ?_
            refine lv_aloadN S.1 S.2.1 d_B_tradeAtOnePrice_44 (lv_at hl 0 rfl) ?_
            refine lv_ifnonnullN S.1 S.2.1 d_B_tradeAtOnePrice_46 ?_
            have hE : τ = σ' := (xOne_na (k := d) (p := p0) (v := v) hh2).symm.trans hfin
            subst hE
            exact m_vret S hlk hr hw ⟨L2, cp2, hC2, hB2, hL2, hcp2, hcpj, hf2, hsn, hcol, h4⟩ (Nat.le_refl _) (Nat.le_refl _) d_B_tradeAtOnePrice_49
          · rw [hh2] at hres
            subst hres
            refine W.eq (g2 := F0 m 37 ls [.ref (oa a1)]) rfl ?_
            have hm2 : a1 ∈ L2 2 := List.mem_of_getElem? (i := 0) (by rw [← List.head?_eq_getElem?, ← hhd2, hh2])
            obtain ⟨ha1, hos2⟩ := (hLj2.1 a1).mp hm2
            obtain ⟨hs2, hsd2⟩ := onS_iff.mp hos2
            refine lv_astore S.1 S.2.1 d_B_tradeAtOnePrice_37 hl (by decide) rfl (fun ls hl => ?_)
            have hl : lv_has ls 10 [(8, .ref (oa a1)), (7, .ref (oa b1)), (6, .int (nI (250 - (d + 1)))), (4, .long v), (0, .ref (bx β)), (1, .int p0)] := hl
            refine lv_aload S.1 S.2.1 d_B_tradeAtOnePrice_39 (lv_at hl 1 rfl) ?_
            refine lv_ifnull S.1 S.2.1 d_B_tradeAtOnePrice_41 ?_
            refine lv_aload S.1 S.2.1 d_B_tradeAtOnePrice_44 (lv_at hl 0 rfl) ?_
            refine lv_ifnonnull S.1 S.2.1 d_B_tradeAtOnePrice_46 rfl ?_
            refine lv_lload S.1 S.2.1 d_B_tradeAtOnePrice_50 (lv_at hl 3 rfl) ?_
            refine lv_aload S.1 S.2.1 d_B_tradeAtOnePrice_52 (lv_at hl 1 rfl) ?_
            refine m_get S hw cl_O (hC2.ord b1 hb1) 6 (by decide) g398 (fun _ h => h) rfl d_B_tradeAtOnePrice_54 ?_
            refine lv_aload S.1 S.2.1 d_B_tradeAtOnePrice_57 (lv_at hl 0 rfl) ?_
            refine m_get S hw cl_O (hC2.ord a1 ha1) 6 (by decide) g398 (fun _ h => h) rfl d_B_tradeAtOnePrice_59 ?_
            refine va_mmin S.1 S.2.1 (S.2.2.1.trans hl.1.symm) S.2.2.2.1 (S.2.2.2.2 _ (gc g526)) (S.2.2.2.2 _ (gc g241)) (S.2.2.2.2 _ (gc g56)) (S.2.2.2.2 _ (gc g242)) (Nat.le_of_ble_eq_true rfl) (Nat.le_of_ble_eq_true rfl) (by show kC (stn τ) - kC (stn σ) + 0 + 0 ≤ kC (stn σ') - kC (stn σ); have h8 := one_tn (k := d + 1) (σ := τ) (p := p0) (v := v); rw [hfin] at h8; have := kC_mono h8; omega) (by show kS (stn τ) - kS (stn σ) + 0 + 0 ≤ kS (stn σ') - kS (stn σ); have h8 := one_tn (k := d + 1) (σ := τ) (p := p0) (v := v); rw [hfin] at h8; have := kS_mono h8; omega) d_B_tradeAtOnePrice_62 ?_
            refine lv_i2l S.1 S.2.1 d_B_tradeAtOnePrice_65 rfl ?_
            refine va_mmin_long S.1 S.2.1 (S.2.2.1.trans hl.1.symm) S.2.2.2.1 (S.2.2.2.2 _ (gc g645)) (S.2.2.2.2 _ (gc g631)) (S.2.2.2.2 _ (gc g56)) (S.2.2.2.2 _ (gc g632)) (Nat.le_of_ble_eq_true rfl) (Nat.le_of_ble_eq_true rfl) (by show kC (stn τ) - kC (stn σ) + 0 + 0 ≤ kC (stn σ') - kC (stn σ); have h8 := one_tn (k := d + 1) (σ := τ) (p := p0) (v := v); rw [hfin] at h8; have := kC_mono h8; omega) (by show kS (stn τ) - kS (stn σ) + 0 + 0 ≤ kS (stn σ') - kS (stn σ); have h8 := one_tn (k := d + 1) (σ := τ) (p := p0) (v := v); rw [hfin] at h8; have := kS_mono h8; omega) d_B_tradeAtOnePrice_66 ?_
            refine lv_l2i S.1 S.2.1 d_B_tradeAtOnePrice_69 rfl ?_
            refine W.eq (g2 := F0 m 70 ls [.int (oQ τ b1 a1 v)]) (congrArg (fun z => F0 m 70 ls [.int z]) rfl) ?_
            refine lv_istore S.1 S.2.1 d_B_tradeAtOnePrice_70 hl (by decide) rfl (fun ls hl => ?_)
            have hl : lv_has ls 10 [(9, .int (oQ τ b1 a1 v)), (8, .ref (oa a1)), (7, .ref (oa b1)), (6, .int (nI (250 - (d + 1)))), (4, .long v), (0, .ref (bx β)), (1, .int p0)] := hl
            refine lv_aload_n S.1 S.2.1 d_B_tradeAtOnePrice_72 rfl (lv_at hl 5 rfl) ?_
            refine lv_aload S.1 S.2.1 d_B_tradeAtOnePrice_73 (lv_at hl 2 rfl) ?_
            refine lv_aload S.1 S.2.1 d_B_tradeAtOnePrice_75 (lv_at hl 1 rfl) ?_
            refine lv_iload_n S.1 S.2.1 d_B_tradeAtOnePrice_77 rfl (lv_at hl 6 rfl) ?_
            refine lv_iload S.1 S.2.1 d_B_tradeAtOnePrice_78 (lv_at hl 0 rfl) ?_
            have hab : b1 ≠ a1 := fun z => by rw [z, hsd2] at hsd1; exact absurd hsd1 (by decide)
            refine m_cv hw (va_runV (As := [.ref (oa b1), .ref (oa a1), .int p0, .int (oQ τ b1 a1 v)]) (rest := []) S (c_B_exchange l γ M2 β oa cp2 L2 τ hC2 hB2.1 b1 a1 hb1 ha1 hab (by have hf9 : xOne d (xDl τ b1 a1 p0 v) p0 (v - (oQ τ b1 a1 v).toInt64) = σ' := (xOne_go hpos hh1 hh2).symm.trans hfin; have h8 := one_tn (k := d) (σ := xDl τ b1 a1 p0 v) (p := p0) (v := v - (oQ τ b1 a1 v).toInt64); rw [hf9, dl_tn] at h8; omega) p0 (oQ τ b1 a1 v)) (m_cwV 4 S g527 g529 g15 g41 g530 rfl rfl ⟨by decide +kernel, by decide +kernel, by decide +kernel⟩ ⟨(Nat.le_of_ble_eq_true rfl), (Nat.le_of_ble_eq_true rfl)⟩) (hw.preV hC2.book cl_B.1) rfl rfl hl.1 rfl (lv_room (Nat.le_of_ble_eq_true rfl)) d_B_tradeAtOnePrice_80 ⟨(by have hf9 : xOne d (xDl τ b1 a1 p0 v) p0 (v - (oQ τ b1 a1 v).toInt64) = σ' := (xOne_go hpos hh1 hh2).symm.trans hfin; have h8 := one_tn (k := d) (σ := xDl τ b1 a1 p0 v) (p := p0) (v := v - (oQ τ b1 a1 v).toInt64); rw [hf9, dl_tn] at h8; show kC (stn τ) - kC (stn σ) + 0 + 0 + (1 + gN (cp2 3) (stn τ)) ≤ kC (stn σ') - kC (stn σ); rw [hcp2]; have h7 := kC_mono h8; have h6 := kC_mono htn2; have h5 : kC (stn τ + 1) = kC (stn τ) + (1 + gN (cAt (stn τ)) (stn τ)) := rfl; omega), (by have hf9 : xOne d (xDl τ b1 a1 p0 v) p0 (v - (oQ τ b1 a1 v).toInt64) = σ' := (xOne_go hpos hh1 hh2).symm.trans hfin; have h8 := one_tn (k := d) (σ := xDl τ b1 a1 p0 v) (p := p0) (v := v - (oQ τ b1 a1 v).toInt64); rw [hf9, dl_tn] at h8; show kS (stn τ) - kS (stn σ) + 0 + 0 + (4 + sN (cp2 3) (stn τ)) ≤ kS (stn σ') - kS (stn σ); rw [hcp2]; have h7 := kS_mono h8; have h6 := kS_mono htn2; have h5 : kS (stn τ + 1) = kS (stn τ) + (4 + sN (cAt (stn τ)) (stn τ)) := rfl; omega)⟩) (fun M1 H locs hp hw => ?_)
            obtain ⟨hC3, hf3⟩ := hp
            have hn0 : ¬ sI τ 1 b1 = 0 := by rw [hsd1]; decide
            have hC3 : CB γ M1 β oa (va_up cp2 3 (cN (cp2 3) (stn τ))) L2 (xDeal τ b1 a1 p0 (oQ τ b1 a1 v)) := by unfold xDeal; rw [if_neg hn0, if_neg hn0, ← gv_gv hab]; exact hC3
            have hB3 : InvB (xDeal τ b1 a1 p0 (oQ τ b1 a1 v)) := hB2.cols rfl rfl (deal_f (by decide) (by decide)) (deal_f (by decide) (by decide)) (deal_f (by decide) (by decide)) (deal_f (by decide) (by decide))
            have hL3 : LN (xDeal τ b1 a1 p0 (oQ τ b1 a1 v)) L2 := hL2.cols rfl (deal_f (by decide) (by decide)) (deal_f (by decide) (by decide)) (deal_f (by decide) (by decide))
            refine lv_aload_n S.1 S.2.1 d_B_tradeAtOnePrice_83 rfl (lv_at hl 5 rfl) ?_
            refine lv_aload S.1 S.2.1 d_B_tradeAtOnePrice_84 (lv_at hl 2 rfl) ?_
            refine m_cv hw (va_runV (As := [.ref (oa b1)]) (rest := []) S (c_B_finishIfNothingLeft l γ M1 β oa (va_up cp2 3 (cN (cp2 3) (stn τ))) L2 (xDeal τ b1 a1 p0 (oQ τ b1 a1 v)) hC3 hB3 hL3 b1 hb1) (m_cwV 1 S g646 g648 g22 g41 g649 rfl rfl ⟨by decide +kernel, by decide +kernel, by decide +kernel⟩ ⟨(Nat.le_of_ble_eq_true rfl), (Nat.le_of_ble_eq_true rfl)⟩) (hw.preV hC3.book cl_B.1) rfl rfl hl.1 rfl (lv_room (Nat.le_of_ble_eq_true rfl)) d_B_tradeAtOnePrice_86 ⟨(by have hf9 : xOne d (xDl τ b1 a1 p0 v) p0 (v - (oQ τ b1 a1 v).toInt64) = σ' := (xOne_go hpos hh1 hh2).symm.trans hfin; have h8 := one_tn (k := d) (σ := xDl τ b1 a1 p0 v) (p := p0) (v := v - (oQ τ b1 a1 v).toInt64); rw [hf9, dl_tn] at h8; show kC (stn τ) - kC (stn σ) + 0 + 0 + (1 + gN (cp2 3) (stn τ)) + 0 ≤ kC (stn σ') - kC (stn σ); rw [hcp2]; have h7 := kC_mono h8; have h6 := kC_mono htn2; have h5 : kC (stn τ + 1) = kC (stn τ) + (1 + gN (cAt (stn τ)) (stn τ)) := rfl; omega), (by have hf9 : xOne d (xDl τ b1 a1 p0 v) p0 (v - (oQ τ b1 a1 v).toInt64) = σ' := (xOne_go hpos hh1 hh2).symm.trans hfin; have h8 := one_tn (k := d) (σ := xDl τ b1 a1 p0 v) (p := p0) (v := v - (oQ τ b1 a1 v).toInt64); rw [hf9, dl_tn] at h8; show kS (stn τ) - kS (stn σ) + 0 + 0 + (4 + sN (cp2 3) (stn τ)) + 0 ≤ kS (stn σ') - kS (stn σ); rw [hcp2]; have h7 := kS_mono h8; have h6 := kS_mono htn2; have h5 : kS (stn τ + 1) = kS (stn τ) + (4 + sN (cAt (stn τ)) (stn τ)) := rfl; omega)⟩) (fun M4 H locs hp hw => ?_)
            obtain ⟨L4, hC4, hB4, hL4, hf4⟩ := hp
            refine lv_aload_n S.1 S.2.1 d_B_tradeAtOnePrice_89 rfl (lv_at hl 5 rfl) ?_
            refine lv_aload S.1 S.2.1 d_B_tradeAtOnePrice_90 (lv_at hl 1 rfl) ?_
            refine m_cv hw (va_runV (As := [.ref (oa a1)]) (rest := []) S (c_B_finishIfNothingLeft l γ M4 β oa (va_up cp2 3 (cN (cp2 3) (stn τ))) L4 (xFin (xDeal τ b1 a1 p0 (oQ τ b1 a1 v)) b1) hC4 hB4 hL4 a1 (by rw [fin_sn]; exact ha1)) (m_cwV 1 S g646 g648 g22 g41 g649 rfl rfl ⟨by decide +kernel, by decide +kernel, by decide +kernel⟩ ⟨(Nat.le_of_ble_eq_true rfl), (Nat.le_of_ble_eq_true rfl)⟩) (hw.preV hC4.book cl_B.1) rfl rfl hl.1 rfl (lv_room (Nat.le_of_ble_eq_true rfl)) d_B_tradeAtOnePrice_92 ⟨(by have hf9 : xOne d (xDl τ b1 a1 p0 v) p0 (v - (oQ τ b1 a1 v).toInt64) = σ' := (xOne_go hpos hh1 hh2).symm.trans hfin; have h8 := one_tn (k := d) (σ := xDl τ b1 a1 p0 v) (p := p0) (v := v - (oQ τ b1 a1 v).toInt64); rw [hf9, dl_tn] at h8; show kC (stn τ) - kC (stn σ) + 0 + 0 + (1 + gN (cp2 3) (stn τ)) + 0 + 0 ≤ kC (stn σ') - kC (stn σ); rw [hcp2]; have h7 := kC_mono h8; have h6 := kC_mono htn2; have h5 : kC (stn τ + 1) = kC (stn τ) + (1 + gN (cAt (stn τ)) (stn τ)) := rfl; omega), (by have hf9 : xOne d (xDl τ b1 a1 p0 v) p0 (v - (oQ τ b1 a1 v).toInt64) = σ' := (xOne_go hpos hh1 hh2).symm.trans hfin; have h8 := one_tn (k := d) (σ := xDl τ b1 a1 p0 v) (p := p0) (v := v - (oQ τ b1 a1 v).toInt64); rw [hf9, dl_tn] at h8; show kS (stn τ) - kS (stn σ) + 0 + 0 + (4 + sN (cp2 3) (stn τ)) + 0 + 0 ≤ kS (stn σ') - kS (stn σ); rw [hcp2]; have h7 := kS_mono h8; have h6 := kS_mono htn2; have h5 : kS (stn τ + 1) = kS (stn τ) + (4 + sN (cAt (stn τ)) (stn τ)) := rfl; omega)⟩) (fun M5 H locs hp hw => ?_)
            obtain ⟨L5, hC5, hB5, hL5, hf5⟩ := hp
            have hC5 : CB γ M5 β oa (va_up cp2 3 (cN (cp2 3) (stn τ))) L5 (xDl τ b1 a1 p0 v) := hC5
            have hB5 : InvB (xDl τ b1 a1 p0 v) := hB5
            have hL5 : LN (xDl τ b1 a1 p0 v) L5 := hL5
            have hfin2 : xOne d (xDl τ b1 a1 p0 v) p0 (v - (oQ τ b1 a1 v).toInt64) = σ' := (xOne_go hpos hh1 hh2).symm.trans hfin
            refine lv_lload S.1 S.2.1 d_B_tradeAtOnePrice_95 (lv_at hl 4 rfl) ?_
            refine lv_iload S.1 S.2.1 d_B_tradeAtOnePrice_97 (lv_at hl 0 rfl) ?_
            refine lv_i2l S.1 S.2.1 d_B_tradeAtOnePrice_99 rfl ?_
            refine lv_lsub S.1 S.2.1 d_B_tradeAtOnePrice_100 ?_
            refine lv_lstore S.1 S.2.1 d_B_tradeAtOnePrice_101 hl (by decide) rfl (fun ls hl => ?_)
            have hl : lv_has ls 10 [(4, .long (v - ((oQ τ b1 a1 v).toInt64))), (9, .int (oQ τ b1 a1 v)), (8, .ref (oa a1)), (7, .ref (oa b1)), (6, .int (nI (250 - (d + 1)))), (0, .ref (bx β)), (1, .int p0)] := hl
            refine lv_iinc (k := 4) (v := nI (250 - d)) S.1 S.2.1 d_B_tradeAtOnePrice_103 hl rfl (by rw [show Int32.ofInt 1 = (1 : Int32) from rfl, nI_1]; congr 1; omega) (by decide) rfl (fun ls hl => ?_)
            have hl : lv_has ls 10 [(6, .int (nI (250 - d))), (4, .long (v - ((oQ τ b1 a1 v).toInt64))), (9, .int (oQ τ b1 a1 v)), (8, .ref (oa a1)), (7, .ref (oa b1)), (0, .ref (bx β)), (1, .int p0)] := hl
            refine lv_goto (tgt := 6) S.1 S.2.1 d_B_tradeAtOnePrice_106 rfl ?_
            have hl := lv_sub hl [0, 1, 5, 6] rfl
            refine W.widen (k := kC (stn (xDl τ b1 a1 p0 v)) - kC (stn σ)) (n := kS (stn (xDl τ b1 a1 p0 v)) - kS (stn σ)) ?_ ?_ (ih (xDl τ b1 a1 p0 v) _ M5 (va_up cp2 3 (cN (cp2 3) (stn τ))) L5 H locs ls (by omega) hfin2 hC5 hB5 hL5 ?_ ?_ (hf2.tr (hf3.tr (hf4.tr hf5))) (dl_sn.trans hsn) ?_ (dl_4.trans h4) (by rw [dl_tn]; omega) hl hw)
            · rw [dl_tn, hcp2]; show kC (stn τ) - kC (stn σ) + (1 + gN (cAt (stn τ)) (stn τ)) ≤ kC (stn τ) + (1 + gN (cAt (stn τ)) (stn τ)) - kC (stn σ); have := kC_mono htn2; omega
            · rw [dl_tn, hcp2]; show kS (stn τ) - kS (stn σ) + (4 + sN (cAt (stn τ)) (stn τ)) ≤ kS (stn τ) + (4 + sN (cAt (stn τ)) (stn τ)) - kS (stn σ); have := kS_mono htn2; omega
            · rw [dl_tn, hcp2]; exact if_pos rfl
            · intro j hj; rw [show (va_up cp2 3 (cN (cp2 3) (stn τ))) j = cp2 j from if_neg hj]; exact hcpj j hj
            · intro f g3 g4 g5 g7; rw [dl_f g3 g4 g5 g7]; exact hcol f g3 g4 g5 g7
  have hl := lv_sub hl [0, 1, 2, 3] rfl
  refine W.widen (Nat.zero_le _) (Nat.zero_le _) (loop 250 σ v0 M cp L _ _ ls (Nat.le_refl _) hσ hC hB hL hcp (fun _ _ => rfl) (frC.rf M) rfl (fun _ _ _ _ _ => rfl) rfl (Nat.le_refl _) hl hw)
