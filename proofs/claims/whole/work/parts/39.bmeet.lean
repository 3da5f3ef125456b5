/-! CallBook.meet -/
set_option maxHeartbeats 4000000 in
set_option maxRecDepth 100000 in
theorem c_B_meet (l : Launch) (γ : mG) (M : mMap) (β : BK) (oa cp : Nat → Nat) (L : Nat → List Nat) (σ σ' : St) (hC : CB γ M β oa cp L σ) (hI : Inv0 σ) (hL : LN σ L) (o : Nat) (ho : o < sn σ) (hr5 : sI σ 5 o = -1) (hl0 : 0 ≤ (sI σ 3 o).toInt) (hl1 : (sI σ 3 o).toInt ≤ 100000) (hcp : cp 3 = cAt (stn σ)) (hσ : xMeet 100000 σ o = σ') (hB : stn σ' ≤ 30000) (hrk : (srk σ).toInt ≤ 500000000) : Met l y_B_meet w_B_meet ({ frames := 10, cells := kC (stn σ') - kC (stn σ), slots := kS (stn σ') - kS (stn σ), locals := 250 } : Room) (mPc γ M [.ref (bx β), .ref (oa o)]) (mQv γ (fun M' => ∃ L' cp', CB γ M' β oa cp' L' σ' ∧ Inv0 σ' ∧ LN σ' L' ∧ cp' 3 = cAt (stn σ') ∧ (∀ j, j ≠ 3 → cp' j = cp j) ∧ frC M M' ∧ sn σ' = sn σ ∧ (∀ f, f ≠ 3 → f ≠ 4 → f ≠ 7 → sI σ' f o = sI σ f o) ∧ 0 ≤ (sI σ' 3 o).toInt ∧ (sI σ' 3 o).toInt ≤ (sI σ 3 o).toInt ∧ (srk σ').toInt ≤ (srk σ).toInt + 100000)) (kC (stn σ') - kC (stn σ)) (kS (stn σ') - kS (stn σ)) (mA (gz γ)) := by
  refine m_enter (by decide) (Nat.le_of_ble_eq_true rfl) ?_
  intro p e s m below meth c ls S hr hlk hnm hl hw
  have hl : lv_has ls 5 [(0, .ref (bx β)), (1, .ref (oa o))] := hl
  have hn := hI.1
  have hOo := hC.ord o ho
  have hside := (hI.2.1.1 o ho).2.2
  refine lv_aload_n S.1 S.2.1 d_B_meet_0 rfl (lv_at hl 0 rfl) ?_
  refine lv_aload_n S.1 S.2.1 d_B_meet_1 rfl (lv_at hl 1 rfl) ?_
  refine m_get S hw cl_O hOo 2 (by decide) g389 (fun _ h => h) rfl d_B_meet_2 ?_
  have cont : ∀ (H : Heap) (locs : List Loc) (ls : Array Slot), lv_has ls 5 [(0, .ref (bx β)), (1, .ref (oa o))] → mW γ M s H locs → W p l e ({ frames := 10, cells := kC (stn σ') - kC (stn σ), slots := kS (stn σ') - kS (stn σ), locals := 250 } : Room) s m #[.ref (bx β), .ref (oa o)] below meth c H locs 0 0 (MQ below (mQv γ (fun M' => ∃ L' cp', CB γ M' β oa cp' L' σ' ∧ Inv0 σ' ∧ LN σ' L' ∧ cp' 3 = cAt (stn σ') ∧ (∀ j, j ≠ 3 → cp' j = cp j) ∧ frC M M' ∧ sn σ' = sn σ ∧ (∀ f, f ≠ 3 → f ≠ 4 → f ≠ 7 → sI σ' f o = sI σ f o) ∧ 0 ≤ (sI σ' 3 o).toInt ∧ (sI σ' 3 o).toInt ≤ (sI σ 3 o).toInt ∧ (srk σ').toInt ≤ (srk σ).toInt + 100000)) #[.ref (bx β), .ref (oa o)] s (kC (stn σ') - kC (stn σ)) (kS (stn σ') - kS (stn σ)) (mA (gz γ))) (F0 m 13 ls [.int (opp (sI σ 1 o)), .ref (bx β)]) := by
    intro H locs ls hl hw
    refine m_cq hw (va_runV (As := [.int (opp (sI σ 1 o))]) (rest := []) S (c_B_side l γ M β σ.2.1 hC.book (opp (sI σ 1 o))) (m_cwV 1 S g181 g183 g0 g41 g184 rfl rfl ⟨by decide +kernel, by decide +kernel, by decide +kernel⟩ ⟨(Nat.le_of_ble_eq_true rfl), (Nat.le_of_ble_eq_true rfl)⟩) (hw.preV hC.book cl_B.1) rfl rfl hl.1 rfl (lv_room (Nat.le_of_ble_eq_true rfl)) d_B_meet_13 ⟨(Nat.zero_le _), (Nat.zero_le _)⟩) (fun r1 M1 H locs hp hw => ?_)
    obtain ⟨rfl, hM1⟩ := hp
    rw [hM1] at hw
    refine lv_astore_n S.1 S.2.1 d_B_meet_16 rfl hl (by decide) rfl (fun ls hl => ?_)
    have hl : lv_has ls 5 [(2, .ref (bsd β (sj (opp (sI σ 1 o))))), (0, .ref (bx β)), (1, .ref (oa o))] := hl
    refine lv_iconst (v := 0) S.1 S.2.1 d_B_meet_17 (by decide) ?_
    refine lv_istore_n S.1 S.2.1 d_B_meet_18 rfl hl (by decide) rfl (fun ls hl => ?_)
    have hl : lv_has ls 5 [(3, .int 0), (2, .ref (bsd β (sj (opp (sI σ 1 o))))), (0, .ref (bx β)), (1, .ref (oa o))] := hl
    have loop : ∀ (d : Nat) (τ : St) (M2 : mMap) (cp2 : Nat → Nat) (L2 : Nat → List Nat) (H : Heap) (locs : List Loc) (ls : Array Slot), d ≤ 100000 → xMeet d τ o = σ' → CB γ M2 β oa cp2 L2 τ → Inv0 τ → LN τ L2 → cp2 3 = cAt (stn τ) → (∀ j, j ≠ 3 → cp2 j = cp j) → frC M M2 → sn τ = sn σ → (∀ f, f ≠ 3 → f ≠ 4 → f ≠ 7 → sI τ f o = sI σ f o) → 0 ≤ (sI τ 3 o).toInt → (sI τ 3 o).toInt ≤ (sI σ 3 o).toInt → stn σ ≤ stn τ → (srk τ).toInt + d ≤ (srk σ).toInt + 100000 → lv_has ls 5 [(3, .int (nI (100000 - d))), (2, .ref (bsd β (sj (opp (sI σ 1 o))))), (0, .ref (bx β)), (1, .ref (oa o))] → mW γ M2 s H locs → W p l e ({ frames := 10, cells := kC (stn σ') - kC (stn σ), slots := kS (stn σ') - kS (stn σ), locals := 250 } : Room) s m #[.ref (bx β), .ref (oa o)] below meth c H locs (kC (stn τ) - kC (stn σ)) (kS (stn τ) - kS (stn σ)) (MQ below (mQv γ (fun M' => ∃ L' cp', CB γ M' β oa cp' L' σ' ∧ Inv0 σ' ∧ LN σ' L' ∧ cp' 3 = cAt (stn σ') ∧ (∀ j, j ≠ 3 → cp' j = cp j) ∧ frC M M' ∧ sn σ' = sn σ ∧ (∀ f, f ≠ 3 → f ≠ 4 → f ≠ 7 → sI σ' f o = sI σ f o) ∧ 0 ≤ (sI σ' 3 o).toInt ∧ (sI σ' 3 o).toInt ≤ (sI σ 3 o).toInt ∧ (srk σ').toInt ≤ (srk σ).toInt + 100000)) #[.ref (bx β), .ref (oa o)] s (kC (stn σ') - kC (stn σ)) (kS (stn σ') - kS (stn σ)) (mA (gz γ))) (F0 m 19 ls []) := by
      intro d
      induction d with
      | zero =>
        intro τ M2 cp2 L2 H locs ls hd hfin hC2 hI2 hL2 hcp2 hcpj hf2 hsn hcol hz0 hz1 htn2 hrk2 hl hw
        have ho2 : o < sn τ := by rw [hsn]; exact ho
        have hE : τ = σ' := hfin
        subst hE
        refine lv_iload_n S.1 S.2.1 d_B_meet_19 rfl (lv_at hl 0 rfl) ?_
        refine lv_ldc S.1 S.2.1 S.2.2.2.1 (S.2.2.2.2 _ (gc g292)) d_B_meet_20 ?_
        refine lv_icmp_ge (tgt := 87) S.1 S.2.1 d_B_meet_22 rfl (fun _ => ?_) (fun h => absurd (show nI 100000 ≤ nI (100000 - 0) from nI_le (by omega) (by decide)) h)
        exact m_vret S hlk hr hw ⟨L2, cp2, hC2, hI2, hL2, hcp2, hcpj, hf2, hsn, hcol, hz0, hz1, by omega⟩ (Nat.le_refl _) (Nat.le_refl _) d_B_meet_87
      | succ d ih =>
        intro τ M2 cp2 L2 H locs ls hd hfin hC2 hI2 hL2 hcp2 hcpj hf2 hsn hcol hz0 hz1 htn2 hrk2 hl hw
        have ho2 : o < sn τ := by rw [hsn]; exact ho
        refine lv_iload_n S.1 S.2.1 d_B_meet_19 rfl (lv_at hl 0 rfl) ?_
        refine lv_ldc S.1 S.2.1 S.2.2.2.1 (S.2.2.2.2 _ (gc g292)) d_B_meet_20 ?_
        refine lv_icmp_ge (tgt := 87) S.1 S.2.1 d_B_meet_22 rfl (fun h => absurd h (show ¬ nI 100000 ≤ nI (100000 - (d + 1)) from nI_ge (by omega) (by decide))) (fun _ => ?_)
        refine lv_aload_n S.1 S.2.1 d_B_meet_25 rfl (lv_at hl 3 rfl) ?_
        refine m_get S hw cl_O (hC2.ord o ho2) 6 (by decide) g398 (fun _ h => h) rfl d_B_meet_26 ?_
        refine lv_if_le (tgt := 87) S.1 S.2.1 d_B_meet_29 rfl (fun h29 => ?_) (fun h29 => ?_)
        · have hE : τ = σ' := (xMeet_no (k := d) (fun z => absurd h29 (Int32.not_le.mpr z))).symm.trans hfin
          subst hE
          exact m_vret S hlk hr hw ⟨L2, cp2, hC2, hI2, hL2, hcp2, hcpj, hf2, hsn, hcol, hz0, hz1, by omega⟩ (Nat.le_refl _) (Nat.le_refl _) d_B_meet_87
        · have hpos : 0 < sI τ 3 o := Int32.not_le.mp h29
          have hposI : 0 < (sI τ 3 o).toInt := by have h9 := Int32.lt_iff_toInt_lt.mp hpos; rw [i0] at h9; exact h9
          obtain ⟨r0, hA2⟩ := hC2.list (sj_or (opp (sI σ 1 o)))
          have hLj : Line (sI τ) (sn τ) (opp (sI σ 1 o)) (L2 (sj (opp (sI σ 1 o)))) := sj_val (opp_or _) hL2
          have hhd := hLj.hd hI2.2.1
          have hc1 : sI τ 1 o = sI σ 1 o := hcol 1 (by decide) (by decide) (by decide)
          have hE2 : mEl M2 2 ((L2 (sj (opp (sI σ 1 o)))).map oa) := hC2.ord.el (fun y hy => ((hLj.1 y).mp hy).1)
          have hlen2 : ((L2 (sj (opp (sI σ 1 o)))).map oa).length ≤ 250 := by rw [List.length_map]; exact hLj.len hI2.1
          refine lv_aload_n S.1 S.2.1 d_B_meet_32 rfl (lv_at hl 1 rfl) ?_
          refine m_cq hw (va_runV (As := []) (rest := []) S (c_S_first l γ M2 (bsd β (sj (opp (sI σ 1 o)))) (bal β (sj (opp (sI σ 1 o)))) r0 (cp2 (sj (opp (sI σ 1 o)))) ((L2 (sj (opp (sI σ 1 o)))).map oa) (hC2.side (sj_or _)) hA2 hE2 hlen2) (m_cwV 0 S g252 g253 g254 g45 g255 rfl rfl ⟨by decide +kernel, by decide +kernel, by decide +kernel⟩ ⟨(Nat.le_of_ble_eq_true rfl), (Nat.le_of_ble_eq_true rfl)⟩) (hw.preV (hC2.side (sj_or _)) cl_S.1) rfl rfl hl.1 rfl (lv_room (Nat.le_of_ble_eq_true rfl)) d_B_meet_33 ⟨(by show kC (stn τ) - kC (stn σ) + 0 ≤ kC (stn σ') - kC (stn σ); have h8 := meet_tn (o := o) (k := d + 1) (σ := τ); rw [hfin] at h8; have := kC_mono h8; omega), (by show kS (stn τ) - kS (stn σ) + 0 ≤ kS (stn σ') - kS (stn σ); have h8 := meet_tn (o := o) (k := d + 1) (σ := τ); rw [hfin] at h8; have := kS_mono h8; omega)⟩) (fun r1 M1 H locs hp hw => ?_)
          obtain ⟨hres, hM1⟩ := hp
          rw [hM1] at hw
          rw [List.head?_map, ← hhd] at hres
          have hff : fst (sI τ) (opp (sI τ 1 o)) (sn τ) = fst (sI τ) (opp (sI σ 1 o)) (sn τ) := by rw [hc1]
          rcases hh : fst (sI τ) (opp (sI σ 1 o)) (sn τ) with _ | r1
          · rw [hh] at hres hff
            subst hres
            refine W.eq (g2 := F0 m 36 ls [.null]) rfl ?_
            refine lv_astoreN S.1 S.2.1 d_B_meet_36 hl (by decide) rfl (fun ls hl => ?_)
            have hl : lv_has ls 5 [(4, .null), (3, .int (nI (100000 - (d + 1)))), (2, .ref (bsd β (sj (opp (sI σ 1 o))))), (0, .ref (bx β)), (1, .ref (oa o))] := hl
            refine lv_aloadN S.1 S.2.1 d_B_meet_38 (lv_at hl 0 rfl) ?_
            refine lv_ifnullN S.1 S.2.1 d_B_meet_40 rfl ?_
            have hE : τ = σ' := (xMeet_nil (k := d) hpos hff).symm.trans hfin
            subst hE
            exact m_vret S hlk hr hw ⟨L2, cp2, hC2, hI2, hL2, hcp2, hcpj, hf2, hsn, hcol, hz0, hz1, by omega⟩ (Nat.le_refl _) (Nat.le_refl _) d_B_meet_55
          · rw [hh] at hres hff
            subst hres
            refine W.eq (g2 := F0 m 36 ls [.ref (oa r1)]) rfl ?_
            have hm1 : r1 ∈ L2 (sj (opp (sI σ 1 o))) := List.mem_of_getElem? (i := 0) (by rw [← List.head?_eq_getElem?, ← hhd, hh])
            have hk0 : (L2 (sj (opp (sI σ 1 o))))[0]? = some r1 := by rw [← List.head?_eq_getElem?, ← hhd, hh]
            obtain ⟨hr1, hos⟩ := (hLj.1 r1).mp hm1
            obtain ⟨hs1, hsd⟩ := onS_iff.mp hos
            have hor : o ≠ r1 := fun z => opp_ne hside (by rw [← hsd, ← z]; exact hc1)
            refine lv_astore S.1 S.2.1 d_B_meet_36 hl (by decide) rfl (fun ls hl => ?_)
            have hl : lv_has ls 5 [(4, .ref (oa r1)), (3, .int (nI (100000 - (d + 1)))), (2, .ref (bsd β (sj (opp (sI σ 1 o))))), (0, .ref (bx β)), (1, .ref (oa o))] := hl
            refine lv_aload S.1 S.2.1 d_B_meet_38 (lv_at hl 0 rfl) ?_
            refine lv_ifnull S.1 S.2.1 d_B_meet_40 ?_
            refine lv_aload_n S.1 S.2.1 d_B_meet_43 rfl (lv_at hl 4 rfl) ?_
            refine lv_aload S.1 S.2.1 d_B_meet_44 (lv_at hl 0 rfl) ?_
            refine m_get S hw cl_O (hC2.ord r1 hr1) 5 (by decide) g395 (fun _ h => h) rfl d_B_meet_46 ?_
            refine m_ci hw (va_runV (As := [.int ((sI τ) 2 r1)]) (rest := []) S (c_O_takes l γ M2 (oa o) _ _ _ _ _ _ _ _ _ _ (hC2.ord o ho2) (sI τ 2 r1)) (m_cwV 1 S g262 g263 g264 g54 g265 rfl rfl ⟨by decide +kernel, by decide +kernel, by decide +kernel⟩ ⟨(Nat.le_of_ble_eq_true rfl), (Nat.le_of_ble_eq_true rfl)⟩) (hw.preV (hC2.ord o ho2) cl_O.1) rfl rfl hl.1 rfl (lv_room (Nat.le_of_ble_eq_true rfl)) d_B_meet_49 ⟨(by show kC (stn τ) - kC (stn σ) + 0 ≤ kC (stn σ') - kC (stn σ); have h8 := meet_tn (o := o) (k := d + 1) (σ := τ); rw [hfin] at h8; have := kC_mono h8; omega), (by show kS (stn τ) - kS (stn σ) + 0 ≤ kS (stn σ') - kS (stn σ); have h8 := meet_tn (o := o) (k := d + 1) (σ := τ); rw [hfin] at h8; have := kS_mono h8; omega)⟩) (fun r1 M1 H locs hp hw => ?_)
            obtain ⟨rfl, hM1⟩ := hp
            rw [hM1] at hw
            refine W.eq (g2 := F0 m 52 ls [.int (b2i (tk (sI τ) o (sI τ 2 r1)))]) rfl ?_
            refine lv_if_ne (tgt := 56) S.1 S.2.1 d_B_meet_52 rfl (fun h52 => ?_) (fun h52 => ?_)
            · refine lv_aload_n S.1 S.2.1 d_B_meet_56 rfl (lv_at hl 3 rfl) ?_
              refine lv_aload S.1 S.2.1 d_B_meet_57 (lv_at hl 0 rfl) ?_
              refine m_get S hw cl_O (hC2.ord r1 hr1) 5 (by decide) g395 (fun _ h => h) rfl d_B_meet_59 ?_
              refine m_ci hw (va_runV (As := [.int ((sI τ) 2 r1)]) (rest := []) S (c_B_isBeyondBand l γ M2 β τ.2.1 hC2.book (sI τ 2 r1)) (m_cwV 1 S g514 g516 g12 g41 g517 rfl rfl ⟨by decide +kernel, by decide +kernel, by decide +kernel⟩ ⟨(Nat.le_of_ble_eq_true rfl), (Nat.le_of_ble_eq_true rfl)⟩) (hw.preV hC2.book cl_B.1) rfl rfl hl.1 rfl (lv_room (Nat.le_of_ble_eq_true rfl)) d_B_meet_62 ⟨(by show kC (stn τ) - kC (stn σ) + 0 ≤ kC (stn σ') - kC (stn σ); have h8 := meet_tn (o := o) (k := d + 1) (σ := τ); rw [hfin] at h8; have := kC_mono h8; omega), (by show kS (stn τ) - kS (stn σ) + 0 ≤ kS (stn σ') - kS (stn σ); have h8 := meet_tn (o := o) (k := d + 1) (σ := τ); rw [hfin] at h8; have := kS_mono h8; omega)⟩) (fun r1 M1 H locs hp hw => ?_)
              obtain ⟨rfl, hM1⟩ := hp
              rw [hM1] at hw
              refine lv_if_eq (tgt := 74) S.1 S.2.1 d_B_meet_65 rfl (fun h65 => ?_) (fun h65 => ?_)
              · refine lv_aload_n S.1 S.2.1 d_B_meet_74 rfl (lv_at hl 3 rfl) ?_
                refine lv_aload_n S.1 S.2.1 d_B_meet_75 rfl (lv_at hl 4 rfl) ?_
                refine lv_aload S.1 S.2.1 d_B_meet_76 (lv_at hl 0 rfl) ?_
                refine m_cv hw (va_runV (As := [.ref (oa o), .ref (oa r1)]) (rest := []) S (c_B_tradeWithShown l γ M2 β oa cp2 L2 τ hC2 hI2 hL2 o r1 ho2 hr1 hor ((hcol 5 (by decide) (by decide) (by decide)).trans hr5) (by omega) hs1 (by rw [hsd]; exact hk0) (by have hf9 : xMeet d (xHit τ o r1) o = σ' := (xMeet_go (k := d) hpos hff (b2i_n0.mp h52) (b2i_0.mp h65)).symm.trans hfin; have h8 := meet_tn (o := o) (k := d) (σ := xHit τ o r1); rw [hf9, hit_tn] at h8; omega) (by omega)) (m_cwV 2 S g522 g524 g14 g41 g525 rfl rfl ⟨by decide +kernel, by decide +kernel, by decide +kernel⟩ ⟨(Nat.le_of_ble_eq_true rfl), (Nat.le_of_ble_eq_true rfl)⟩) (hw.preV hC2.book cl_B.1) rfl rfl hl.1 rfl (lv_room (Nat.le_of_ble_eq_true rfl)) d_B_meet_78 ⟨(by have hf9 : xMeet d (xHit τ o r1) o = σ' := (xMeet_go (k := d) hpos hff (b2i_n0.mp h52) (b2i_0.mp h65)).symm.trans hfin; have h8 := meet_tn (o := o) (k := d) (σ := xHit τ o r1); rw [hf9, hit_tn] at h8; show kC (stn τ) - kC (stn σ) + 0 + 0 + 0 + (1 + gN (cp2 3) (stn τ)) ≤ kC (stn σ') - kC (stn σ); rw [hcp2]; have h7 := kC_mono h8; have h6 := kC_mono htn2; have h5 : kC (stn τ + 1) = kC (stn τ) + (1 + gN (cAt (stn τ)) (stn τ)) := rfl; omega), (by have hf9 : xMeet d (xHit τ o r1) o = σ' := (xMeet_go (k := d) hpos hff (b2i_n0.mp h52) (b2i_0.mp h65)).symm.trans hfin; have h8 := meet_tn (o := o) (k := d) (σ := xHit τ o r1); rw [hf9, hit_tn] at h8; show kS (stn τ) - kS (stn σ) + 0 + 0 + 0 + (4 + sN (cp2 3) (stn τ)) ≤ kS (stn σ') - kS (stn σ); rw [hcp2]; have h7 := kS_mono h8; have h6 := kS_mono htn2; have h5 : kS (stn τ + 1) = kS (stn τ) + (4 + sN (cAt (stn τ)) (stn τ)) := rfl; omega)⟩) (fun M1 H locs hp hw => ?_)
                obtain ⟨L3, hC3, hI3, hL3, hf3⟩ := hp
                have hfin2 : xMeet d (xHit τ o r1) o = σ' := by rw [← xMeet_go (k := d) hpos hff (b2i_n0.mp h52) (b2i_0.mp h65)]; exact hfin
                obtain ⟨q1, q2, q3, q4, -⟩ := hit_q (o := o) hI2 hr1 hs1 (by omega)
                refine lv_iinc (k := 1) (v := nI (100000 - d)) S.1 S.2.1 d_B_meet_81 hl rfl (by rw [show Int32.ofInt 1 = (1 : Int32) from rfl, nI_1]; congr 1; omega) (by decide) rfl (fun ls hl => ?_)
                have hl : lv_has ls 5 [(3, .int (nI (100000 - d))), (4, .ref (oa r1)), (2, .ref (bsd β (sj (opp (sI σ 1 o))))), (0, .ref (bx β)), (1, .ref (oa o))] := hl
                refine lv_goto (tgt := 19) S.1 S.2.1 d_B_meet_84 rfl ?_
                have hl := lv_sub hl [0, 2, 3, 4] rfl
                have hE3 : (sI (xHit τ o r1) 3 o).toInt = (sI τ 3 o).toInt - (hQ τ o r1).toInt := by rw [hit_o3 hor]; exact i_sub (by omega) (by omega)
                have hmono : stn τ + 1 ≤ stn σ' := by have h9 := meet_tn (o := o) (k := d) (σ := xHit τ o r1); rw [hfin2, hit_tn] at h9; exact h9
                have hq4 := hit_p4 (σ := τ) (o := o) (r := r1)
                refine W.widen (k := kC (stn (xHit τ o r1)) - kC (stn σ)) (n := kS (stn (xHit τ o r1)) - kS (stn σ)) ?_ ?_ (ih (xHit τ o r1) M1 (va_up cp2 3 (cN (cp2 3) (stn τ))) L3 H locs ls (by omega) hfin2 hC3 hI3 hL3 ?_ ?_ (hf2.tr hf3) (hit_sn.trans hsn) ?_ (by omega) (by omega) (by rw [hit_tn]; omega) ?_ hl hw)
                · rw [hit_tn, hcp2]; show kC (stn τ) - kC (stn σ) + (1 + gN (cAt (stn τ)) (stn τ)) ≤ kC (stn τ) + (1 + gN (cAt (stn τ)) (stn τ)) - kC (stn σ); have := kC_mono htn2; omega
                · rw [hit_tn, hcp2]; show kS (stn τ) - kS (stn σ) + (4 + sN (cAt (stn τ)) (stn τ)) ≤ kS (stn τ) + (4 + sN (cAt (stn τ)) (stn τ)) - kS (stn σ); have := kS_mono htn2; omega
                · rw [hit_tn, hcp2]; exact if_pos rfl
                · intro j hj; rw [show va_up cp2 3 (cN (cp2 3) (stn τ)) j = cp2 j from if_neg hj]; exact hcpj j hj
                · intro f h3 h4 h7; rw [hit_oc hor h3 h4 h7]; exact hcol f h3 h4 h7
                · have h1 := i_1; have hrk0 := hI2.2.2.2.1; rcases hq4.2.2.2 with e | e
                  · rw [e]; omega
                  · rw [e, i_add (by omega) (by omega)]; omega
              · refine lv_aload_n S.1 S.2.1 d_B_meet_68 rfl (lv_at hl 3 rfl) ?_
                refine lv_iconst (v := 2) S.1 S.2.1 d_B_meet_69 (by decide) ?_
                refine m_put S hw cl_B hC2.book 5 (by decide) g150 (fun _ h => h) rfl rfl rfl (Nat.le_of_ble_eq_true rfl) d_B_meet_70 (fun H locs hw => ?_)
                have hw : mW γ (mU M2 (bx β) (.inr (6, [.ref (bal β 0), .ref (bsd β 1), .ref (bsd β 2), .ref (btl β), .ref (bau β), .int 2, .int τ.2.1.2.1, .int τ.2.1.2.2.1, .int τ.2.1.2.2.2]))) s H locs := hw
                have hE : oPh τ 2 = σ' := (xMeet_by (k := d) hpos hff (b2i_n0.mp h52) (b2i_n0.mp h65)).symm.trans hfin
                subst hE
                obtain ⟨hC4, hf4⟩ := hC2.setB (p := (2, srf τ, sbd τ, srk τ)) (e := .inr (6, bkc β (2, srf τ, sbd τ, srk τ))) rfl
                exact m_vret S hlk hr hw ⟨L2, cp2, hC4, hI2, hL2, hcp2, hcpj, hf2.tr hf4, hsn, hcol, hz0, hz1, by show (srk τ).toInt ≤ _; omega⟩ (Nat.le_refl _) (Nat.le_refl _) d_B_meet_73
            · have hE : τ = σ' := (xMeet_nt (k := d) hpos hff (b2i_0.mp h52)).symm.trans hfin
              subst hE
              exact m_vret S hlk hr hw ⟨L2, cp2, hC2, hI2, hL2, hcp2, hcpj, hf2, hsn, hcol, hz0, hz1, by omega⟩ (Nat.le_refl _) (Nat.le_refl _) d_B_meet_55
    refine W.widen (Nat.zero_le _) (Nat.zero_le _) (loop 100000 σ M cp L H locs ls (Nat.le_refl _) hσ hC hI hL hcp (fun _ _ => rfl) (frC.rf M) rfl (fun _ _ _ _ => rfl) hl0 (Int.le_refl _) (Nat.le_refl _) (Int.le_refl _) hl hw)
  refine lv_if_ne (tgt := 12) S.1 S.2.1 d_B_meet_5 rfl (fun h5 => ?_) (fun h5 => ?_)
  · refine lv_iconst (v := 0) S.1 S.2.1 d_B_meet_12 (by decide) ?_
    refine W.eq (g2 := F0 m 13 ls [.int (opp (sI σ 1 o)), .ref (bx β)]) (congrArg (fun z => F0 m 13 ls [.int z, .ref (bx β)]) (show (0 : Int32) = opp (sI σ 1 o) from (if_neg h5).symm)) ?_
    exact cont _ _ ls hl hw
  · refine lv_iconst (v := 1) S.1 S.2.1 d_B_meet_8 (by decide) ?_
    refine lv_goto (tgt := 13) S.1 S.2.1 d_B_meet_9 rfl ?_
    refine W.eq (g2 := F0 m 13 ls [.int (opp (sI σ 1 o)), .ref (bx β)]) (congrArg (fun z => F0 m 13 ls [.int z, .ref (bx β)]) (show (1 : Int32) = opp (sI σ 1 o) from (if_pos h5).symm)) ?_
    exact cont _ _ ls hl hw
