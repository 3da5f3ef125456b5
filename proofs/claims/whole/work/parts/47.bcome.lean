/-! CallBook.come -/
set_option maxHeartbeats 4000000 in
set_option maxRecDepth 100000 in
theorem c_B_come (l : Launch) (γ : mG) (M : mMap) (β : BK) (oa cp : Nat → Nat) (L : Nat → List Nat) (σ σ' : St) (hC : CB γ M β oa cp L σ) (hI : Inv0 σ) (hL : LN σ L) (o : Nat) (ho : o < sn σ) (hr5 : sI σ 5 o = -1) (hl1 : 1 ≤ (sI σ 3 o).toInt) (hl2 : (sI σ 3 o).toInt ≤ 100000) (hl3 : 0 < (sI σ 8 o).toInt → (sI σ 3 o).toInt ≤ 50 * (sI σ 8 o).toInt) (hcp : cp 3 = cAt (stn σ)) (hcpl : ∀ j, j ≠ 3 → cp j ≤ 373) (hσ : xCome (cgw σ (L (sj (opp (sI σ 1 o)))) o) σ o = σ') (hB : stn σ' ≤ 30000) (hrk : (srk σ).toInt ≤ 500000000) : Met l y_B_come w_B_come ({ frames := 11, cells := kC (stn σ') - kC (stn σ) + 1, slots := kS (stn σ') - kS (stn σ) + 373, locals := 274 } : Room) (mPc γ M [.ref (bx β), .ref (oa o)]) (mQv γ (fun M' => ∃ L' cp', CB γ M' β oa cp' L' σ' ∧ Inv0 σ' ∧ LN σ' L' ∧ cp' 3 = cAt (stn σ') ∧ (∀ j, j ≠ 3 → cp' j ≤ 373) ∧ frC M M' ∧ sn σ' = sn σ ∧ (srk σ').toInt ≤ (srk σ).toInt + 100001)) (kC (stn σ') - kC (stn σ) + 1) (kS (stn σ') - kS (stn σ) + 373) (mA (gz γ)) := by
  refine m_enter (by decide) (Nat.le_of_ble_eq_true rfl) ?_
  intro p e s m below meth c ls S hr hlk hnm hl hw
  have hl : lv_has ls 3 [(0, .ref (bx β)), (1, .ref (oa o))] := hl
  have hOo := hC.ord o ho
  have tail : ∀ (τ : St) (M2 : mMap) (cp2 : Nat → Nat) (L2 : Nat → List Nat) (H : Heap) (locs : List Loc) (ls : Array Slot), CB γ M2 β oa cp2 L2 τ → Inv0 τ → LN τ L2 → cp2 3 = cAt (stn τ) → (∀ j, j ≠ 3 → cp2 j ≤ 373) → frC M M2 → sn τ = sn σ → (∀ f, f ≠ 3 → f ≠ 4 → f ≠ 7 → sI τ f o = sI σ f o) → 0 ≤ (sI τ 3 o).toInt → (sI τ 3 o).toInt ≤ (sI σ 3 o).toInt → (srk τ).toInt ≤ (srk σ).toInt + 100000 → xTail τ o = σ' → stn τ = stn σ' → lv_has ls 3 [(0, .ref (bx β)), (1, .ref (oa o))] → mW γ M2 s H locs → W p l e ({ frames := 11, cells := kC (stn σ') - kC (stn σ) + 1, slots := kS (stn σ') - kS (stn σ) + 373, locals := 274 } : Room) s m #[.ref (bx β), .ref (oa o)] below meth c H locs (kC (stn τ) - kC (stn σ)) (kS (stn τ) - kS (stn σ)) (MQ below (mQv γ (fun M' => ∃ L' cp', CB γ M' β oa cp' L' σ' ∧ Inv0 σ' ∧ LN σ' L' ∧ cp' 3 = cAt (stn σ') ∧ (∀ j, j ≠ 3 → cp' j ≤ 373) ∧ frC M M' ∧ sn σ' = sn σ ∧ (srk σ').toInt ≤ (srk σ).toInt + 100001)) #[.ref (bx β), .ref (oa o)] s (kC (stn σ') - kC (stn σ) + 1) (kS (stn σ') - kS (stn σ) + 373) (mA (gz γ))) (F0 m 35 ls []) := by
    intro τ M2 cp2 L2 H locs ls hC2 hI2 hL2 hcp2 hcpl2 hf2 hsn hcol hz0 hz1 hrk2 hfin htn2 hl hw
    have ho2 : o < sn τ := by rw [hsn]; exact ho
    have hO2 := hC2.ord o ho2
    have hr52 : sI τ 5 o = -1 := (hcol 5 (by decide) (by decide) (by decide)).trans hr5
    have h82 : sI τ 8 o = sI σ 8 o := hcol 8 (by decide) (by decide) (by decide)
    obtain ⟨hg1, hg2⟩ := rest_cost (cp := cp2) (oa := oa) hI2 hL2 ho2 hr52
    refine lv_aload_n S.1 S.2.1 d_B_come_35 rfl (lv_at hl 1 rfl) ?_
    refine m_get S hw cl_O hO2 4 (by decide) g393 (fun _ h => h) rfl d_B_come_36 ?_
    refine lv_if_ne (tgt := 61) S.1 S.2.1 d_B_come_39 rfl (fun h39 => ?_) (fun h39 => ?_)
    · refine lv_iconst (v := 0) S.1 S.2.1 d_B_come_61 (by decide) ?_
      refine lv_istore_n S.1 S.2.1 d_B_come_62 rfl hl (by decide) rfl (fun ls hl => ?_)
      have hl : lv_has ls 3 [(2, .int 0), (0, .ref (bx β)), (1, .ref (oa o))] := hl
      refine lv_aload_n S.1 S.2.1 d_B_come_63 rfl (lv_at hl 2 rfl) ?_
      refine m_get S hw cl_O hO2 6 (by decide) g398 (fun _ h => h) rfl d_B_come_64 ?_
      refine lv_if_le (tgt := 82) S.1 S.2.1 d_B_come_67 rfl (fun h67 => ?_) (fun h67 => ?_)
      · have hE : xTail τ o = xEnd τ o := if_neg (fun z => absurd h67 (Int32.not_le.mpr z.1))
        have hE2 : xEnd τ o = σ' := hE.symm.trans hfin
        subst hE2
        refine lv_aload_n S.1 S.2.1 d_B_come_82 rfl (lv_at hl 1 rfl) ?_
        refine lv_aload_n S.1 S.2.1 d_B_come_83 rfl (lv_at hl 2 rfl) ?_
        refine m_cv hw (va_runV (As := [.ref (oa o)]) (rest := []) S (c_B_finish l γ M2 β oa cp2 L2 τ hC2 hI2.b hL2 o ho2) (m_cwV 1 S g563 g565 g16 g41 g566 rfl rfl ⟨by decide +kernel, by decide +kernel, by decide +kernel⟩ ⟨(Nat.le_of_ble_eq_true rfl), (Nat.le_of_ble_eq_true rfl)⟩) (hw.preV hC2.book cl_B.1) rfl rfl hl.1 rfl (lv_room (Nat.le_of_ble_eq_true rfl)) d_B_come_84 ⟨(by show kC (stn τ) - kC (stn σ) + 0 ≤ kC (stn τ) - kC (stn σ) + 1; omega), (by show kS (stn τ) - kS (stn σ) + 0 ≤ kS (stn τ) - kS (stn σ) + 373; omega)⟩) (fun M1 H locs hp hw => ?_)
        obtain ⟨L3, hC3, hI3, hL3, hf3⟩ := hp
        exact m_vret S hlk hr hw ⟨L3, cp2, hC3, end_inv (hI2.x o) hI3, hL3, hcp2, hcpl2, hf2.tr hf3, hsn, by show (srk τ).toInt ≤ _; omega⟩ (by show kC (stn τ) - kC (stn σ) + 0 ≤ kC (stn τ) - kC (stn σ) + 1; omega) (by show kS (stn τ) - kS (stn σ) + 0 ≤ kS (stn τ) - kS (stn σ) + 373; omega) d_B_come_87
      · refine lv_iload_n S.1 S.2.1 d_B_come_70 rfl (lv_at hl 0 rfl) ?_
        refine lv_if_eq (tgt := 82) S.1 S.2.1 d_B_come_71 rfl (fun _ => ?_) (fun h => absurd (show (0 : Int32) = 0 from rfl) h)
        have hE : xTail τ o = xEnd τ o := if_neg (fun z => h39 z.2.1)
        have hE2 : xEnd τ o = σ' := hE.symm.trans hfin
        subst hE2
        refine lv_aload_n S.1 S.2.1 d_B_come_82 rfl (lv_at hl 1 rfl) ?_
        refine lv_aload_n S.1 S.2.1 d_B_come_83 rfl (lv_at hl 2 rfl) ?_
        refine m_cv hw (va_runV (As := [.ref (oa o)]) (rest := []) S (c_B_finish l γ M2 β oa cp2 L2 τ hC2 hI2.b hL2 o ho2) (m_cwV 1 S g563 g565 g16 g41 g566 rfl rfl ⟨by decide +kernel, by decide +kernel, by decide +kernel⟩ ⟨(Nat.le_of_ble_eq_true rfl), (Nat.le_of_ble_eq_true rfl)⟩) (hw.preV hC2.book cl_B.1) rfl rfl hl.1 rfl (lv_room (Nat.le_of_ble_eq_true rfl)) d_B_come_84 ⟨(by show kC (stn τ) - kC (stn σ) + 0 ≤ kC (stn τ) - kC (stn σ) + 1; omega), (by show kS (stn τ) - kS (stn σ) + 0 ≤ kS (stn τ) - kS (stn σ) + 373; omega)⟩) (fun M1 H locs hp hw => ?_)
        obtain ⟨L3, hC3, hI3, hL3, hf3⟩ := hp
        exact m_vret S hlk hr hw ⟨L3, cp2, hC3, end_inv (hI2.x o) hI3, hL3, hcp2, hcpl2, hf2.tr hf3, hsn, by show (srk τ).toInt ≤ _; omega⟩ (by show kC (stn τ) - kC (stn σ) + 0 ≤ kC (stn τ) - kC (stn σ) + 1; omega) (by show kS (stn τ) - kS (stn σ) + 0 ≤ kS (stn τ) - kS (stn σ) + 373; omega) d_B_come_87
    · refine lv_aload_n S.1 S.2.1 d_B_come_42 rfl (lv_at hl 1 rfl) ?_
      refine m_get S hw cl_O hO2 5 (by decide) g395 (fun _ h => h) rfl d_B_come_43 ?_
      refine lv_if_ne (tgt := 57) S.1 S.2.1 d_B_come_46 rfl (fun h46 => ?_) (fun h46 => ?_)
      · refine lv_iconst (v := 1) S.1 S.2.1 d_B_come_57 (by decide) ?_
        refine lv_goto (tgt := 62) S.1 S.2.1 d_B_come_58 rfl ?_
        refine lv_istore_n S.1 S.2.1 d_B_come_62 rfl hl (by decide) rfl (fun ls hl => ?_)
        have hl : lv_has ls 3 [(2, .int 1), (0, .ref (bx β)), (1, .ref (oa o))] := hl
        refine lv_aload_n S.1 S.2.1 d_B_come_63 rfl (lv_at hl 2 rfl) ?_
        refine m_get S hw cl_O hO2 6 (by decide) g398 (fun _ h => h) rfl d_B_come_64 ?_
        refine lv_if_le (tgt := 82) S.1 S.2.1 d_B_come_67 rfl (fun h67 => ?_) (fun h67 => ?_)
        · have hE : xTail τ o = xEnd τ o := if_neg (fun z => absurd h67 (Int32.not_le.mpr z.1))
          have hE2 : xEnd τ o = σ' := hE.symm.trans hfin
          subst hE2
          refine lv_aload_n S.1 S.2.1 d_B_come_82 rfl (lv_at hl 1 rfl) ?_
          refine lv_aload_n S.1 S.2.1 d_B_come_83 rfl (lv_at hl 2 rfl) ?_
          refine m_cv hw (va_runV (As := [.ref (oa o)]) (rest := []) S (c_B_finish l γ M2 β oa cp2 L2 τ hC2 hI2.b hL2 o ho2) (m_cwV 1 S g563 g565 g16 g41 g566 rfl rfl ⟨by decide +kernel, by decide +kernel, by decide +kernel⟩ ⟨(Nat.le_of_ble_eq_true rfl), (Nat.le_of_ble_eq_true rfl)⟩) (hw.preV hC2.book cl_B.1) rfl rfl hl.1 rfl (lv_room (Nat.le_of_ble_eq_true rfl)) d_B_come_84 ⟨(by show kC (stn τ) - kC (stn σ) + 0 ≤ kC (stn τ) - kC (stn σ) + 1; omega), (by show kS (stn τ) - kS (stn σ) + 0 ≤ kS (stn τ) - kS (stn σ) + 373; omega)⟩) (fun M1 H locs hp hw => ?_)
          obtain ⟨L3, hC3, hI3, hL3, hf3⟩ := hp
          exact m_vret S hlk hr hw ⟨L3, cp2, hC3, end_inv (hI2.x o) hI3, hL3, hcp2, hcpl2, hf2.tr hf3, hsn, by show (srk τ).toInt ≤ _; omega⟩ (by show kC (stn τ) - kC (stn σ) + 0 ≤ kC (stn τ) - kC (stn σ) + 1; omega) (by show kS (stn τ) - kS (stn σ) + 0 ≤ kS (stn τ) - kS (stn σ) + 373; omega) d_B_come_87
        · refine lv_iload_n S.1 S.2.1 d_B_come_70 rfl (lv_at hl 0 rfl) ?_
          refine lv_if_eq (tgt := 82) S.1 S.2.1 d_B_come_71 rfl (fun h => absurd h (show ¬ (1 : Int32) = 0 by decide)) (fun _ => ?_)
          have hpos : 0 < (sI τ 3 o).toInt := by have h9 := Int32.lt_iff_toInt_lt.mp (Int32.not_le.mp h67); rw [i0] at h9; exact h9
          have hE : xTail τ o = xRest τ o := if_pos ⟨Int32.not_le.mp h67, h39, (fun z => absurd z h46)⟩
          have hE2 : xRest τ o = σ' := hE.symm.trans hfin
          subst hE2
          refine lv_aload_n S.1 S.2.1 d_B_come_74 rfl (lv_at hl 1 rfl) ?_
          refine lv_aload_n S.1 S.2.1 d_B_come_75 rfl (lv_at hl 2 rfl) ?_
          refine m_cv hw (va_runV (As := [.ref (oa o)]) (rest := []) S (c_B_restX l γ M2 β oa cp2 L2 τ hC2 hI2 hL2 o ho2 hr52 (by omega) (by omega) (by omega) (by rw [h82]; intro z; have := hl3 z; omega) hcpl2) (m_cwV 1 S g490 g492 g9 g41 g493 rfl rfl ⟨by decide +kernel, by decide +kernel, by decide +kernel⟩ ⟨(Nat.le_of_ble_eq_true rfl), (Nat.le_of_ble_eq_true rfl)⟩) (hw.preV hC2.book cl_B.1) rfl rfl hl.1 rfl (lv_room (Nat.le_of_ble_eq_true rfl)) d_B_come_76 ⟨(by show kC (stn τ) - kC (stn σ) + gN (cp2 (sj (sI τ 1 o))) ((L2 (sj (sI τ 1 o))).map oa).length ≤ kC (stn τ) - kC (stn σ) + 1; omega), (by show kS (stn τ) - kS (stn σ) + sN (cp2 (sj (sI τ 1 o))) ((L2 (sj (sI τ 1 o))).map oa).length ≤ kS (stn τ) - kS (stn σ) + 373; omega)⟩) (fun M1 H locs hp hw => ?_)
          obtain ⟨L3, cp3, hC3, hI3, hL3, hc3, hcl3, hf3⟩ := hp
          refine lv_goto (tgt := 87) S.1 S.2.1 d_B_come_79 rfl ?_
          exact m_vret S hlk hr hw ⟨L3, cp3, hC3, hI3, hL3, hc3.trans hcp2, hcl3, hf2.tr hf3, hsn, (by show (srk τ + 1).toInt ≤ _; rw [i_add (by rw [i_1]; have := hI2.2.2.2.1; omega) (by rw [i_1]; omega), i_1]; omega)⟩ (by show kC (stn τ) - kC (stn σ) + gN (cp2 (sj (sI τ 1 o))) ((L2 (sj (sI τ 1 o))).map oa).length ≤ kC (stn τ) - kC (stn σ) + 1; omega) (by show kS (stn τ) - kS (stn σ) + sN (cp2 (sj (sI τ 1 o))) ((L2 (sj (sI τ 1 o))).map oa).length ≤ kS (stn τ) - kS (stn σ) + 373; omega) d_B_come_87
      · refine lv_aload_n S.1 S.2.1 d_B_come_49 rfl (lv_at hl 0 rfl) ?_
        refine m_get S hw cl_B hC2.book 5 (by decide) g150 (fun _ h => h) rfl d_B_come_50 ?_
        refine lv_iconst (v := 2) S.1 S.2.1 d_B_come_53 (by decide) ?_
        refine lv_icmp_ne (tgt := 61) S.1 S.2.1 d_B_come_54 rfl (fun h54 => ?_) (fun h54 => ?_)
        · refine lv_iconst (v := 0) S.1 S.2.1 d_B_come_61 (by decide) ?_
          refine lv_istore_n S.1 S.2.1 d_B_come_62 rfl hl (by decide) rfl (fun ls hl => ?_)
          have hl : lv_has ls 3 [(2, .int 0), (0, .ref (bx β)), (1, .ref (oa o))] := hl
          refine lv_aload_n S.1 S.2.1 d_B_come_63 rfl (lv_at hl 2 rfl) ?_
          refine m_get S hw cl_O hO2 6 (by decide) g398 (fun _ h => h) rfl d_B_come_64 ?_
          refine lv_if_le (tgt := 82) S.1 S.2.1 d_B_come_67 rfl (fun h67 => ?_) (fun h67 => ?_)
          · have hE : xTail τ o = xEnd τ o := if_neg (fun z => absurd h67 (Int32.not_le.mpr z.1))
            have hE2 : xEnd τ o = σ' := hE.symm.trans hfin
            subst hE2
            refine lv_aload_n S.1 S.2.1 d_B_come_82 rfl (lv_at hl 1 rfl) ?_
            refine lv_aload_n S.1 S.2.1 d_B_come_83 rfl (lv_at hl 2 rfl) ?_
            refine m_cv hw (va_runV (As := [.ref (oa o)]) (rest := []) S (c_B_finish l γ M2 β oa cp2 L2 τ hC2 hI2.b hL2 o ho2) (m_cwV 1 S g563 g565 g16 g41 g566 rfl rfl ⟨by decide +kernel, by decide +kernel, by decide +kernel⟩ ⟨(Nat.le_of_ble_eq_true rfl), (Nat.le_of_ble_eq_true rfl)⟩) (hw.preV hC2.book cl_B.1) rfl rfl hl.1 rfl (lv_room (Nat.le_of_ble_eq_true rfl)) d_B_come_84 ⟨(by show kC (stn τ) - kC (stn σ) + 0 ≤ kC (stn τ) - kC (stn σ) + 1; omega), (by show kS (stn τ) - kS (stn σ) + 0 ≤ kS (stn τ) - kS (stn σ) + 373; omega)⟩) (fun M1 H locs hp hw => ?_)
            obtain ⟨L3, hC3, hI3, hL3, hf3⟩ := hp
            exact m_vret S hlk hr hw ⟨L3, cp2, hC3, end_inv (hI2.x o) hI3, hL3, hcp2, hcpl2, hf2.tr hf3, hsn, by show (srk τ).toInt ≤ _; omega⟩ (by show kC (stn τ) - kC (stn σ) + 0 ≤ kC (stn τ) - kC (stn σ) + 1; omega) (by show kS (stn τ) - kS (stn σ) + 0 ≤ kS (stn τ) - kS (stn σ) + 373; omega) d_B_come_87
          · refine lv_iload_n S.1 S.2.1 d_B_come_70 rfl (lv_at hl 0 rfl) ?_
            refine lv_if_eq (tgt := 82) S.1 S.2.1 d_B_come_71 rfl (fun _ => ?_) (fun h => absurd (show (0 : Int32) = 0 from rfl) h)
            have hE : xTail τ o = xEnd τ o := if_neg (fun z => h54 (z.2.2 h46))
            have hE2 : xEnd τ o = σ' := hE.symm.trans hfin
            subst hE2
            refine lv_aload_n S.1 S.2.1 d_B_come_82 rfl (lv_at hl 1 rfl) ?_
            refine lv_aload_n S.1 S.2.1 d_B_come_83 rfl (lv_at hl 2 rfl) ?_
            refine m_cv hw (va_runV (As := [.ref (oa o)]) (rest := []) S (c_B_finish l γ M2 β oa cp2 L2 τ hC2 hI2.b hL2 o ho2) (m_cwV 1 S g563 g565 g16 g41 g566 rfl rfl ⟨by decide +kernel, by decide +kernel, by decide +kernel⟩ ⟨(Nat.le_of_ble_eq_true rfl), (Nat.le_of_ble_eq_true rfl)⟩) (hw.preV hC2.book cl_B.1) rfl rfl hl.1 rfl (lv_room (Nat.le_of_ble_eq_true rfl)) d_B_come_84 ⟨(by show kC (stn τ) - kC (stn σ) + 0 ≤ kC (stn τ) - kC (stn σ) + 1; omega), (by show kS (stn τ) - kS (stn σ) + 0 ≤ kS (stn τ) - kS (stn σ) + 373; omega)⟩) (fun M1 H locs hp hw => ?_)
            obtain ⟨L3, hC3, hI3, hL3, hf3⟩ := hp
            exact m_vret S hlk hr hw ⟨L3, cp2, hC3, end_inv (hI2.x o) hI3, hL3, hcp2, hcpl2, hf2.tr hf3, hsn, by show (srk τ).toInt ≤ _; omega⟩ (by show kC (stn τ) - kC (stn σ) + 0 ≤ kC (stn τ) - kC (stn σ) + 1; omega) (by show kS (stn τ) - kS (stn σ) + 0 ≤ kS (stn τ) - kS (stn σ) + 373; omega) d_B_come_87
        · refine lv_iconst (v := 1) S.1 S.2.1 d_B_come_57 (by decide) ?_
          refine lv_goto (tgt := 62) S.1 S.2.1 d_B_come_58 rfl ?_
          refine lv_istore_n S.1 S.2.1 d_B_come_62 rfl hl (by decide) rfl (fun ls hl => ?_)
          have hl : lv_has ls 3 [(2, .int 1), (0, .ref (bx β)), (1, .ref (oa o))] := hl
          refine lv_aload_n S.1 S.2.1 d_B_come_63 rfl (lv_at hl 2 rfl) ?_
          refine m_get S hw cl_O hO2 6 (by decide) g398 (fun _ h => h) rfl d_B_come_64 ?_
          refine lv_if_le (tgt := 82) S.1 S.2.1 d_B_come_67 rfl (fun h67 => ?_) (fun h67 => ?_)
          · have hE : xTail τ o = xEnd τ o := if_neg (fun z => absurd h67 (Int32.not_le.mpr z.1))
            have hE2 : xEnd τ o = σ' := hE.symm.trans hfin
            subst hE2
            refine lv_aload_n S.1 S.2.1 d_B_come_82 rfl (lv_at hl 1 rfl) ?_
            refine lv_aload_n S.1 S.2.1 d_B_come_83 rfl (lv_at hl 2 rfl) ?_
            refine m_cv hw (va_runV (As := [.ref (oa o)]) (rest := []) S (c_B_finish l γ M2 β oa cp2 L2 τ hC2 hI2.b hL2 o ho2) (m_cwV 1 S g563 g565 g16 g41 g566 rfl rfl ⟨by decide +kernel, by decide +kernel, by decide +kernel⟩ ⟨(Nat.le_of_ble_eq_true rfl), (Nat.le_of_ble_eq_true rfl)⟩) (hw.preV hC2.book cl_B.1) rfl rfl hl.1 rfl (lv_room (Nat.le_of_ble_eq_true rfl)) d_B_come_84 ⟨(by show kC (stn τ) - kC (stn σ) + 0 ≤ kC (stn τ) - kC (stn σ) + 1; omega), (by show kS (stn τ) - kS (stn σ) + 0 ≤ kS (stn τ) - kS (stn σ) + 373; omega)⟩) (fun M1 H locs hp hw => ?_)
            obtain ⟨L3, hC3, hI3, hL3, hf3⟩ := hp
            exact m_vret S hlk hr hw ⟨L3, cp2, hC3, end_inv (hI2.x o) hI3, hL3, hcp2, hcpl2, hf2.tr hf3, hsn, by show (srk τ).toInt ≤ _; omega⟩ (by show kC (stn τ) - kC (stn σ) + 0 ≤ kC (stn τ) - kC (stn σ) + 1; omega) (by show kS (stn τ) - kS (stn σ) + 0 ≤ kS (stn τ) - kS (stn σ) + 373; omega) d_B_come_87
          · refine lv_iload_n S.1 S.2.1 d_B_come_70 rfl (lv_at hl 0 rfl) ?_
            refine lv_if_eq (tgt := 82) S.1 S.2.1 d_B_come_71 rfl (fun h => absurd h (show ¬ (1 : Int32) = 0 by decide)) (fun _ => ?_)
            have hpos : 0 < (sI τ 3 o).toInt := by have h9 := Int32.lt_iff_toInt_lt.mp (Int32.not_le.mp h67); rw [i0] at h9; exact h9
            have hE : xTail τ o = xRest τ o := if_pos ⟨Int32.not_le.mp h67, h39, (fun _ => h54)⟩
            have hE2 : xRest τ o = σ' := hE.symm.trans hfin
            subst hE2
            refine lv_aload_n S.1 S.2.1 d_B_come_74 rfl (lv_at hl 1 rfl) ?_
            refine lv_aload_n S.1 S.2.1 d_B_come_75 rfl (lv_at hl 2 rfl) ?_
            refine m_cv hw (va_runV (As := [.ref (oa o)]) (rest := []) S (c_B_restX l γ M2 β oa cp2 L2 τ hC2 hI2 hL2 o ho2 hr52 (by omega) (by omega) (by omega) (by rw [h82]; intro z; have := hl3 z; omega) hcpl2) (m_cwV 1 S g490 g492 g9 g41 g493 rfl rfl ⟨by decide +kernel, by decide +kernel, by decide +kernel⟩ ⟨(Nat.le_of_ble_eq_true rfl), (Nat.le_of_ble_eq_true rfl)⟩) (hw.preV hC2.book cl_B.1) rfl rfl hl.1 rfl (lv_room (Nat.le_of_ble_eq_true rfl)) d_B_come_76 ⟨(by show kC (stn τ) - kC (stn σ) + gN (cp2 (sj (sI τ 1 o))) ((L2 (sj (sI τ 1 o))).map oa).length ≤ kC (stn τ) - kC (stn σ) + 1; omega), (by show kS (stn τ) - kS (stn σ) + sN (cp2 (sj (sI τ 1 o))) ((L2 (sj (sI τ 1 o))).map oa).length ≤ kS (stn τ) - kS (stn σ) + 373; omega)⟩) (fun M1 H locs hp hw => ?_)
            obtain ⟨L3, cp3, hC3, hI3, hL3, hc3, hcl3, hf3⟩ := hp
            refine lv_goto (tgt := 87) S.1 S.2.1 d_B_come_79 rfl ?_
            exact m_vret S hlk hr hw ⟨L3, cp3, hC3, hI3, hL3, hc3.trans hcp2, hcl3, hf2.tr hf3, hsn, (by show (srk τ + 1).toInt ≤ _; rw [i_add (by rw [i_1]; have := hI2.2.2.2.1; omega) (by rw [i_1]; omega), i_1]; omega)⟩ (by show kC (stn τ) - kC (stn σ) + gN (cp2 (sj (sI τ 1 o))) ((L2 (sj (sI τ 1 o))).map oa).length ≤ kC (stn τ) - kC (stn σ) + 1; omega) (by show kS (stn τ) - kS (stn σ) + sN (cp2 (sj (sI τ 1 o))) ((L2 (sj (sI τ 1 o))).map oa).length ≤ kS (stn τ) - kS (stn σ) + 373; omega) d_B_come_87
  refine lv_aload_n S.1 S.2.1 d_B_come_0 rfl (lv_at hl 0 rfl) ?_
  refine m_get S hw cl_B hC.book 5 (by decide) g150 (fun _ h => h) rfl d_B_come_1 ?_
  refine lv_iconst (v := 1) S.1 S.2.1 d_B_come_4 (by decide) ?_
  refine lv_icmp_eq (tgt := 14) S.1 S.2.1 d_B_come_5 rfl (fun h5 => ?_) (fun h5 => ?_)
  · refine lv_aload_n S.1 S.2.1 d_B_come_14 rfl (lv_at hl 1 rfl) ?_
    refine m_get S hw cl_O hOo 4 (by decide) g393 (fun _ h => h) rfl d_B_come_15 ?_
    refine lv_iconst (v := 2) S.1 S.2.1 d_B_come_18 (by decide) ?_
    refine lv_icmp_ne (tgt := 30) S.1 S.2.1 d_B_come_19 rfl (fun h19 => ?_) (fun h19 => ?_)
    · obtain ⟨σ2, hs2⟩ : ∃ z, z = xMeet 100000 σ o := ⟨_, rfl⟩
      have hfin4 : xTail σ2 o = σ' := by rw [← hσ, hs2]; unfold xCome; rw [if_pos h5, if_neg (fun z => h19 z.1)]
      have htn4 : stn σ2 = stn σ' := by rw [← hfin4, tail_tn]
      refine lv_aload_n S.1 S.2.1 d_B_come_30 rfl (lv_at hl 0 rfl) ?_
      refine lv_aload_n S.1 S.2.1 d_B_come_31 rfl (lv_at hl 1 rfl) ?_
      refine m_cv hw (va_runV (As := [.ref (oa o)]) (rest := []) S (c_B_meet l γ M β oa cp L σ σ2 hC hI hL o ho hr5 (by omega) hl2 hcp hs2.symm (by rw [htn4]; exact hB) hrk) (m_cwV 1 S g518 g520 g13 g41 g521 rfl rfl ⟨by decide +kernel, by decide +kernel, by decide +kernel⟩ ⟨(Nat.le_of_ble_eq_true rfl), (Nat.le_of_ble_eq_true rfl)⟩) (hw.preV hC.book cl_B.1) rfl rfl hl.1 rfl (lv_room (Nat.le_of_ble_eq_true rfl)) d_B_come_32 ⟨(by show 0 + (kC (stn σ2) - kC (stn σ)) ≤ kC (stn σ') - kC (stn σ) + 1; rw [htn4]; omega), (by show 0 + (kS (stn σ2) - kS (stn σ)) ≤ kS (stn σ') - kS (stn σ) + 373; rw [htn4]; omega)⟩) (fun M1 H locs hp hw => ?_)
      obtain ⟨L4, cp4, hC4, hI4, hL4, hcp4, hcpj4, hf4, hsn4, hcol4, hz04, hz14, hrk4⟩ := hp
      refine W.widen (k := kC (stn σ2) - kC (stn σ)) (n := kS (stn σ2) - kS (stn σ)) (by show 0 + _ ≤ _; omega) (by show 0 + _ ≤ _; omega) ?_
      exact tail σ2 M1 cp4 L4 H locs ls hC4 hI4 hL4 hcp4 (fun j hj => by rw [hcpj4 j hj]; exact hcpl j hj) hf4 (hsn4) hcol4 hz04 hz14 hrk4 hfin4 htn4 hl hw
    · refine lv_aload_n S.1 S.2.1 d_B_come_22 rfl (lv_at hl 0 rfl) ?_
      refine lv_aload_n S.1 S.2.1 d_B_come_23 rfl (lv_at hl 1 rfl) ?_
      refine m_ci hw (va_runV (As := [.ref (oa o)]) (rest := []) S (c_B_couldGoWhole l γ M β oa cp L σ hC hI hL o ho) (m_cwV 1 S g510 g512 g11 g41 g513 rfl rfl ⟨by decide +kernel, by decide +kernel, by decide +kernel⟩ ⟨(Nat.le_of_ble_eq_true rfl), (Nat.le_of_ble_eq_true rfl)⟩) (hw.preV hC.book cl_B.1) rfl rfl hl.1 rfl (lv_room (Nat.le_of_ble_eq_true rfl)) d_B_come_24 ⟨(Nat.zero_le _), (Nat.zero_le _)⟩) (fun r1 M1 H locs hp hw => ?_)
      obtain ⟨rfl, hM1⟩ := hp
      rw [hM1] at hw
      refine lv_if_eq (tgt := 35) S.1 S.2.1 d_B_come_27 rfl (fun h27 => ?_) (fun h27 => ?_)
      · have hfin4 : xTail σ o = σ' := by rw [← hσ]; unfold xCome; rw [if_pos h5, if_pos ⟨h19, b2i_0.mp h27⟩]
        have htn4 : stn σ = stn σ' := by rw [← hfin4, tail_tn]
        refine W.widen (Nat.zero_le _) (Nat.zero_le _) (tail σ M cp L H locs ls hC hI hL hcp hcpl (frC.rf M) rfl (fun _ _ _ _ => rfl) (by omega) (Int.le_refl _) (by omega) hfin4 htn4 hl hw)
      · obtain ⟨σ2, hs2⟩ : ∃ z, z = xMeet 100000 σ o := ⟨_, rfl⟩
        have hfin4 : xTail σ2 o = σ' := by rw [← hσ, hs2]; unfold xCome; rw [if_pos h5, if_neg (fun z => by have h9 := b2i_n0.mp h27; rw [z.2] at h9; cases h9)]
        have htn4 : stn σ2 = stn σ' := by rw [← hfin4, tail_tn]
        refine lv_aload_n S.1 S.2.1 d_B_come_30 rfl (lv_at hl 0 rfl) ?_
        refine lv_aload_n S.1 S.2.1 d_B_come_31 rfl (lv_at hl 1 rfl) ?_
        refine m_cv hw (va_runV (As := [.ref (oa o)]) (rest := []) S (c_B_meet l γ M β oa cp L σ σ2 hC hI hL o ho hr5 (by omega) hl2 hcp hs2.symm (by rw [htn4]; exact hB) hrk) (m_cwV 1 S g518 g520 g13 g41 g521 rfl rfl ⟨by decide +kernel, by decide +kernel, by decide +kernel⟩ ⟨(Nat.le_of_ble_eq_true rfl), (Nat.le_of_ble_eq_true rfl)⟩) (hw.preV hC.book cl_B.1) rfl rfl hl.1 rfl (lv_room (Nat.le_of_ble_eq_true rfl)) d_B_come_32 ⟨(by show 0 + 0 + (kC (stn σ2) - kC (stn σ)) ≤ kC (stn σ') - kC (stn σ) + 1; rw [htn4]; omega), (by show 0 + 0 + (kS (stn σ2) - kS (stn σ)) ≤ kS (stn σ') - kS (stn σ) + 373; rw [htn4]; omega)⟩) (fun M1 H locs hp hw => ?_)
        obtain ⟨L4, cp4, hC4, hI4, hL4, hcp4, hcpj4, hf4, hsn4, hcol4, hz04, hz14, hrk4⟩ := hp
        refine W.widen (k := kC (stn σ2) - kC (stn σ)) (n := kS (stn σ2) - kS (stn σ)) (by show 0 + 0 + _ ≤ _; omega) (by show 0 + 0 + _ ≤ _; omega) ?_
        exact tail σ2 M1 cp4 L4 H locs ls hC4 hI4 hL4 hcp4 (fun j hj => by rw [hcpj4 j hj]; exact hcpl j hj) hf4 (hsn4) hcol4 hz04 hz14 hrk4 hfin4 htn4 hl hw
  · have hE2 : xRest σ o = σ' := by rw [← hσ]; unfold xCome; rw [if_neg h5]
    subst hE2
    refine lv_aload_n S.1 S.2.1 d_B_come_8 rfl (lv_at hl 0 rfl) ?_
    refine lv_aload_n S.1 S.2.1 d_B_come_9 rfl (lv_at hl 1 rfl) ?_
    refine m_cv hw (va_runV (As := [.ref (oa o)]) (rest := []) S (c_B_restX l γ M β oa cp L σ hC hI hL o ho hr5 (by omega) hl1 hl2 hl3 hcpl) (m_cwV 1 S g490 g492 g9 g41 g493 rfl rfl ⟨by decide +kernel, by decide +kernel, by decide +kernel⟩ ⟨(Nat.le_of_ble_eq_true rfl), (Nat.le_of_ble_eq_true rfl)⟩) (hw.preV hC.book cl_B.1) rfl rfl hl.1 rfl (lv_room (Nat.le_of_ble_eq_true rfl)) d_B_come_10 ⟨(by show 0 + gN (cp (sj (sI σ 1 o))) ((L (sj (sI σ 1 o))).map oa).length ≤ kC (stn (xRest σ o)) - kC (stn σ) + 1; have := (rest_cost (cp := cp) (oa := oa) hI hL ho hr5).1; omega), (by show 0 + sN (cp (sj (sI σ 1 o))) ((L (sj (sI σ 1 o))).map oa).length ≤ kS (stn (xRest σ o)) - kS (stn σ) + 373; have := (rest_cost (cp := cp) (oa := oa) hI hL ho hr5).2; omega)⟩) (fun M1 H locs hp hw => ?_)
    obtain ⟨L3, cp3, hC3, hI3, hL3, hc3, hcl3, hf3⟩ := hp
    exact m_vret S hlk hr hw ⟨L3, cp3, hC3, hI3, hL3, hc3.trans hcp, hcl3, hf3, rfl, (by show (srk σ + 1).toInt ≤ _; rw [i_add (by rw [i_1]; have := hI.2.2.2.1; omega) (by rw [i_1]; omega), i_1]; omega)⟩ (by show 0 + gN (cp (sj (sI σ 1 o))) ((L (sj (sI σ 1 o))).map oa).length ≤ kC (stn (xRest σ o)) - kC (stn σ) + 1; have := (rest_cost (cp := cp) (oa := oa) hI hL ho hr5).1; omega) (by show 0 + sN (cp (sj (sI σ 1 o))) ((L (sj (sI σ 1 o))).map oa).length ≤ kS (stn (xRest σ o)) - kS (stn σ) + 373; have := (rest_cost (cp := cp) (oa := oa) hI hL ho hr5).2; omega) d_B_come_13
