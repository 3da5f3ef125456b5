/-! The reference: comes, place, cancel, cancelAll, amend -/
theorem tail_r {τ : St} {o : Nat} (h0 : 0 ≤ (sI τ 3 o).toInt) (h3 : ¬ sI τ 3 o = 0) (h6 : sI τ 6 o = 0) (h : sI τ 2 o = 0 → sph τ = 2) : xTail τ o = xRest τ o :=
  if_pos ⟨Int32.lt_iff_toInt_lt.mpr (by rw [i0]; have := i_ne0 h3; omega), h6, h⟩
theorem tail_e1 {τ : St} {o : Nat} (h : sI τ 3 o = 0) : xTail τ o = xEnd τ o := if_neg (fun z => by rw [h] at z; exact absurd z.1 (by decide))
theorem tail_e2 {τ : St} {o : Nat} (h : ¬ sI τ 6 o = 0) : xTail τ o = xEnd τ o := if_neg (fun z => h z.2.1)
theorem tail_e3 {τ : St} {o : Nat} (h : sI τ 2 o = 0) (h2 : ¬ sph τ = 2) : xTail τ o = xEnd τ o := if_neg (fun z => h2 (z.2.2 h))
theorem rest_is1 {τ : St} {o : Nat} (hk : 0 ≤ (srk τ).toInt) : b2i (decide (¬ sI (xRest τ o) 5 o = -1)) = 1 := by
  have e : sI (xRest τ o) 5 o = srk τ := by show s1 (s1 (sI τ) 5 o (srk τ)) 4 o (shw (sI τ) o) 5 o = _; rw [s1_f (by decide), s1_ss]
  have hne : ¬ srk τ = -1 := fun z => by rw [z] at hk; exact absurd hk (by decide)
  rw [e, decide_eq_true hne]
  rfl
theorem end_0 {τ : St} {o : Nat} : b2i (decide (¬ sI (xEnd τ o) 5 o = -1)) = 0 := by
  have e : sI (xEnd τ o) 5 o = -1 := by show s1 _ 5 o (-1) 5 o = -1; exact s1_ss _ _ _ _
  rw [e, decide_eq_false (fun z => z rfl)]
  rfl
theorem isO_t {n k : Nat} (hn : n ≤ 250) (hk : k < n) : rg 0 (nI n - 1) (nI k) = true := by
  have e : nI n - 1 = nI (n - 1) := by
    have := nI_pred (n - 1)
    rw [show n - 1 + 1 = n by omega] at this
    exact this
  rw [e]
  exact rg_in (nI_pos (by omega)) (nI_nlt (by omega) (by omega))
theorem isO_f {n : Nat} (hn : n ≤ 250) {j : Int32} (hj : ∀ k, k < n → ¬ j = nI k) : rg 0 (nI n - 1) j = false := by
  by_cases h0 : j < 0
  · exact rg_lo h0
  · refine rg_hi (Int32.not_le.mp (fun z => ?_))
    by_cases hz : n = 0
    · subst hz
      have h1 := Int32.le_iff_toInt_le.mp z
      have h2 := Int32.le_iff_toInt_le.mp (Int32.not_lt.mp h0)
      rw [show (nI 0 - 1).toInt = -1 by decide] at h1
      rw [i0] at h2
      omega
    · have e : nI n - 1 = nI (n - 1) := by
        have := nI_pred (n - 1)
        rw [show n - 1 + 1 = n by omega] at this
        exact this
      rw [e] at z
      have h1 := Int32.le_iff_toInt_le.mp z
      rw [nI_toInt (by omega)] at h1
      obtain ⟨k, hk, ek⟩ := nI_is (n := n) hn h0 (Int32.lt_iff_toInt_lt.mpr (by rw [nI_toInt (by omega)]; omega))
      exact hj k hk ek
theorem rs_t {σ : St} {o : Nat} (hI : Inv0 σ) (ho : o < sn σ) (h : ¬ sI σ 5 o = -1) : rs (sI σ) o = true := by
  refine decide_eq_true (Int32.le_iff_toInt_le.mpr ?_)
  have h1 := (hI.2.2.1 o ho).2.2.1
  have h2 : (sI σ 5 o).toInt ≠ -1 := fun z => h (Int32.toInt_inj.mp (z.trans (show (-1 : Int32).toInt = -1 by decide).symm))
  rw [i0]
  omega
set_option maxHeartbeats 4000000 in
set_option maxRecDepth 100000 in
theorem c_M_comes (l : Launch) (γ : mG) (M : mMap) (μ : RK) (σ : St) (ε : RE) (hR : RM γ M μ σ ε) (L : Nat → List Nat) (hI : Inv0 σ) (hL : LN σ L) (hB : BD σ) (o : Nat) (ho : o < sn σ) (h5 : sI σ 5 o = -1) (hl0 : 0 ≤ (sI σ 3 o).toInt) (hl9 : (sI σ 3 o).toInt ≤ 100000) (hrk : (srk σ).toInt ≤ 500000000) (σ' : St) (hfin : xCome (cov σ o) σ o = σ') (hT : stn σ' ≤ 30000) : Met l y_M_comes w_M_comes ({ frames := 4, cells := 0, slots := 0, locals := 91 } : Room) (mPc γ M [.ref (rx μ), .int (nI o)]) (mQi γ (fun r M' => r = b2i (decide (¬ sI σ' 5 o = -1)) ∧ RQ γ M M' μ σ' ε)) 0 0 (mA (gz γ)) := by
  refine m_enter (by decide) (Nat.le_of_ble_eq_true rfl) ?_
  intro p e s m below meth c ls S hr hlk hnm hl hw
  have hl : lv_has ls 2 [(0, .ref (rx μ)), (1, .int (nI o))] := hl
  have hR := hR.q
  have hn := hI.1
  refine lv_aload_n S.1 S.2.1 d_M_comes_0 rfl (lv_at hl 0 rfl) ?_
  refine m_get S hw cl_M hR.obj 1 (by decide) g689 (fun _ h => h) rfl d_M_comes_1 ?_
  refine lv_iconst (v := 1) S.1 S.2.1 d_M_comes_4 (by decide) ?_
  by_cases h5b : sph σ = 1
  · refine lv_icmp_ne (tgt := 73) S.1 S.2.1 d_M_comes_5 rfl (fun h => absurd h5b h) (fun _ => ?_)
    have h5p : sph σ = 1 := h5b
    refine lv_aload_n S.1 S.2.1 d_M_comes_8 rfl (lv_at hl 0 rfl) ?_
    refine m_get S hw cl_M hR.obj 12 (by decide) g700 (fun _ h => h) rfl d_M_comes_9 ?_
    refine lv_iload_n S.1 S.2.1 d_M_comes_12 rfl (lv_at hl 1 rfl) ?_
    refine m_rld (o := o) S hw hR 6 (by decide) (by omega) d_M_comes_13 ?_
    refine lv_iconst (v := 2) S.1 S.2.1 d_M_comes_14 (by decide) ?_
    refine lv_icmp_ne (tgt := 26) S.1 S.2.1 d_M_comes_15 rfl (fun h15 => ?_) (fun h15 => ?_)
    · have hg : ¬ (sI σ 6 o = 2 ∧ cov σ o = false) := fun z => h15 z.1
      have hXc : xTail (xMeet 100000 σ o) o = σ' := by rw [← hfin]; unfold xCome; rw [if_pos h5p, if_neg hg]
      have hTm : stn (xMeet 100000 σ o) ≤ 30000 := by rw [← hXc, tail_tn] at hT; exact hT
      obtain ⟨⟨L2, hI2, hL2⟩, hs2, -, hl2, -⟩ := meet_all (k := 100000) hI hL ho h5 hl0 (by omega)
      have hn2 := hI2.1
      have ho2 : o < sn (xMeet 100000 σ o) := by rw [hs2]; exact ho
      refine lv_aload_n S.1 S.2.1 d_M_comes_26 rfl (lv_at hl 0 rfl) ?_
      refine lv_iload_n S.1 S.2.1 d_M_comes_27 rfl (lv_at hl 1 rfl) ?_
      refine m_cv hw (va_runV (As := [.int (nI o)]) (rest := []) S (c_M_meet l γ M μ σ ε hR.1 L hI hL hB o ho h5 hl0 hl9 hrk (xMeet 100000 σ o) rfl hTm) (m_cwV 1 S g816 g818 g31 g48 g819 rfl rfl ⟨by decide +kernel, by decide +kernel, by decide +kernel⟩ ⟨(Nat.le_of_ble_eq_true rfl), (Nat.le_of_ble_eq_true rfl)⟩) (hw.preV hR.obj cl_M.1) rfl rfl hl.1 rfl (lv_room (Nat.le_of_ble_eq_true rfl)) d_M_comes_28 ⟨(Nat.zero_le _), (Nat.zero_le _)⟩) (fun M1 H locs hp hw => ?_)
      have hR := hp.tr hR
      refine lv_aload_n S.1 S.2.1 d_M_comes_31 rfl (lv_at hl 0 rfl) ?_
      refine m_get S hw cl_M hR.obj 9 (by decide) g697 (fun _ h => h) rfl d_M_comes_32 ?_
      refine lv_iload_n S.1 S.2.1 d_M_comes_35 rfl (lv_at hl 1 rfl) ?_
      refine m_rld (o := o) S hw hR 3 (by decide) (by omega) d_M_comes_36 ?_
      refine lv_if_eq (tgt := 66) S.1 S.2.1 d_M_comes_37 rfl (fun h37 => ?_) (fun h37 => ?_)
      · refine lv_aload_n S.1 S.2.1 d_M_comes_66 rfl (lv_at hl 0 rfl) ?_
        refine lv_iload_n S.1 S.2.1 d_M_comes_67 rfl (lv_at hl 1 rfl) ?_
        refine m_cv hw (va_runV (As := [.int (nI o)]) (rest := []) S (c_M_end l γ M1 μ (xMeet 100000 σ o) ε hR.1 hn2 o ho2) (m_cwV 1 S g828 g830 g34 g48 g831 rfl rfl ⟨by decide +kernel, by decide +kernel, by decide +kernel⟩ ⟨(Nat.le_of_ble_eq_true rfl), (Nat.le_of_ble_eq_true rfl)⟩) (hw.preV hR.obj cl_M.1) rfl rfl hl.1 rfl (lv_room (Nat.le_of_ble_eq_true rfl)) d_M_comes_68 ⟨(Nat.zero_le _), (Nat.zero_le _)⟩) (fun M2 H locs hp hw => ?_)
        have hR := hp.tr hR
        refine lv_iconst (v := 0) S.1 S.2.1 d_M_comes_71 (by decide) ?_
        have hE := (tail_e1 h37).symm.trans hXc
        exact m_iret S hlk hr rfl hw (⟨by rw [← hE]; exact (end_0).symm, by rw [← hE]; exact hR⟩) (Nat.le_refl _) (Nat.le_refl _) d_M_comes_72
      · refine lv_aload_n S.1 S.2.1 d_M_comes_40 rfl (lv_at hl 0 rfl) ?_
        refine m_get S hw cl_M hR.obj 12 (by decide) g700 (fun _ h => h) rfl d_M_comes_41 ?_
        refine lv_iload_n S.1 S.2.1 d_M_comes_44 rfl (lv_at hl 1 rfl) ?_
        refine m_rld (o := o) S hw hR 6 (by decide) (by omega) d_M_comes_45 ?_
        refine lv_if_ne (tgt := 66) S.1 S.2.1 d_M_comes_46 rfl (fun h46 => ?_) (fun h46 => ?_)
        · refine lv_aload_n S.1 S.2.1 d_M_comes_66 rfl (lv_at hl 0 rfl) ?_
          refine lv_iload_n S.1 S.2.1 d_M_comes_67 rfl (lv_at hl 1 rfl) ?_
          refine m_cv hw (va_runV (As := [.int (nI o)]) (rest := []) S (c_M_end l γ M1 μ (xMeet 100000 σ o) ε hR.1 hn2 o ho2) (m_cwV 1 S g828 g830 g34 g48 g831 rfl rfl ⟨by decide +kernel, by decide +kernel, by decide +kernel⟩ ⟨(Nat.le_of_ble_eq_true rfl), (Nat.le_of_ble_eq_true rfl)⟩) (hw.preV hR.obj cl_M.1) rfl rfl hl.1 rfl (lv_room (Nat.le_of_ble_eq_true rfl)) d_M_comes_68 ⟨(Nat.zero_le _), (Nat.zero_le _)⟩) (fun M3 H locs hp hw => ?_)
          have hR := hp.tr hR
          refine lv_iconst (v := 0) S.1 S.2.1 d_M_comes_71 (by decide) ?_
          have hE := (tail_e2 h46).symm.trans hXc
          exact m_iret S hlk hr rfl hw (⟨by rw [← hE]; exact (end_0).symm, by rw [← hE]; exact hR⟩) (Nat.le_refl _) (Nat.le_refl _) d_M_comes_72
        · refine lv_aload_n S.1 S.2.1 d_M_comes_49 rfl (lv_at hl 0 rfl) ?_
          refine m_get S hw cl_M hR.obj 8 (by decide) g696 (fun _ h => h) rfl d_M_comes_50 ?_
          refine lv_iload_n S.1 S.2.1 d_M_comes_53 rfl (lv_at hl 1 rfl) ?_
          refine m_rld (o := o) S hw hR 2 (by decide) (by omega) d_M_comes_54 ?_
          refine lv_if_ne (tgt := 73) S.1 S.2.1 d_M_comes_55 rfl (fun h55 => ?_) (fun h55 => ?_)
          · refine lv_aload_n S.1 S.2.1 d_M_comes_73 rfl (lv_at hl 0 rfl) ?_
            refine lv_iload_n S.1 S.2.1 d_M_comes_74 rfl (lv_at hl 1 rfl) ?_
            refine m_cv hw (va_runV (As := [.int (nI o)]) (rest := []) S (c_M_comeToRest l γ M1 μ (xMeet 100000 σ o) ε hR.1 hn2 o ho2) (m_cwV 1 S g832 g834 g35 g48 g835 rfl rfl ⟨by decide +kernel, by decide +kernel, by decide +kernel⟩ ⟨(Nat.le_of_ble_eq_true rfl), (Nat.le_of_ble_eq_true rfl)⟩) (hw.preV hR.obj cl_M.1) rfl rfl hl.1 rfl (lv_room (Nat.le_of_ble_eq_true rfl)) d_M_comes_75 ⟨(Nat.zero_le _), (Nat.zero_le _)⟩) (fun M4 H locs hp hw => ?_)
            have hR := hp.tr hR
            refine lv_iconst (v := 1) S.1 S.2.1 d_M_comes_78 (by decide) ?_
            have hE := (tail_r hl2 h37 h46 (fun z => absurd z h55)).symm.trans hXc
            exact m_iret S hlk hr rfl hw (⟨by rw [← hE]; exact (rest_is1 hI2.2.2.2.1).symm, by rw [← hE]; exact hR⟩) (Nat.le_refl _) (Nat.le_refl _) d_M_comes_79
          · refine lv_aload_n S.1 S.2.1 d_M_comes_58 rfl (lv_at hl 0 rfl) ?_
            refine m_get S hw cl_M hR.obj 1 (by decide) g689 (fun _ h => h) rfl d_M_comes_59 ?_
            refine lv_iconst (v := 2) S.1 S.2.1 d_M_comes_62 (by decide) ?_
            refine lv_icmp_eq (tgt := 73) S.1 S.2.1 d_M_comes_63 rfl (fun h63 => ?_) (fun h63 => ?_)
            · refine lv_aload_n S.1 S.2.1 d_M_comes_73 rfl (lv_at hl 0 rfl) ?_
              refine lv_iload_n S.1 S.2.1 d_M_comes_74 rfl (lv_at hl 1 rfl) ?_
              refine m_cv hw (va_runV (As := [.int (nI o)]) (rest := []) S (c_M_comeToRest l γ M1 μ (xMeet 100000 σ o) ε hR.1 hn2 o ho2) (m_cwV 1 S g832 g834 g35 g48 g835 rfl rfl ⟨by decide +kernel, by decide +kernel, by decide +kernel⟩ ⟨(Nat.le_of_ble_eq_true rfl), (Nat.le_of_ble_eq_true rfl)⟩) (hw.preV hR.obj cl_M.1) rfl rfl hl.1 rfl (lv_room (Nat.le_of_ble_eq_true rfl)) d_M_comes_75 ⟨(Nat.zero_le _), (Nat.zero_le _)⟩) (fun M5 H locs hp hw => ?_)
              have hR := hp.tr hR
              refine lv_iconst (v := 1) S.1 S.2.1 d_M_comes_78 (by decide) ?_
              have hE := (tail_r hl2 h37 h46 (fun _ => h63)).symm.trans hXc
              exact m_iret S hlk hr rfl hw (⟨by rw [← hE]; exact (rest_is1 hI2.2.2.2.1).symm, by rw [← hE]; exact hR⟩) (Nat.le_refl _) (Nat.le_refl _) d_M_comes_79
            · refine lv_aload_n S.1 S.2.1 d_M_comes_66 rfl (lv_at hl 0 rfl) ?_
              refine lv_iload_n S.1 S.2.1 d_M_comes_67 rfl (lv_at hl 1 rfl) ?_
              refine m_cv hw (va_runV (As := [.int (nI o)]) (rest := []) S (c_M_end l γ M1 μ (xMeet 100000 σ o) ε hR.1 hn2 o ho2) (m_cwV 1 S g828 g830 g34 g48 g831 rfl rfl ⟨by decide +kernel, by decide +kernel, by decide +kernel⟩ ⟨(Nat.le_of_ble_eq_true rfl), (Nat.le_of_ble_eq_true rfl)⟩) (hw.preV hR.obj cl_M.1) rfl rfl hl.1 rfl (lv_room (Nat.le_of_ble_eq_true rfl)) d_M_comes_68 ⟨(Nat.zero_le _), (Nat.zero_le _)⟩) (fun M6 H locs hp hw => ?_)
              have hR := hp.tr hR
              refine lv_iconst (v := 0) S.1 S.2.1 d_M_comes_71 (by decide) ?_
              have hE := (tail_e3 h55 h63).symm.trans hXc
              exact m_iret S hlk hr rfl hw (⟨by rw [← hE]; exact (end_0).symm, by rw [← hE]; exact hR⟩) (Nat.le_refl _) (Nat.le_refl _) d_M_comes_72
    · refine lv_aload_n S.1 S.2.1 d_M_comes_18 rfl (lv_at hl 0 rfl) ?_
      refine lv_iload_n S.1 S.2.1 d_M_comes_19 rfl (lv_at hl 1 rfl) ?_
      refine m_ci hw (va_runV (As := [.int (nI o)]) (rest := []) S (c_M_isCovered l γ M μ σ ε hR.1 hI.1 hI.2.1 hB o ho) (m_cwV 1 S g789 g791 g25 g48 g792 rfl rfl ⟨by decide +kernel, by decide +kernel, by decide +kernel⟩ ⟨(Nat.le_of_ble_eq_true rfl), (Nat.le_of_ble_eq_true rfl)⟩) (hw.preV hR.obj cl_M.1) rfl rfl hl.1 rfl (lv_room (Nat.le_of_ble_eq_true rfl)) d_M_comes_20 ⟨(Nat.zero_le _), (Nat.zero_le _)⟩) (fun r1 M1 H locs hp hw => ?_)
      obtain ⟨rfl, hM1⟩ := hp
      rw [hM1] at hw
      refine lv_if_eq (tgt := 31) S.1 S.2.1 d_M_comes_23 rfl (fun h23 => ?_) (fun h23 => ?_)
      · have hXc : xTail σ o = σ' := by rw [← hfin]; unfold xCome; rw [if_pos h5p, if_pos ⟨h15, b2i_0.mp h23⟩]
        have hI2 := hI
        have hl2 := hl0
        have hn2 := hI.1
        have ho2 := ho
        refine lv_aload_n S.1 S.2.1 d_M_comes_31 rfl (lv_at hl 0 rfl) ?_
        refine m_get S hw cl_M hR.obj 9 (by decide) g697 (fun _ h => h) rfl d_M_comes_32 ?_
        refine lv_iload_n S.1 S.2.1 d_M_comes_35 rfl (lv_at hl 1 rfl) ?_
        refine m_rld (o := o) S hw hR 3 (by decide) (by omega) d_M_comes_36 ?_
        refine lv_if_eq (tgt := 66) S.1 S.2.1 d_M_comes_37 rfl (fun h37 => ?_) (fun h37 => ?_)
        · refine lv_aload_n S.1 S.2.1 d_M_comes_66 rfl (lv_at hl 0 rfl) ?_
          refine lv_iload_n S.1 S.2.1 d_M_comes_67 rfl (lv_at hl 1 rfl) ?_
          refine m_cv hw (va_runV (As := [.int (nI o)]) (rest := []) S (c_M_end l γ M μ σ ε hR.1 hn2 o ho2) (m_cwV 1 S g828 g830 g34 g48 g831 rfl rfl ⟨by decide +kernel, by decide +kernel, by decide +kernel⟩ ⟨(Nat.le_of_ble_eq_true rfl), (Nat.le_of_ble_eq_true rfl)⟩) (hw.preV hR.obj cl_M.1) rfl rfl hl.1 rfl (lv_room (Nat.le_of_ble_eq_true rfl)) d_M_comes_68 ⟨(Nat.zero_le _), (Nat.zero_le _)⟩) (fun M7 H locs hp hw => ?_)
          have hR := hp.tr hR
          refine lv_iconst (v := 0) S.1 S.2.1 d_M_comes_71 (by decide) ?_
          have hE := (tail_e1 h37).symm.trans hXc
          exact m_iret S hlk hr rfl hw (⟨by rw [← hE]; exact (end_0).symm, by rw [← hE]; exact hR⟩) (Nat.le_refl _) (Nat.le_refl _) d_M_comes_72
        · refine lv_aload_n S.1 S.2.1 d_M_comes_40 rfl (lv_at hl 0 rfl) ?_
          refine m_get S hw cl_M hR.obj 12 (by decide) g700 (fun _ h => h) rfl d_M_comes_41 ?_
          refine lv_iload_n S.1 S.2.1 d_M_comes_44 rfl (lv_at hl 1 rfl) ?_
          refine m_rld (o := o) S hw hR 6 (by decide) (by omega) d_M_comes_45 ?_
          refine lv_if_ne (tgt := 66) S.1 S.2.1 d_M_comes_46 rfl (fun h46 => ?_) (fun h46 => ?_)
          · refine lv_aload_n S.1 S.2.1 d_M_comes_66 rfl (lv_at hl 0 rfl) ?_
            refine lv_iload_n S.1 S.2.1 d_M_comes_67 rfl (lv_at hl 1 rfl) ?_
            refine m_cv hw (va_runV (As := [.int (nI o)]) (rest := []) S (c_M_end l γ M μ σ ε hR.1 hn2 o ho2) (m_cwV 1 S g828 g830 g34 g48 g831 rfl rfl ⟨by decide +kernel, by decide +kernel, by decide +kernel⟩ ⟨(Nat.le_of_ble_eq_true rfl), (Nat.le_of_ble_eq_true rfl)⟩) (hw.preV hR.obj cl_M.1) rfl rfl hl.1 rfl (lv_room (Nat.le_of_ble_eq_true rfl)) d_M_comes_68 ⟨(Nat.zero_le _), (Nat.zero_le _)⟩) (fun M8 H locs hp hw => ?_)
            have hR := hp.tr hR
            refine lv_iconst (v := 0) S.1 S.2.1 d_M_comes_71 (by decide) ?_
            have hE := (tail_e2 h46).symm.trans hXc
            exact m_iret S hlk hr rfl hw (⟨by rw [← hE]; exact (end_0).symm, by rw [← hE]; exact hR⟩) (Nat.le_refl _) (Nat.le_refl _) d_M_comes_72
          · refine lv_aload_n S.1 S.2.1 d_M_comes_49 rfl (lv_at hl 0 rfl) ?_
            refine m_get S hw cl_M hR.obj 8 (by decide) g696 (fun _ h => h) rfl d_M_comes_50 ?_
            refine lv_iload_n S.1 S.2.1 d_M_comes_53 rfl (lv_at hl 1 rfl) ?_
            refine m_rld (o := o) S hw hR 2 (by decide) (by omega) d_M_comes_54 ?_
            refine lv_if_ne (tgt := 73) S.1 S.2.1 d_M_comes_55 rfl (fun h55 => ?_) (fun h55 => ?_)
            · refine lv_aload_n S.1 S.2.1 d_M_comes_73 rfl (lv_at hl 0 rfl) ?_
              refine lv_iload_n S.1 S.2.1 d_M_comes_74 rfl (lv_at hl 1 rfl) ?_
              refine m_cv hw (va_runV (As := [.int (nI o)]) (rest := []) S (c_M_comeToRest l γ M μ σ ε hR.1 hn2 o ho2) (m_cwV 1 S g832 g834 g35 g48 g835 rfl rfl ⟨by decide +kernel, by decide +kernel, by decide +kernel⟩ ⟨(Nat.le_of_ble_eq_true rfl), (Nat.le_of_ble_eq_true rfl)⟩) (hw.preV hR.obj cl_M.1) rfl rfl hl.1 rfl (lv_room (Nat.le_of_ble_eq_true rfl)) d_M_comes_75 ⟨(Nat.zero_le _), (Nat.zero_le _)⟩) (fun M9 H locs hp hw => ?_)
              have hR := hp.tr hR
              refine lv_iconst (v := 1) S.1 S.2.1 d_M_comes_78 (by decide) ?_
              have hE := (tail_r hl2 h37 h46 (fun z => absurd z h55)).symm.trans hXc
              exact m_iret S hlk hr rfl hw (⟨by rw [← hE]; exact (rest_is1 hI2.2.2.2.1).symm, by rw [← hE]; exact hR⟩) (Nat.le_refl _) (Nat.le_refl _) d_M_comes_79
            · refine lv_aload_n S.1 S.2.1 d_M_comes_58 rfl (lv_at hl 0 rfl) ?_
              refine m_get S hw cl_M hR.obj 1 (by decide) g689 (fun _ h => h) rfl d_M_comes_59 ?_
              refine lv_iconst (v := 2) S.1 S.2.1 d_M_comes_62 (by decide) ?_
              refine lv_icmp_eq (tgt := 73) S.1 S.2.1 d_M_comes_63 rfl (fun h63 => ?_) (fun h63 => ?_)
              · refine lv_aload_n S.1 S.2.1 d_M_comes_73 rfl (lv_at hl 0 rfl) ?_
                refine lv_iload_n S.1 S.2.1 d_M_comes_74 rfl (lv_at hl 1 rfl) ?_
                refine m_cv hw (va_runV (As := [.int (nI o)]) (rest := []) S (c_M_comeToRest l γ M μ σ ε hR.1 hn2 o ho2) (m_cwV 1 S g832 g834 g35 g48 g835 rfl rfl ⟨by decide +kernel, by decide +kernel, by decide +kernel⟩ ⟨(Nat.le_of_ble_eq_true rfl), (Nat.le_of_ble_eq_true rfl)⟩) (hw.preV hR.obj cl_M.1) rfl rfl hl.1 rfl (lv_room (Nat.le_of_ble_eq_true rfl)) d_M_comes_75 ⟨(Nat.zero_le _), (Nat.zero_le _)⟩) (fun M10 H locs hp hw => ?_)
                have hR := hp.tr hR
                refine lv_iconst (v := 1) S.1 S.2.1 d_M_comes_78 (by decide) ?_
                have hE := (tail_r hl2 h37 h46 (fun _ => h63)).symm.trans hXc
                exact m_iret S hlk hr rfl hw (⟨by rw [← hE]; exact (rest_is1 hI2.2.2.2.1).symm, by rw [← hE]; exact hR⟩) (Nat.le_refl _) (Nat.le_refl _) d_M_comes_79
              · refine lv_aload_n S.1 S.2.1 d_M_comes_66 rfl (lv_at hl 0 rfl) ?_
                refine lv_iload_n S.1 S.2.1 d_M_comes_67 rfl (lv_at hl 1 rfl) ?_
                refine m_cv hw (va_runV (As := [.int (nI o)]) (rest := []) S (c_M_end l γ M μ σ ε hR.1 hn2 o ho2) (m_cwV 1 S g828 g830 g34 g48 g831 rfl rfl ⟨by decide +kernel, by decide +kernel, by decide +kernel⟩ ⟨(Nat.le_of_ble_eq_true rfl), (Nat.le_of_ble_eq_true rfl)⟩) (hw.preV hR.obj cl_M.1) rfl rfl hl.1 rfl (lv_room (Nat.le_of_ble_eq_true rfl)) d_M_comes_68 ⟨(Nat.zero_le _), (Nat.zero_le _)⟩) (fun M11 H locs hp hw => ?_)
                have hR := hp.tr hR
                refine lv_iconst (v := 0) S.1 S.2.1 d_M_comes_71 (by decide) ?_
                have hE := (tail_e3 h55 h63).symm.trans hXc
                exact m_iret S hlk hr rfl hw (⟨by rw [← hE]; exact (end_0).symm, by rw [← hE]; exact hR⟩) (Nat.le_refl _) (Nat.le_refl _) d_M_comes_72
      · have hg : ¬ (sI σ 6 o = 2 ∧ cov σ o = false) := fun z => by rw [b2i_n0.mp h23] at z; exact absurd z.2 (by decide)
        have hXc : xTail (xMeet 100000 σ o) o = σ' := by rw [← hfin]; unfold xCome; rw [if_pos h5p, if_neg hg]
        have hTm : stn (xMeet 100000 σ o) ≤ 30000 := by rw [← hXc, tail_tn] at hT; exact hT
        obtain ⟨⟨L2, hI2, hL2⟩, hs2, -, hl2, -⟩ := meet_all (k := 100000) hI hL ho h5 hl0 (by omega)
        have hn2 := hI2.1
        have ho2 : o < sn (xMeet 100000 σ o) := by rw [hs2]; exact ho
        refine lv_aload_n S.1 S.2.1 d_M_comes_26 rfl (lv_at hl 0 rfl) ?_
        refine lv_iload_n S.1 S.2.1 d_M_comes_27 rfl (lv_at hl 1 rfl) ?_
        refine m_cv hw (va_runV (As := [.int (nI o)]) (rest := []) S (c_M_meet l γ M μ σ ε hR.1 L hI hL hB o ho h5 hl0 hl9 hrk (xMeet 100000 σ o) rfl hTm) (m_cwV 1 S g816 g818 g31 g48 g819 rfl rfl ⟨by decide +kernel, by decide +kernel, by decide +kernel⟩ ⟨(Nat.le_of_ble_eq_true rfl), (Nat.le_of_ble_eq_true rfl)⟩) (hw.preV hR.obj cl_M.1) rfl rfl hl.1 rfl (lv_room (Nat.le_of_ble_eq_true rfl)) d_M_comes_28 ⟨(Nat.zero_le _), (Nat.zero_le _)⟩) (fun M12 H locs hp hw => ?_)
        have hR := hp.tr hR
        refine lv_aload_n S.1 S.2.1 d_M_comes_31 rfl (lv_at hl 0 rfl) ?_
        refine m_get S hw cl_M hR.obj 9 (by decide) g697 (fun _ h => h) rfl d_M_comes_32 ?_
        refine lv_iload_n S.1 S.2.1 d_M_comes_35 rfl (lv_at hl 1 rfl) ?_
        refine m_rld (o := o) S hw hR 3 (by decide) (by omega) d_M_comes_36 ?_
        refine lv_if_eq (tgt := 66) S.1 S.2.1 d_M_comes_37 rfl (fun h37 => ?_) (fun h37 => ?_)
        · refine lv_aload_n S.1 S.2.1 d_M_comes_66 rfl (lv_at hl 0 rfl) ?_
          refine lv_iload_n S.1 S.2.1 d_M_comes_67 rfl (lv_at hl 1 rfl) ?_
          refine m_cv hw (va_runV (As := [.int (nI o)]) (rest := []) S (c_M_end l γ M12 μ (xMeet 100000 σ o) ε hR.1 hn2 o ho2) (m_cwV 1 S g828 g830 g34 g48 g831 rfl rfl ⟨by decide +kernel, by decide +kernel, by decide +kernel⟩ ⟨(Nat.le_of_ble_eq_true rfl), (Nat.le_of_ble_eq_true rfl)⟩) (hw.preV hR.obj cl_M.1) rfl rfl hl.1 rfl (lv_room (Nat.le_of_ble_eq_true rfl)) d_M_comes_68 ⟨(Nat.zero_le _), (Nat.zero_le _)⟩) (fun M13 H locs hp hw => ?_)
          have hR := hp.tr hR
          refine lv_iconst (v := 0) S.1 S.2.1 d_M_comes_71 (by decide) ?_
          have hE := (tail_e1 h37).symm.trans hXc
          exact m_iret S hlk hr rfl hw (⟨by rw [← hE]; exact (end_0).symm, by rw [← hE]; exact hR⟩) (Nat.le_refl _) (Nat.le_refl _) d_M_comes_72
        · refine lv_aload_n S.1 S.2.1 d_M_comes_40 rfl (lv_at hl 0 rfl) ?_
          refine m_get S hw cl_M hR.obj 12 (by decide) g700 (fun _ h => h) rfl d_M_comes_41 ?_
          refine lv_iload_n S.1 S.2.1 d_M_comes_44 rfl (lv_at hl 1 rfl) ?_
          refine m_rld (o := o) S hw hR 6 (by decide) (by omega) d_M_comes_45 ?_
          refine lv_if_ne (tgt := 66) S.1 S.2.1 d_M_comes_46 rfl (fun h46 => ?_) (fun h46 => ?_)
          · refine lv_aload_n S.1 S.2.1 d_M_comes_66 rfl (lv_at hl 0 rfl) ?_
            refine lv_iload_n S.1 S.2.1 d_M_comes_67 rfl (lv_at hl 1 rfl) ?_
            refine m_cv hw (va_runV (As := [.int (nI o)]) (rest := []) S (c_M_end l γ M12 μ (xMeet 100000 σ o) ε hR.1 hn2 o ho2) (m_cwV 1 S g828 g830 g34 g48 g831 rfl rfl ⟨by decide +kernel, by decide +kernel, by decide +kernel⟩ ⟨(Nat.le_of_ble_eq_true rfl), (Nat.le_of_ble_eq_true rfl)⟩) (hw.preV hR.obj cl_M.1) rfl rfl hl.1 rfl (lv_room (Nat.le_of_ble_eq_true rfl)) d_M_comes_68 ⟨(Nat.zero_le _), (Nat.zero_le _)⟩) (fun M14 H locs hp hw => ?_)
            have hR := hp.tr hR
            refine lv_iconst (v := 0) S.1 S.2.1 d_M_comes_71 (by decide) ?_
            have hE := (tail_e2 h46).symm.trans hXc
            exact m_iret S hlk hr rfl hw (⟨by rw [← hE]; exact (end_0).symm, by rw [← hE]; exact hR⟩) (Nat.le_refl _) (Nat.le_refl _) d_M_comes_72
          · refine lv_aload_n S.1 S.2.1 d_M_comes_49 rfl (lv_at hl 0 rfl) ?_
            refine m_get S hw cl_M hR.obj 8 (by decide) g696 (fun _ h => h) rfl d_M_comes_50 ?_
            refine lv_iload_n S.1 S.2.1 d_M_comes_53 rfl (lv_at hl 1 rfl) ?_
            refine m_rld (o := o) S hw hR 2 (by decide) (by omega) d_M_comes_54 ?_
            refine lv_if_ne (tgt := 73) S.1 S.2.1 d_M_comes_55 rfl (fun h55 => ?_) (fun h55 => ?_)
            · refine lv_aload_n S.1 S.2.1 d_M_comes_73 rfl (lv_at hl 0 rfl) ?_
              refine lv_iload_n S.1 S.2.1 d_M_comes_74 rfl (lv_at hl 1 rfl) ?_
              refine m_cv hw (va_runV (As := [.int (nI o)]) (rest := []) S (c_M_comeToRest l γ M12 μ (xMeet 100000 σ o) ε hR.1 hn2 o ho2) (m_cwV 1 S g832 g834 g35 g48 g835 rfl rfl ⟨by decide +kernel, by decide +kernel, by decide +kernel⟩ ⟨(Nat.le_of_ble_eq_true rfl), (Nat.le_of_ble_eq_true rfl)⟩) (hw.preV hR.obj cl_M.1) rfl rfl hl.1 rfl (lv_room (Nat.le_of_ble_eq_true rfl)) d_M_comes_75 ⟨(Nat.zero_le _), (Nat.zero_le _)⟩) (fun M15 H locs hp hw => ?_)
              have hR := hp.tr hR
              refine lv_iconst (v := 1) S.1 S.2.1 d_M_comes_78 (by decide) ?_
              have hE := (tail_r hl2 h37 h46 (fun z => absurd z h55)).symm.trans hXc
              exact m_iret S hlk hr rfl hw (⟨by rw [← hE]; exact (rest_is1 hI2.2.2.2.1).symm, by rw [← hE]; exact hR⟩) (Nat.le_refl _) (Nat.le_refl _) d_M_comes_79
            · refine lv_aload_n S.1 S.2.1 d_M_comes_58 rfl (lv_at hl 0 rfl) ?_
              refine m_get S hw cl_M hR.obj 1 (by decide) g689 (fun _ h => h) rfl d_M_comes_59 ?_
              refine lv_iconst (v := 2) S.1 S.2.1 d_M_comes_62 (by decide) ?_
              refine lv_icmp_eq (tgt := 73) S.1 S.2.1 d_M_comes_63 rfl (fun h63 => ?_) (fun h63 => ?_)
              · refine lv_aload_n S.1 S.2.1 d_M_comes_73 rfl (lv_at hl 0 rfl) ?_
                refine lv_iload_n S.1 S.2.1 d_M_comes_74 rfl (lv_at hl 1 rfl) ?_
                refine m_cv hw (va_runV (As := [.int (nI o)]) (rest := []) S (c_M_comeToRest l γ M12 μ (xMeet 100000 σ o) ε hR.1 hn2 o ho2) (m_cwV 1 S g832 g834 g35 g48 g835 rfl rfl ⟨by decide +kernel, by decide +kernel, by decide +kernel⟩ ⟨(Nat.le_of_ble_eq_true rfl), (Nat.le_of_ble_eq_true rfl)⟩) (hw.preV hR.obj cl_M.1) rfl rfl hl.1 rfl (lv_room (Nat.le_of_ble_eq_true rfl)) d_M_comes_75 ⟨(Nat.zero_le _), (Nat.zero_le _)⟩) (fun M16 H locs hp hw => ?_)
                have hR := hp.tr hR
                refine lv_iconst (v := 1) S.1 S.2.1 d_M_comes_78 (by decide) ?_
                have hE := (tail_r hl2 h37 h46 (fun _ => h63)).symm.trans hXc
                exact m_iret S hlk hr rfl hw (⟨by rw [← hE]; exact (rest_is1 hI2.2.2.2.1).symm, by rw [← hE]; exact hR⟩) (Nat.le_refl _) (Nat.le_refl _) d_M_comes_79
              · refine lv_aload_n S.1 S.2.1 d_M_comes_66 rfl (lv_at hl 0 rfl) ?_
                refine lv_iload_n S.1 S.2.1 d_M_comes_67 rfl (lv_at hl 1 rfl) ?_
                refine m_cv hw (va_runV (As := [.int (nI o)]) (rest := []) S (c_M_end l γ M12 μ (xMeet 100000 σ o) ε hR.1 hn2 o ho2) (m_cwV 1 S g828 g830 g34 g48 g831 rfl rfl ⟨by decide +kernel, by decide +kernel, by decide +kernel⟩ ⟨(Nat.le_of_ble_eq_true rfl), (Nat.le_of_ble_eq_true rfl)⟩) (hw.preV hR.obj cl_M.1) rfl rfl hl.1 rfl (lv_room (Nat.le_of_ble_eq_true rfl)) d_M_comes_68 ⟨(Nat.zero_le _), (Nat.zero_le _)⟩) (fun M17 H locs hp hw => ?_)
                have hR := hp.tr hR
                refine lv_iconst (v := 0) S.1 S.2.1 d_M_comes_71 (by decide) ?_
                have hE := (tail_e3 h55 h63).symm.trans hXc
                exact m_iret S hlk hr rfl hw (⟨by rw [← hE]; exact (end_0).symm, by rw [← hE]; exact hR⟩) (Nat.le_refl _) (Nat.le_refl _) d_M_comes_72
  · refine lv_icmp_ne (tgt := 73) S.1 S.2.1 d_M_comes_5 rfl (fun _ => ?_) (fun h => absurd h h5b)
    refine lv_aload_n S.1 S.2.1 d_M_comes_73 rfl (lv_at hl 0 rfl) ?_
    refine lv_iload_n S.1 S.2.1 d_M_comes_74 rfl (lv_at hl 1 rfl) ?_
    refine m_cv hw (va_runV (As := [.int (nI o)]) (rest := []) S (c_M_comeToRest l γ M μ σ ε hR.1 hn o ho) (m_cwV 1 S g832 g834 g35 g48 g835 rfl rfl ⟨by decide +kernel, by decide +kernel, by decide +kernel⟩ ⟨(Nat.le_of_ble_eq_true rfl), (Nat.le_of_ble_eq_true rfl)⟩) (hw.preV hR.obj cl_M.1) rfl rfl hl.1 rfl (lv_room (Nat.le_of_ble_eq_true rfl)) d_M_comes_75 ⟨(Nat.zero_le _), (Nat.zero_le _)⟩) (fun M18 H locs hp hw => ?_)
    have hR := hp.tr hR
    refine lv_iconst (v := 1) S.1 S.2.1 d_M_comes_78 (by decide) ?_
    have hE : xRest σ o = σ' := by rw [← hfin]; unfold xCome; rw [if_neg h5b]
    exact m_iret S hlk hr rfl hw (⟨by rw [← hE]; exact (rest_is1 hI.2.2.2.1).symm, by rw [← hE]; exact hR⟩) (Nat.le_refl _) (Nat.le_refl _) d_M_comes_79
set_option maxHeartbeats 4000000 in
set_option maxRecDepth 100000 in
theorem c_M_placeA (l : Launch) (γ : mG) (M : mMap) (μ : RK) (σ : St) (ε : RE) (hR : RM γ M μ σ ε) (w0 b0 p0 q0 k0 f0 : Int32) (hv : (rg 0 9 w0 && rg 0 2000 p0 && rg 1 100000 q0 && rg 0 100000 k0 && fpk q0 k0 && rg 0 2 f0 && (decide (k0 = 0) || decide (f0 = 0))) = false) : Met l y_M_place w_M_place ({ frames := 1, cells := 0, slots := 0, locals := 22 } : Room) (mPc γ M [.ref (rx μ), .int w0, .int b0, .int p0, .int q0, .int k0, .int f0]) (mQi γ (fun _ M' => RQ γ M M' μ σ (1, ε.2))) 0 0 (mA (gz γ)) := by
  refine m_enter (by decide) (Nat.le_of_ble_eq_true rfl) ?_
  intro p e s m below meth c ls S hr hlk hnm hl hw
  have hl : lv_has ls 10 [(0, .ref (rx μ)), (1, .int w0), (2, .int b0), (3, .int p0), (4, .int q0), (5, .int k0), (6, .int f0)] := hl
  have hR := hR.q
  refine lv_iload_n S.1 S.2.1 d_M_place_0 rfl (lv_at hl 1 rfl) ?_
  refine lv_iconst (v := 0) S.1 S.2.1 d_M_place_1 (by decide) ?_
  refine lv_bipush (v := 9) S.1 S.2.1 d_M_place_2 (by decide) ?_
  refine m_ci hw (va_runS (As := [.int w0, .int 0, .int 9]) (rest := []) S (c_M_in l γ M w0 0 9) (m_cwS 3 S g778 g779 g48 g780 rfl rfl ⟨by decide +kernel, by decide +kernel, by decide +kernel⟩ ⟨(Nat.le_of_ble_eq_true rfl), (Nat.le_of_ble_eq_true rfl)⟩) hw.preS rfl rfl hl.1 rfl (lv_room (Nat.le_of_ble_eq_true rfl)) d_M_place_4 ⟨(Nat.zero_le _), (Nat.zero_le _)⟩) (fun r1 M1 H locs hp hw => ?_)
  obtain ⟨rfl, hM1⟩ := hp
  rw [hM1] at hw
  refine lv_if_eq (tgt := 57) S.1 S.2.1 d_M_place_7 rfl (fun h7 => ?_) (fun h7 => ?_)
  · refine lv_iconst (v := 0) S.1 S.2.1 d_M_place_57 (by decide) ?_
    refine lv_istore S.1 S.2.1 d_M_place_58 hl (by decide) rfl (fun ls hl => ?_)
    have hl : lv_has ls 10 [(7, .int 0), (0, .ref (rx μ)), (1, .int w0), (2, .int b0), (3, .int p0), (4, .int q0), (5, .int k0), (6, .int f0)] := hl
    refine lv_aload_n S.1 S.2.1 d_M_place_60 rfl (lv_at hl 1 rfl) ?_
    refine lv_iload S.1 S.2.1 d_M_place_61 (lv_at hl 0 rfl) ?_
    refine lv_if_eq (tgt := 86) S.1 S.2.1 d_M_place_63 rfl (fun _ => ?_) (fun h => absurd (show (0 : Int32) = 0 by decide) h)
    refine lv_iconst (v := 1) S.1 S.2.1 d_M_place_86 (by decide) ?_
    refine lv_goto (tgt := 91) S.1 S.2.1 d_M_place_87 rfl ?_
    refine m_rput (σ' := σ) (ε' := (1, ε.2.1, ε.2.2.1, ε.2.2.2.1, ε.2.2.2.2.1, ε.2.2.2.2.2)) S hw hR 0 (by decide) g688 rfl rfl rfl d_M_place_91 rfl (fun i hi => rfl) (fun H locs M1 hR hw => ?_)
    refine lv_aload_n S.1 S.2.1 d_M_place_94 rfl (lv_at hl 1 rfl) ?_
    refine m_get S hw cl_M hR.obj 0 (by decide) g688 (fun _ h => h) rfl d_M_place_95 ?_
    refine lv_if_ne (tgt := 141) S.1 S.2.1 d_M_place_98 rfl (fun _ => ?_) (fun h => absurd h (show ¬ (1 : Int32) = 0 by decide))
    refine lv_aload_n S.1 S.2.1 d_M_place_141 rfl (lv_at hl 1 rfl) ?_
    refine m_get S hw cl_M hR.obj 0 (by decide) g688 (fun _ h => h) rfl d_M_place_142 ?_
    refine lv_if_le (tgt := 150) S.1 S.2.1 d_M_place_145 rfl (fun h => absurd h (show ¬ (1 : Int32) ≤ 0 by decide)) (fun _ => ?_)
    refine lv_iconst (v := 0) S.1 S.2.1 d_M_place_148 (by decide) ?_
    exact m_iret S hlk hr rfl hw hR (Nat.le_refl _) (Nat.le_refl _) d_M_place_149
  · refine lv_iload_n S.1 S.2.1 d_M_place_10 rfl (lv_at hl 3 rfl) ?_
    refine lv_iconst (v := 0) S.1 S.2.1 d_M_place_11 (by decide) ?_
    refine lv_sipush (v := 2000) S.1 S.2.1 d_M_place_12 (by decide) ?_
    refine m_ci hw (va_runS (As := [.int p0, .int 0, .int 2000]) (rest := []) S (c_M_in l γ M p0 0 2000) (m_cwS 3 S g778 g779 g48 g780 rfl rfl ⟨by decide +kernel, by decide +kernel, by decide +kernel⟩ ⟨(Nat.le_of_ble_eq_true rfl), (Nat.le_of_ble_eq_true rfl)⟩) hw.preS rfl rfl hl.1 rfl (lv_room (Nat.le_of_ble_eq_true rfl)) d_M_place_15 ⟨(Nat.zero_le _), (Nat.zero_le _)⟩) (fun r1 M1 H locs hp hw => ?_)
    obtain ⟨rfl, hM1⟩ := hp
    rw [hM1] at hw
    refine lv_if_eq (tgt := 57) S.1 S.2.1 d_M_place_18 rfl (fun h18 => ?_) (fun h18 => ?_)
    · refine lv_iconst (v := 0) S.1 S.2.1 d_M_place_57 (by decide) ?_
      refine lv_istore S.1 S.2.1 d_M_place_58 hl (by decide) rfl (fun ls hl => ?_)
      have hl : lv_has ls 10 [(7, .int 0), (0, .ref (rx μ)), (1, .int w0), (2, .int b0), (3, .int p0), (4, .int q0), (5, .int k0), (6, .int f0)] := hl
      refine lv_aload_n S.1 S.2.1 d_M_place_60 rfl (lv_at hl 1 rfl) ?_
      refine lv_iload S.1 S.2.1 d_M_place_61 (lv_at hl 0 rfl) ?_
      refine lv_if_eq (tgt := 86) S.1 S.2.1 d_M_place_63 rfl (fun _ => ?_) (fun h => absurd (show (0 : Int32) = 0 by decide) h)
      refine lv_iconst (v := 1) S.1 S.2.1 d_M_place_86 (by decide) ?_
      refine lv_goto (tgt := 91) S.1 S.2.1 d_M_place_87 rfl ?_
      refine m_rput (σ' := σ) (ε' := (1, ε.2.1, ε.2.2.1, ε.2.2.2.1, ε.2.2.2.2.1, ε.2.2.2.2.2)) S hw hR 0 (by decide) g688 rfl rfl rfl d_M_place_91 rfl (fun i hi => rfl) (fun H locs M2 hR hw => ?_)
      refine lv_aload_n S.1 S.2.1 d_M_place_94 rfl (lv_at hl 1 rfl) ?_
      refine m_get S hw cl_M hR.obj 0 (by decide) g688 (fun _ h => h) rfl d_M_place_95 ?_
      refine lv_if_ne (tgt := 141) S.1 S.2.1 d_M_place_98 rfl (fun _ => ?_) (fun h => absurd h (show ¬ (1 : Int32) = 0 by decide))
      refine lv_aload_n S.1 S.2.1 d_M_place_141 rfl (lv_at hl 1 rfl) ?_
      refine m_get S hw cl_M hR.obj 0 (by decide) g688 (fun _ h => h) rfl d_M_place_142 ?_
      refine lv_if_le (tgt := 150) S.1 S.2.1 d_M_place_145 rfl (fun h => absurd h (show ¬ (1 : Int32) ≤ 0 by decide)) (fun _ => ?_)
      refine lv_iconst (v := 0) S.1 S.2.1 d_M_place_148 (by decide) ?_
      exact m_iret S hlk hr rfl hw hR (Nat.le_refl _) (Nat.le_refl _) d_M_place_149
    · refine lv_iload S.1 S.2.1 d_M_place_21 (lv_at hl 4 rfl) ?_
      refine lv_iconst (v := 1) S.1 S.2.1 d_M_place_23 (by decide) ?_
      refine lv_ldc S.1 S.2.1 S.2.2.2.1 (S.2.2.2.2 _ (gc g781)) d_M_place_24 ?_
      refine m_ci hw (va_runS (As := [.int q0, .int 1, .int 100000]) (rest := []) S (c_M_in l γ M q0 1 100000) (m_cwS 3 S g778 g779 g48 g780 rfl rfl ⟨by decide +kernel, by decide +kernel, by decide +kernel⟩ ⟨(Nat.le_of_ble_eq_true rfl), (Nat.le_of_ble_eq_true rfl)⟩) hw.preS rfl rfl hl.1 rfl (lv_room (Nat.le_of_ble_eq_true rfl)) d_M_place_26 ⟨(Nat.zero_le _), (Nat.zero_le _)⟩) (fun r1 M1 H locs hp hw => ?_)
      obtain ⟨rfl, hM1⟩ := hp
      rw [hM1] at hw
      refine lv_if_eq (tgt := 57) S.1 S.2.1 d_M_place_29 rfl (fun h29 => ?_) (fun h29 => ?_)
      · refine lv_iconst (v := 0) S.1 S.2.1 d_M_place_57 (by decide) ?_
        refine lv_istore S.1 S.2.1 d_M_place_58 hl (by decide) rfl (fun ls hl => ?_)
        have hl : lv_has ls 10 [(7, .int 0), (0, .ref (rx μ)), (1, .int w0), (2, .int b0), (3, .int p0), (4, .int q0), (5, .int k0), (6, .int f0)] := hl
        refine lv_aload_n S.1 S.2.1 d_M_place_60 rfl (lv_at hl 1 rfl) ?_
        refine lv_iload S.1 S.2.1 d_M_place_61 (lv_at hl 0 rfl) ?_
        refine lv_if_eq (tgt := 86) S.1 S.2.1 d_M_place_63 rfl (fun _ => ?_) (fun h => absurd (show (0 : Int32) = 0 by decide) h)
        refine lv_iconst (v := 1) S.1 S.2.1 d_M_place_86 (by decide) ?_
        refine lv_goto (tgt := 91) S.1 S.2.1 d_M_place_87 rfl ?_
        refine m_rput (σ' := σ) (ε' := (1, ε.2.1, ε.2.2.1, ε.2.2.2.1, ε.2.2.2.2.1, ε.2.2.2.2.2)) S hw hR 0 (by decide) g688 rfl rfl rfl d_M_place_91 rfl (fun i hi => rfl) (fun H locs M3 hR hw => ?_)
        refine lv_aload_n S.1 S.2.1 d_M_place_94 rfl (lv_at hl 1 rfl) ?_
        refine m_get S hw cl_M hR.obj 0 (by decide) g688 (fun _ h => h) rfl d_M_place_95 ?_
        refine lv_if_ne (tgt := 141) S.1 S.2.1 d_M_place_98 rfl (fun _ => ?_) (fun h => absurd h (show ¬ (1 : Int32) = 0 by decide))
        refine lv_aload_n S.1 S.2.1 d_M_place_141 rfl (lv_at hl 1 rfl) ?_
        refine m_get S hw cl_M hR.obj 0 (by decide) g688 (fun _ h => h) rfl d_M_place_142 ?_
        refine lv_if_le (tgt := 150) S.1 S.2.1 d_M_place_145 rfl (fun h => absurd h (show ¬ (1 : Int32) ≤ 0 by decide)) (fun _ => ?_)
        refine lv_iconst (v := 0) S.1 S.2.1 d_M_place_148 (by decide) ?_
        exact m_iret S hlk hr rfl hw hR (Nat.le_refl _) (Nat.le_refl _) d_M_place_149
      · refine lv_iload S.1 S.2.1 d_M_place_32 (lv_at hl 5 rfl) ?_
        refine lv_iconst (v := 0) S.1 S.2.1 d_M_place_34 (by decide) ?_
        refine lv_ldc S.1 S.2.1 S.2.2.2.1 (S.2.2.2.2 _ (gc g781)) d_M_place_35 ?_
        refine m_ci hw (va_runS (As := [.int k0, .int 0, .int 100000]) (rest := []) S (c_M_in l γ M k0 0 100000) (m_cwS 3 S g778 g779 g48 g780 rfl rfl ⟨by decide +kernel, by decide +kernel, by decide +kernel⟩ ⟨(Nat.le_of_ble_eq_true rfl), (Nat.le_of_ble_eq_true rfl)⟩) hw.preS rfl rfl hl.1 rfl (lv_room (Nat.le_of_ble_eq_true rfl)) d_M_place_37 ⟨(Nat.zero_le _), (Nat.zero_le _)⟩) (fun r1 M1 H locs hp hw => ?_)
        obtain ⟨rfl, hM1⟩ := hp
        rw [hM1] at hw
        refine lv_if_eq (tgt := 57) S.1 S.2.1 d_M_place_40 rfl (fun h40 => ?_) (fun h40 => ?_)
        · refine lv_iconst (v := 0) S.1 S.2.1 d_M_place_57 (by decide) ?_
          refine lv_istore S.1 S.2.1 d_M_place_58 hl (by decide) rfl (fun ls hl => ?_)
          have hl : lv_has ls 10 [(7, .int 0), (0, .ref (rx μ)), (1, .int w0), (2, .int b0), (3, .int p0), (4, .int q0), (5, .int k0), (6, .int f0)] := hl
          refine lv_aload_n S.1 S.2.1 d_M_place_60 rfl (lv_at hl 1 rfl) ?_
          refine lv_iload S.1 S.2.1 d_M_place_61 (lv_at hl 0 rfl) ?_
          refine lv_if_eq (tgt := 86) S.1 S.2.1 d_M_place_63 rfl (fun _ => ?_) (fun h => absurd (show (0 : Int32) = 0 by decide) h)
          refine lv_iconst (v := 1) S.1 S.2.1 d_M_place_86 (by decide) ?_
          refine lv_goto (tgt := 91) S.1 S.2.1 d_M_place_87 rfl ?_
          refine m_rput (σ' := σ) (ε' := (1, ε.2.1, ε.2.2.1, ε.2.2.2.1, ε.2.2.2.2.1, ε.2.2.2.2.2)) S hw hR 0 (by decide) g688 rfl rfl rfl d_M_place_91 rfl (fun i hi => rfl) (fun H locs M4 hR hw => ?_)
          refine lv_aload_n S.1 S.2.1 d_M_place_94 rfl (lv_at hl 1 rfl) ?_
          refine m_get S hw cl_M hR.obj 0 (by decide) g688 (fun _ h => h) rfl d_M_place_95 ?_
          refine lv_if_ne (tgt := 141) S.1 S.2.1 d_M_place_98 rfl (fun _ => ?_) (fun h => absurd h (show ¬ (1 : Int32) = 0 by decide))
          refine lv_aload_n S.1 S.2.1 d_M_place_141 rfl (lv_at hl 1 rfl) ?_
          refine m_get S hw cl_M hR.obj 0 (by decide) g688 (fun _ h => h) rfl d_M_place_142 ?_
          refine lv_if_le (tgt := 150) S.1 S.2.1 d_M_place_145 rfl (fun h => absurd h (show ¬ (1 : Int32) ≤ 0 by decide)) (fun _ => ?_)
          refine lv_iconst (v := 0) S.1 S.2.1 d_M_place_148 (by decide) ?_
          exact m_iret S hlk hr rfl hw hR (Nat.le_refl _) (Nat.le_refl _) d_M_place_149
        · refine lv_iload S.1 S.2.1 d_M_place_43 (lv_at hl 6 rfl) ?_
          refine lv_iconst (v := 0) S.1 S.2.1 d_M_place_45 (by decide) ?_
          refine lv_iconst (v := 2) S.1 S.2.1 d_M_place_46 (by decide) ?_
          refine m_ci hw (va_runS (As := [.int f0, .int 0, .int 2]) (rest := []) S (c_M_in l γ M f0 0 2) (m_cwS 3 S g778 g779 g48 g780 rfl rfl ⟨by decide +kernel, by decide +kernel, by decide +kernel⟩ ⟨(Nat.le_of_ble_eq_true rfl), (Nat.le_of_ble_eq_true rfl)⟩) hw.preS rfl rfl hl.1 rfl (lv_room (Nat.le_of_ble_eq_true rfl)) d_M_place_47 ⟨(Nat.zero_le _), (Nat.zero_le _)⟩) (fun r1 M1 H locs hp hw => ?_)
          obtain ⟨rfl, hM1⟩ := hp
          rw [hM1] at hw
          refine lv_if_eq (tgt := 57) S.1 S.2.1 d_M_place_50 rfl (fun h50 => ?_) (fun h50 => ?_)
          · refine lv_iconst (v := 0) S.1 S.2.1 d_M_place_57 (by decide) ?_
            refine lv_istore S.1 S.2.1 d_M_place_58 hl (by decide) rfl (fun ls hl => ?_)
            have hl : lv_has ls 10 [(7, .int 0), (0, .ref (rx μ)), (1, .int w0), (2, .int b0), (3, .int p0), (4, .int q0), (5, .int k0), (6, .int f0)] := hl
            refine lv_aload_n S.1 S.2.1 d_M_place_60 rfl (lv_at hl 1 rfl) ?_
            refine lv_iload S.1 S.2.1 d_M_place_61 (lv_at hl 0 rfl) ?_
            refine lv_if_eq (tgt := 86) S.1 S.2.1 d_M_place_63 rfl (fun _ => ?_) (fun h => absurd (show (0 : Int32) = 0 by decide) h)
            refine lv_iconst (v := 1) S.1 S.2.1 d_M_place_86 (by decide) ?_
            refine lv_goto (tgt := 91) S.1 S.2.1 d_M_place_87 rfl ?_
            refine m_rput (σ' := σ) (ε' := (1, ε.2.1, ε.2.2.1, ε.2.2.2.1, ε.2.2.2.2.1, ε.2.2.2.2.2)) S hw hR 0 (by decide) g688 rfl rfl rfl d_M_place_91 rfl (fun i hi => rfl) (fun H locs M5 hR hw => ?_)
            refine lv_aload_n S.1 S.2.1 d_M_place_94 rfl (lv_at hl 1 rfl) ?_
            refine m_get S hw cl_M hR.obj 0 (by decide) g688 (fun _ h => h) rfl d_M_place_95 ?_
            refine lv_if_ne (tgt := 141) S.1 S.2.1 d_M_place_98 rfl (fun _ => ?_) (fun h => absurd h (show ¬ (1 : Int32) = 0 by decide))
            refine lv_aload_n S.1 S.2.1 d_M_place_141 rfl (lv_at hl 1 rfl) ?_
            refine m_get S hw cl_M hR.obj 0 (by decide) g688 (fun _ h => h) rfl d_M_place_142 ?_
            refine lv_if_le (tgt := 150) S.1 S.2.1 d_M_place_145 rfl (fun h => absurd h (show ¬ (1 : Int32) ≤ 0 by decide)) (fun _ => ?_)
            refine lv_iconst (v := 0) S.1 S.2.1 d_M_place_148 (by decide) ?_
            exact m_iret S hlk hr rfl hw hR (Nat.le_refl _) (Nat.le_refl _) d_M_place_149
          · refine lv_iconst (v := 1) S.1 S.2.1 d_M_place_53 (by decide) ?_
            refine lv_goto (tgt := 58) S.1 S.2.1 d_M_place_54 rfl ?_
            refine lv_istore S.1 S.2.1 d_M_place_58 hl (by decide) rfl (fun ls hl => ?_)
            have hl : lv_has ls 10 [(7, .int 1), (0, .ref (rx μ)), (1, .int w0), (2, .int b0), (3, .int p0), (4, .int q0), (5, .int k0), (6, .int f0)] := hl
            refine lv_aload_n S.1 S.2.1 d_M_place_60 rfl (lv_at hl 1 rfl) ?_
            refine lv_iload S.1 S.2.1 d_M_place_61 (lv_at hl 0 rfl) ?_
            refine lv_if_eq (tgt := 86) S.1 S.2.1 d_M_place_63 rfl (fun h => absurd h (show ¬ (1 : Int32) = 0 by decide)) (fun _ => ?_)
            refine lv_iload S.1 S.2.1 d_M_place_66 (lv_at hl 7 rfl) ?_
            refine lv_if_le (tgt := 76) S.1 S.2.1 d_M_place_68 rfl (fun h68 => ?_) (fun h68 => ?_)
            · refine lv_iload S.1 S.2.1 d_M_place_76 (lv_at hl 5 rfl) ?_
              refine lv_iload S.1 S.2.1 d_M_place_78 (lv_at hl 6 rfl) ?_
              refine m_ci hw (va_runS (As := [.int q0, .int k0]) (rest := [.ref (rx μ)]) S (c_M_fitsPeak l γ M q0 k0) (m_cwS 2 S g782 g783 g48 g784 rfl rfl ⟨by decide +kernel, by decide +kernel, by decide +kernel⟩ ⟨(Nat.le_of_ble_eq_true rfl), (Nat.le_of_ble_eq_true rfl)⟩) hw.preS rfl rfl hl.1 rfl (lv_room (Nat.le_of_ble_eq_true rfl)) d_M_place_80 ⟨(Nat.zero_le _), (Nat.zero_le _)⟩) (fun r1 M1 H locs hp hw => ?_)
              obtain ⟨rfl, hM1⟩ := hp
              rw [hM1] at hw
              refine lv_if_ne (tgt := 90) S.1 S.2.1 d_M_place_83 rfl (fun h83 => ?_) (fun h83 => ?_)
              · exfalso
                have hf0 := rg_i (b2i_n0.mp h50)
                have hk0 := rg_i (b2i_n0.mp h40)
                rw [i0] at hf0 hk0
                rw [b2i_n0.mp h7, b2i_n0.mp h18, b2i_n0.mp h29, b2i_n0.mp h40, b2i_n0.mp h83, b2i_n0.mp h50, decide_eq_true (Int32.toInt_inj.mp (by have := Int32.le_iff_toInt_le.mp h68; rw [i0] at this; rw [i0]; omega) : f0 = 0), Bool.or_true] at hv
                cases hv
              · refine lv_iconst (v := 1) S.1 S.2.1 d_M_place_86 (by decide) ?_
                refine lv_goto (tgt := 91) S.1 S.2.1 d_M_place_87 rfl ?_
                refine m_rput (σ' := σ) (ε' := (1, ε.2.1, ε.2.2.1, ε.2.2.2.1, ε.2.2.2.2.1, ε.2.2.2.2.2)) S hw hR 0 (by decide) g688 rfl rfl rfl d_M_place_91 rfl (fun i hi => rfl) (fun H locs M6 hR hw => ?_)
                refine lv_aload_n S.1 S.2.1 d_M_place_94 rfl (lv_at hl 1 rfl) ?_
                refine m_get S hw cl_M hR.obj 0 (by decide) g688 (fun _ h => h) rfl d_M_place_95 ?_
                refine lv_if_ne (tgt := 141) S.1 S.2.1 d_M_place_98 rfl (fun _ => ?_) (fun h => absurd h (show ¬ (1 : Int32) = 0 by decide))
                refine lv_aload_n S.1 S.2.1 d_M_place_141 rfl (lv_at hl 1 rfl) ?_
                refine m_get S hw cl_M hR.obj 0 (by decide) g688 (fun _ h => h) rfl d_M_place_142 ?_
                refine lv_if_le (tgt := 150) S.1 S.2.1 d_M_place_145 rfl (fun h => absurd h (show ¬ (1 : Int32) ≤ 0 by decide)) (fun _ => ?_)
                refine lv_iconst (v := 0) S.1 S.2.1 d_M_place_148 (by decide) ?_
                exact m_iret S hlk hr rfl hw hR (Nat.le_refl _) (Nat.le_refl _) d_M_place_149
            · refine lv_iload S.1 S.2.1 d_M_place_71 (lv_at hl 6 rfl) ?_
              refine lv_if_gt (tgt := 86) S.1 S.2.1 d_M_place_73 rfl (fun h73 => ?_) (fun h73 => ?_)
              · refine lv_iconst (v := 1) S.1 S.2.1 d_M_place_86 (by decide) ?_
                refine lv_goto (tgt := 91) S.1 S.2.1 d_M_place_87 rfl ?_
                refine m_rput (σ' := σ) (ε' := (1, ε.2.1, ε.2.2.1, ε.2.2.2.1, ε.2.2.2.2.1, ε.2.2.2.2.2)) S hw hR 0 (by decide) g688 rfl rfl rfl d_M_place_91 rfl (fun i hi => rfl) (fun H locs M7 hR hw => ?_)
                refine lv_aload_n S.1 S.2.1 d_M_place_94 rfl (lv_at hl 1 rfl) ?_
                refine m_get S hw cl_M hR.obj 0 (by decide) g688 (fun _ h => h) rfl d_M_place_95 ?_
                refine lv_if_ne (tgt := 141) S.1 S.2.1 d_M_place_98 rfl (fun _ => ?_) (fun h => absurd h (show ¬ (1 : Int32) = 0 by decide))
                refine lv_aload_n S.1 S.2.1 d_M_place_141 rfl (lv_at hl 1 rfl) ?_
                refine m_get S hw cl_M hR.obj 0 (by decide) g688 (fun _ h => h) rfl d_M_place_142 ?_
                refine lv_if_le (tgt := 150) S.1 S.2.1 d_M_place_145 rfl (fun h => absurd h (show ¬ (1 : Int32) ≤ 0 by decide)) (fun _ => ?_)
                refine lv_iconst (v := 0) S.1 S.2.1 d_M_place_148 (by decide) ?_
                exact m_iret S hlk hr rfl hw hR (Nat.le_refl _) (Nat.le_refl _) d_M_place_149
              · refine lv_iload S.1 S.2.1 d_M_place_76 (lv_at hl 5 rfl) ?_
                refine lv_iload S.1 S.2.1 d_M_place_78 (lv_at hl 6 rfl) ?_
                refine m_ci hw (va_runS (As := [.int q0, .int k0]) (rest := [.ref (rx μ)]) S (c_M_fitsPeak l γ M q0 k0) (m_cwS 2 S g782 g783 g48 g784 rfl rfl ⟨by decide +kernel, by decide +kernel, by decide +kernel⟩ ⟨(Nat.le_of_ble_eq_true rfl), (Nat.le_of_ble_eq_true rfl)⟩) hw.preS rfl rfl hl.1 rfl (lv_room (Nat.le_of_ble_eq_true rfl)) d_M_place_80 ⟨(Nat.zero_le _), (Nat.zero_le _)⟩) (fun r1 M1 H locs hp hw => ?_)
                obtain ⟨rfl, hM1⟩ := hp
                rw [hM1] at hw
                refine lv_if_ne (tgt := 90) S.1 S.2.1 d_M_place_83 rfl (fun h83 => ?_) (fun h83 => ?_)
                · exfalso
                  have hf0 := rg_i (b2i_n0.mp h50)
                  have hk0 := rg_i (b2i_n0.mp h40)
                  rw [i0] at hf0 hk0
                  rw [b2i_n0.mp h7, b2i_n0.mp h18, b2i_n0.mp h29, b2i_n0.mp h40, b2i_n0.mp h83, b2i_n0.mp h50, decide_eq_true (Int32.toInt_inj.mp (by have := Int32.le_iff_toInt_le.mp (Int32.not_lt.mp h73); rw [i0] at this; rw [i0]; omega) : k0 = 0), Bool.true_or] at hv
                  cases hv
                · refine lv_iconst (v := 1) S.1 S.2.1 d_M_place_86 (by decide) ?_
                  refine lv_goto (tgt := 91) S.1 S.2.1 d_M_place_87 rfl ?_
                  refine m_rput (σ' := σ) (ε' := (1, ε.2.1, ε.2.2.1, ε.2.2.2.1, ε.2.2.2.2.1, ε.2.2.2.2.2)) S hw hR 0 (by decide) g688 rfl rfl rfl d_M_place_91 rfl (fun i hi => rfl) (fun H locs M8 hR hw => ?_)
                  refine lv_aload_n S.1 S.2.1 d_M_place_94 rfl (lv_at hl 1 rfl) ?_
                  refine m_get S hw cl_M hR.obj 0 (by decide) g688 (fun _ h => h) rfl d_M_place_95 ?_
                  refine lv_if_ne (tgt := 141) S.1 S.2.1 d_M_place_98 rfl (fun _ => ?_) (fun h => absurd h (show ¬ (1 : Int32) = 0 by decide))
                  refine lv_aload_n S.1 S.2.1 d_M_place_141 rfl (lv_at hl 1 rfl) ?_
                  refine m_get S hw cl_M hR.obj 0 (by decide) g688 (fun _ h => h) rfl d_M_place_142 ?_
                  refine lv_if_le (tgt := 150) S.1 S.2.1 d_M_place_145 rfl (fun h => absurd h (show ¬ (1 : Int32) ≤ 0 by decide)) (fun _ => ?_)
                  refine lv_iconst (v := 0) S.1 S.2.1 d_M_place_148 (by decide) ?_
                  exact m_iret S hlk hr rfl hw hR (Nat.le_refl _) (Nat.le_refl _) d_M_place_149
set_option maxHeartbeats 4000000 in
set_option maxRecDepth 100000 in
theorem c_M_placeS (l : Launch) (γ : mG) (M : mMap) (μ : RK) (σ : St) (ε : RE) (hR : RM γ M μ σ ε) (hn : sn σ ≤ 250) (w0 b0 p0 q0 k0 f0 : Int32) (hv1 : rg 0 9 w0 = true) (hv2 : rg 0 2000 p0 = true) (hv3 : rg 1 100000 q0 = true) (hv4 : rg 0 100000 k0 = true) (hv5 : fpk q0 k0 = true) (hv6 : rg 0 2 f0 = true) (hv7 : k0 = 0 ∨ f0 = 0) (hv : 250 ≤ sn σ ∨ sph σ = 2 ∨ ¬ f0 = 0 ∧ ¬ sph σ = 1) : Met l y_M_place w_M_place ({ frames := 1, cells := 0, slots := 0, locals := 22 } : Room) (mPc γ M [.ref (rx μ), .int w0, .int b0, .int p0, .int q0, .int k0, .int f0]) (mQi γ (fun _ M' => RQ γ M M' μ σ (2, ε.2))) 0 0 (mA (gz γ)) := by
  refine m_enter (by decide) (Nat.le_of_ble_eq_true rfl) ?_
  intro p e s m below meth c ls S hr hlk hnm hl hw
  have hl : lv_has ls 10 [(0, .ref (rx μ)), (1, .int w0), (2, .int b0), (3, .int p0), (4, .int q0), (5, .int k0), (6, .int f0)] := hl
  have hR := hR.q
  refine lv_iload_n S.1 S.2.1 d_M_place_0 rfl (lv_at hl 1 rfl) ?_
  refine lv_iconst (v := 0) S.1 S.2.1 d_M_place_1 (by decide) ?_
  refine lv_bipush (v := 9) S.1 S.2.1 d_M_place_2 (by decide) ?_
  refine m_ci hw (va_runS (As := [.int w0, .int 0, .int 9]) (rest := []) S (c_M_in l γ M w0 0 9) (m_cwS 3 S g778 g779 g48 g780 rfl rfl ⟨by decide +kernel, by decide +kernel, by decide +kernel⟩ ⟨(Nat.le_of_ble_eq_true rfl), (Nat.le_of_ble_eq_true rfl)⟩) hw.preS rfl rfl hl.1 rfl (lv_room (Nat.le_of_ble_eq_true rfl)) d_M_place_4 ⟨(Nat.zero_le _), (Nat.zero_le _)⟩) (fun r1 M1 H locs hp hw => ?_)
  obtain ⟨rfl, hM1⟩ := hp
  rw [hM1] at hw
  refine lv_if_eq (tgt := 57) S.1 S.2.1 d_M_place_7 rfl (fun h => absurd h (b2i_n0.mpr hv1)) (fun _ => ?_)
  refine lv_iload_n S.1 S.2.1 d_M_place_10 rfl (lv_at hl 3 rfl) ?_
  refine lv_iconst (v := 0) S.1 S.2.1 d_M_place_11 (by decide) ?_
  refine lv_sipush (v := 2000) S.1 S.2.1 d_M_place_12 (by decide) ?_
  refine m_ci hw (va_runS (As := [.int p0, .int 0, .int 2000]) (rest := []) S (c_M_in l γ M p0 0 2000) (m_cwS 3 S g778 g779 g48 g780 rfl rfl ⟨by decide +kernel, by decide +kernel, by decide +kernel⟩ ⟨(Nat.le_of_ble_eq_true rfl), (Nat.le_of_ble_eq_true rfl)⟩) hw.preS rfl rfl hl.1 rfl (lv_room (Nat.le_of_ble_eq_true rfl)) d_M_place_15 ⟨(Nat.zero_le _), (Nat.zero_le _)⟩) (fun r1 M1 H locs hp hw => ?_)
  obtain ⟨rfl, hM1⟩ := hp
  rw [hM1] at hw
  refine lv_if_eq (tgt := 57) S.1 S.2.1 d_M_place_18 rfl (fun h => absurd h (b2i_n0.mpr hv2)) (fun _ => ?_)
  refine lv_iload S.1 S.2.1 d_M_place_21 (lv_at hl 4 rfl) ?_
  refine lv_iconst (v := 1) S.1 S.2.1 d_M_place_23 (by decide) ?_
  refine lv_ldc S.1 S.2.1 S.2.2.2.1 (S.2.2.2.2 _ (gc g781)) d_M_place_24 ?_
  refine m_ci hw (va_runS (As := [.int q0, .int 1, .int 100000]) (rest := []) S (c_M_in l γ M q0 1 100000) (m_cwS 3 S g778 g779 g48 g780 rfl rfl ⟨by decide +kernel, by decide +kernel, by decide +kernel⟩ ⟨(Nat.le_of_ble_eq_true rfl), (Nat.le_of_ble_eq_true rfl)⟩) hw.preS rfl rfl hl.1 rfl (lv_room (Nat.le_of_ble_eq_true rfl)) d_M_place_26 ⟨(Nat.zero_le _), (Nat.zero_le _)⟩) (fun r1 M1 H locs hp hw => ?_)
  obtain ⟨rfl, hM1⟩ := hp
  rw [hM1] at hw
  refine lv_if_eq (tgt := 57) S.1 S.2.1 d_M_place_29 rfl (fun h => absurd h (b2i_n0.mpr hv3)) (fun _ => ?_)
  refine lv_iload S.1 S.2.1 d_M_place_32 (lv_at hl 5 rfl) ?_
  refine lv_iconst (v := 0) S.1 S.2.1 d_M_place_34 (by decide) ?_
  refine lv_ldc S.1 S.2.1 S.2.2.2.1 (S.2.2.2.2 _ (gc g781)) d_M_place_35 ?_
  refine m_ci hw (va_runS (As := [.int k0, .int 0, .int 100000]) (rest := []) S (c_M_in l γ M k0 0 100000) (m_cwS 3 S g778 g779 g48 g780 rfl rfl ⟨by decide +kernel, by decide +kernel, by decide +kernel⟩ ⟨(Nat.le_of_ble_eq_true rfl), (Nat.le_of_ble_eq_true rfl)⟩) hw.preS rfl rfl hl.1 rfl (lv_room (Nat.le_of_ble_eq_true rfl)) d_M_place_37 ⟨(Nat.zero_le _), (Nat.zero_le _)⟩) (fun r1 M1 H locs hp hw => ?_)
  obtain ⟨rfl, hM1⟩ := hp
  rw [hM1] at hw
  refine lv_if_eq (tgt := 57) S.1 S.2.1 d_M_place_40 rfl (fun h => absurd h (b2i_n0.mpr hv4)) (fun _ => ?_)
  refine lv_iload S.1 S.2.1 d_M_place_43 (lv_at hl 6 rfl) ?_
  refine lv_iconst (v := 0) S.1 S.2.1 d_M_place_45 (by decide) ?_
  refine lv_iconst (v := 2) S.1 S.2.1 d_M_place_46 (by decide) ?_
  refine m_ci hw (va_runS (As := [.int f0, .int 0, .int 2]) (rest := []) S (c_M_in l γ M f0 0 2) (m_cwS 3 S g778 g779 g48 g780 rfl rfl ⟨by decide +kernel, by decide +kernel, by decide +kernel⟩ ⟨(Nat.le_of_ble_eq_true rfl), (Nat.le_of_ble_eq_true rfl)⟩) hw.preS rfl rfl hl.1 rfl (lv_room (Nat.le_of_ble_eq_true rfl)) d_M_place_47 ⟨(Nat.zero_le _), (Nat.zero_le _)⟩) (fun r1 M1 H locs hp hw => ?_)
  obtain ⟨rfl, hM1⟩ := hp
  rw [hM1] at hw
  refine lv_if_eq (tgt := 57) S.1 S.2.1 d_M_place_50 rfl (fun h => absurd h (b2i_n0.mpr hv6)) (fun _ => ?_)
  refine lv_iconst (v := 1) S.1 S.2.1 d_M_place_53 (by decide) ?_
  refine lv_goto (tgt := 58) S.1 S.2.1 d_M_place_54 rfl ?_
  refine lv_istore S.1 S.2.1 d_M_place_58 hl (by decide) rfl (fun ls hl => ?_)
  have hl : lv_has ls 10 [(7, .int 1), (0, .ref (rx μ)), (1, .int w0), (2, .int b0), (3, .int p0), (4, .int q0), (5, .int k0), (6, .int f0)] := hl
  refine lv_aload_n S.1 S.2.1 d_M_place_60 rfl (lv_at hl 1 rfl) ?_
  refine lv_iload S.1 S.2.1 d_M_place_61 (lv_at hl 0 rfl) ?_
  refine lv_if_eq (tgt := 86) S.1 S.2.1 d_M_place_63 rfl (fun h => absurd h (show ¬ (1 : Int32) = 0 by decide)) (fun _ => ?_)
  refine lv_iload S.1 S.2.1 d_M_place_66 (lv_at hl 7 rfl) ?_
  refine lv_if_le (tgt := 76) S.1 S.2.1 d_M_place_68 rfl (fun h68 => ?_) (fun h68 => ?_)
  · refine lv_iload S.1 S.2.1 d_M_place_76 (lv_at hl 5 rfl) ?_
    refine lv_iload S.1 S.2.1 d_M_place_78 (lv_at hl 6 rfl) ?_
    refine m_ci hw (va_runS (As := [.int q0, .int k0]) (rest := [.ref (rx μ)]) S (c_M_fitsPeak l γ M q0 k0) (m_cwS 2 S g782 g783 g48 g784 rfl rfl ⟨by decide +kernel, by decide +kernel, by decide +kernel⟩ ⟨(Nat.le_of_ble_eq_true rfl), (Nat.le_of_ble_eq_true rfl)⟩) hw.preS rfl rfl hl.1 rfl (lv_room (Nat.le_of_ble_eq_true rfl)) d_M_place_80 ⟨(Nat.zero_le _), (Nat.zero_le _)⟩) (fun r1 M1 H locs hp hw => ?_)
    obtain ⟨rfl, hM1⟩ := hp
    rw [hM1] at hw
    refine lv_if_ne (tgt := 90) S.1 S.2.1 d_M_place_83 rfl (fun _ => ?_) (fun h => absurd h (b2i_n0.mpr hv5))
    refine lv_iconst (v := 0) S.1 S.2.1 d_M_place_90 (by decide) ?_
    refine m_rput (σ' := σ) (ε' := (0, ε.2.1, ε.2.2.1, ε.2.2.2.1, ε.2.2.2.2.1, ε.2.2.2.2.2)) S hw hR 0 (by decide) g688 rfl rfl rfl d_M_place_91 rfl (fun i hi => rfl) (fun H locs M1 hR hw => ?_)
    refine lv_aload_n S.1 S.2.1 d_M_place_94 rfl (lv_at hl 1 rfl) ?_
    refine m_get S hw cl_M hR.obj 0 (by decide) g688 (fun _ h => h) rfl d_M_place_95 ?_
    refine lv_if_ne (tgt := 141) S.1 S.2.1 d_M_place_98 rfl (fun h => absurd (show (0 : Int32) = 0 by decide) h) (fun _ => ?_)
    refine lv_aload_n S.1 S.2.1 d_M_place_101 rfl (lv_at hl 1 rfl) ?_
    refine lv_aload_n S.1 S.2.1 d_M_place_102 rfl (lv_at hl 1 rfl) ?_
    refine m_get S hw cl_M hR.obj 5 (by decide) g693 (fun _ h => h) rfl d_M_place_103 ?_
    refine lv_sipush (v := 250) S.1 S.2.1 d_M_place_106 (by decide) ?_
    refine lv_icmp_eq (tgt := 133) S.1 S.2.1 d_M_place_109 rfl (fun h109 => ?_) (fun h109 => ?_)
    · refine lv_iconst (v := 2) S.1 S.2.1 d_M_place_133 (by decide) ?_
      refine lv_goto (tgt := 138) S.1 S.2.1 d_M_place_134 rfl ?_
      refine m_rput (σ' := σ) (ε' := (2, ε.2.1, ε.2.2.1, ε.2.2.2.1, ε.2.2.2.2.1, ε.2.2.2.2.2)) S hw hR 0 (by decide) g688 rfl rfl rfl d_M_place_138 rfl (fun i hi => rfl) (fun H locs M2 hR hw => ?_)
      refine lv_aload_n S.1 S.2.1 d_M_place_141 rfl (lv_at hl 1 rfl) ?_
      refine m_get S hw cl_M hR.obj 0 (by decide) g688 (fun _ h => h) rfl d_M_place_142 ?_
      refine lv_if_le (tgt := 150) S.1 S.2.1 d_M_place_145 rfl (fun h => absurd h (show ¬ (2 : Int32) ≤ 0 by decide)) (fun _ => ?_)
      refine lv_iconst (v := 0) S.1 S.2.1 d_M_place_148 (by decide) ?_
      exact m_iret S hlk hr rfl hw hR (Nat.le_refl _) (Nat.le_refl _) d_M_place_149
    · refine lv_aload_n S.1 S.2.1 d_M_place_112 rfl (lv_at hl 1 rfl) ?_
      refine m_get S hw cl_M hR.obj 1 (by decide) g689 (fun _ h => h) rfl d_M_place_113 ?_
      refine lv_iconst (v := 2) S.1 S.2.1 d_M_place_116 (by decide) ?_
      refine lv_icmp_eq (tgt := 133) S.1 S.2.1 d_M_place_117 rfl (fun h117 => ?_) (fun h117 => ?_)
      · refine lv_iconst (v := 2) S.1 S.2.1 d_M_place_133 (by decide) ?_
        refine lv_goto (tgt := 138) S.1 S.2.1 d_M_place_134 rfl ?_
        refine m_rput (σ' := σ) (ε' := (2, ε.2.1, ε.2.2.1, ε.2.2.2.1, ε.2.2.2.2.1, ε.2.2.2.2.2)) S hw hR 0 (by decide) g688 rfl rfl rfl d_M_place_138 rfl (fun i hi => rfl) (fun H locs M3 hR hw => ?_)
        refine lv_aload_n S.1 S.2.1 d_M_place_141 rfl (lv_at hl 1 rfl) ?_
        refine m_get S hw cl_M hR.obj 0 (by decide) g688 (fun _ h => h) rfl d_M_place_142 ?_
        refine lv_if_le (tgt := 150) S.1 S.2.1 d_M_place_145 rfl (fun h => absurd h (show ¬ (2 : Int32) ≤ 0 by decide)) (fun _ => ?_)
        refine lv_iconst (v := 0) S.1 S.2.1 d_M_place_148 (by decide) ?_
        exact m_iret S hlk hr rfl hw hR (Nat.le_refl _) (Nat.le_refl _) d_M_place_149
      · refine lv_iload S.1 S.2.1 d_M_place_120 (lv_at hl 7 rfl) ?_
        refine lv_if_le (tgt := 137) S.1 S.2.1 d_M_place_122 rfl (fun h122 => ?_) (fun h122 => ?_)
        · exfalso
          rcases hv with h | h | ⟨h, h'⟩
          · exact h109 (congrArg nI (Nat.le_antisymm hn h))
          · exact h117 h
          · exact h (Int32.toInt_inj.mp (by have h1 := Int32.le_iff_toInt_le.mp h122; have h2 := rg_i hv6; rw [i0] at h1 h2; rw [i0]; omega))
        · refine lv_aload_n S.1 S.2.1 d_M_place_125 rfl (lv_at hl 1 rfl) ?_
          refine m_get S hw cl_M hR.obj 1 (by decide) g689 (fun _ h => h) rfl d_M_place_126 ?_
          refine lv_iconst (v := 1) S.1 S.2.1 d_M_place_129 (by decide) ?_
          refine lv_icmp_eq (tgt := 137) S.1 S.2.1 d_M_place_130 rfl (fun h130 => ?_) (fun h130 => ?_)
          · exfalso
            rcases hv with h | h | ⟨h, h'⟩
            · exact h109 (congrArg nI (Nat.le_antisymm hn h))
            · exact h117 h
            · exact h' h130
          · refine lv_iconst (v := 2) S.1 S.2.1 d_M_place_133 (by decide) ?_
            refine lv_goto (tgt := 138) S.1 S.2.1 d_M_place_134 rfl ?_
            refine m_rput (σ' := σ) (ε' := (2, ε.2.1, ε.2.2.1, ε.2.2.2.1, ε.2.2.2.2.1, ε.2.2.2.2.2)) S hw hR 0 (by decide) g688 rfl rfl rfl d_M_place_138 rfl (fun i hi => rfl) (fun H locs M4 hR hw => ?_)
            refine lv_aload_n S.1 S.2.1 d_M_place_141 rfl (lv_at hl 1 rfl) ?_
            refine m_get S hw cl_M hR.obj 0 (by decide) g688 (fun _ h => h) rfl d_M_place_142 ?_
            refine lv_if_le (tgt := 150) S.1 S.2.1 d_M_place_145 rfl (fun h => absurd h (show ¬ (2 : Int32) ≤ 0 by decide)) (fun _ => ?_)
            refine lv_iconst (v := 0) S.1 S.2.1 d_M_place_148 (by decide) ?_
            exact m_iret S hlk hr rfl hw hR (Nat.le_refl _) (Nat.le_refl _) d_M_place_149
  · refine lv_iload S.1 S.2.1 d_M_place_71 (lv_at hl 6 rfl) ?_
    refine lv_if_gt (tgt := 86) S.1 S.2.1 d_M_place_73 rfl (fun h => absurd h (fun z => by rcases hv7 with e | e <;> subst e <;> first | exact absurd z (by decide) | exact absurd (Int32.not_le.mp h68) (by decide))) (fun _ => ?_)
    refine lv_iload S.1 S.2.1 d_M_place_76 (lv_at hl 5 rfl) ?_
    refine lv_iload S.1 S.2.1 d_M_place_78 (lv_at hl 6 rfl) ?_
    refine m_ci hw (va_runS (As := [.int q0, .int k0]) (rest := [.ref (rx μ)]) S (c_M_fitsPeak l γ M q0 k0) (m_cwS 2 S g782 g783 g48 g784 rfl rfl ⟨by decide +kernel, by decide +kernel, by decide +kernel⟩ ⟨(Nat.le_of_ble_eq_true rfl), (Nat.le_of_ble_eq_true rfl)⟩) hw.preS rfl rfl hl.1 rfl (lv_room (Nat.le_of_ble_eq_true rfl)) d_M_place_80 ⟨(Nat.zero_le _), (Nat.zero_le _)⟩) (fun r1 M1 H locs hp hw => ?_)
    obtain ⟨rfl, hM1⟩ := hp
    rw [hM1] at hw
    refine lv_if_ne (tgt := 90) S.1 S.2.1 d_M_place_83 rfl (fun _ => ?_) (fun h => absurd h (b2i_n0.mpr hv5))
    refine lv_iconst (v := 0) S.1 S.2.1 d_M_place_90 (by decide) ?_
    refine m_rput (σ' := σ) (ε' := (0, ε.2.1, ε.2.2.1, ε.2.2.2.1, ε.2.2.2.2.1, ε.2.2.2.2.2)) S hw hR 0 (by decide) g688 rfl rfl rfl d_M_place_91 rfl (fun i hi => rfl) (fun H locs M5 hR hw => ?_)
    refine lv_aload_n S.1 S.2.1 d_M_place_94 rfl (lv_at hl 1 rfl) ?_
    refine m_get S hw cl_M hR.obj 0 (by decide) g688 (fun _ h => h) rfl d_M_place_95 ?_
    refine lv_if_ne (tgt := 141) S.1 S.2.1 d_M_place_98 rfl (fun h => absurd (show (0 : Int32) = 0 by decide) h) (fun _ => ?_)
    refine lv_aload_n S.1 S.2.1 d_M_place_101 rfl (lv_at hl 1 rfl) ?_
    refine lv_aload_n S.1 S.2.1 d_M_place_102 rfl (lv_at hl 1 rfl) ?_
    refine m_get S hw cl_M hR.obj 5 (by decide) g693 (fun _ h => h) rfl d_M_place_103 ?_
    refine lv_sipush (v := 250) S.1 S.2.1 d_M_place_106 (by decide) ?_
    refine lv_icmp_eq (tgt := 133) S.1 S.2.1 d_M_place_109 rfl (fun h109 => ?_) (fun h109 => ?_)
    · refine lv_iconst (v := 2) S.1 S.2.1 d_M_place_133 (by decide) ?_
      refine lv_goto (tgt := 138) S.1 S.2.1 d_M_place_134 rfl ?_
      refine m_rput (σ' := σ) (ε' := (2, ε.2.1, ε.2.2.1, ε.2.2.2.1, ε.2.2.2.2.1, ε.2.2.2.2.2)) S hw hR 0 (by decide) g688 rfl rfl rfl d_M_place_138 rfl (fun i hi => rfl) (fun H locs M6 hR hw => ?_)
      refine lv_aload_n S.1 S.2.1 d_M_place_141 rfl (lv_at hl 1 rfl) ?_
      refine m_get S hw cl_M hR.obj 0 (by decide) g688 (fun _ h => h) rfl d_M_place_142 ?_
      refine lv_if_le (tgt := 150) S.1 S.2.1 d_M_place_145 rfl (fun h => absurd h (show ¬ (2 : Int32) ≤ 0 by decide)) (fun _ => ?_)
      refine lv_iconst (v := 0) S.1 S.2.1 d_M_place_148 (by decide) ?_
      exact m_iret S hlk hr rfl hw hR (Nat.le_refl _) (Nat.le_refl _) d_M_place_149
    · refine lv_aload_n S.1 S.2.1 d_M_place_112 rfl (lv_at hl 1 rfl) ?_
      refine m_get S hw cl_M hR.obj 1 (by decide) g689 (fun _ h => h) rfl d_M_place_113 ?_
      refine lv_iconst (v := 2) S.1 S.2.1 d_M_place_116 (by decide) ?_
      refine lv_icmp_eq (tgt := 133) S.1 S.2.1 d_M_place_117 rfl (fun h117 => ?_) (fun h117 => ?_)
      · refine lv_iconst (v := 2) S.1 S.2.1 d_M_place_133 (by decide) ?_
        refine lv_goto (tgt := 138) S.1 S.2.1 d_M_place_134 rfl ?_
        refine m_rput (σ' := σ) (ε' := (2, ε.2.1, ε.2.2.1, ε.2.2.2.1, ε.2.2.2.2.1, ε.2.2.2.2.2)) S hw hR 0 (by decide) g688 rfl rfl rfl d_M_place_138 rfl (fun i hi => rfl) (fun H locs M7 hR hw => ?_)
        refine lv_aload_n S.1 S.2.1 d_M_place_141 rfl (lv_at hl 1 rfl) ?_
        refine m_get S hw cl_M hR.obj 0 (by decide) g688 (fun _ h => h) rfl d_M_place_142 ?_
        refine lv_if_le (tgt := 150) S.1 S.2.1 d_M_place_145 rfl (fun h => absurd h (show ¬ (2 : Int32) ≤ 0 by decide)) (fun _ => ?_)
        refine lv_iconst (v := 0) S.1 S.2.1 d_M_place_148 (by decide) ?_
        exact m_iret S hlk hr rfl hw hR (Nat.le_refl _) (Nat.le_refl _) d_M_place_149
      · refine lv_iload S.1 S.2.1 d_M_place_120 (lv_at hl 7 rfl) ?_
        refine lv_if_le (tgt := 137) S.1 S.2.1 d_M_place_122 rfl (fun h122 => ?_) (fun h122 => ?_)
        · exfalso
          rcases hv with h | h | ⟨h, h'⟩
          · exact h109 (congrArg nI (Nat.le_antisymm hn h))
          · exact h117 h
          · exact h (Int32.toInt_inj.mp (by have h1 := Int32.le_iff_toInt_le.mp h122; have h2 := rg_i hv6; rw [i0] at h1 h2; rw [i0]; omega))
        · refine lv_aload_n S.1 S.2.1 d_M_place_125 rfl (lv_at hl 1 rfl) ?_
          refine m_get S hw cl_M hR.obj 1 (by decide) g689 (fun _ h => h) rfl d_M_place_126 ?_
          refine lv_iconst (v := 1) S.1 S.2.1 d_M_place_129 (by decide) ?_
          refine lv_icmp_eq (tgt := 137) S.1 S.2.1 d_M_place_130 rfl (fun h130 => ?_) (fun h130 => ?_)
          · exfalso
            rcases hv with h | h | ⟨h, h'⟩
            · exact h109 (congrArg nI (Nat.le_antisymm hn h))
            · exact h117 h
            · exact h' h130
          · refine lv_iconst (v := 2) S.1 S.2.1 d_M_place_133 (by decide) ?_
            refine lv_goto (tgt := 138) S.1 S.2.1 d_M_place_134 rfl ?_
            refine m_rput (σ' := σ) (ε' := (2, ε.2.1, ε.2.2.1, ε.2.2.2.1, ε.2.2.2.2.1, ε.2.2.2.2.2)) S hw hR 0 (by decide) g688 rfl rfl rfl d_M_place_138 rfl (fun i hi => rfl) (fun H locs M8 hR hw => ?_)
            refine lv_aload_n S.1 S.2.1 d_M_place_141 rfl (lv_at hl 1 rfl) ?_
            refine m_get S hw cl_M hR.obj 0 (by decide) g688 (fun _ h => h) rfl d_M_place_142 ?_
            refine lv_if_le (tgt := 150) S.1 S.2.1 d_M_place_145 rfl (fun h => absurd h (show ¬ (2 : Int32) ≤ 0 by decide)) (fun _ => ?_)
            refine lv_iconst (v := 0) S.1 S.2.1 d_M_place_148 (by decide) ?_
            exact m_iret S hlk hr rfl hw hR (Nat.le_refl _) (Nat.le_refl _) d_M_place_149
theorem RQ.cong {γ : mG} {M0 M : mMap} {μ : RK} {σ : St} {ε : RE} {J : Co} (h : RQ γ M0 M μ σ ε) (hJ : ∀ j, j < 9 → J j = sI σ j) : RQ γ M0 M μ ((sn σ, J), σ.2) ε := by
  obtain ⟨⟨h1, h2, h3⟩, h4⟩ := h
  refine ⟨⟨h1, fun j hj => ?_, h3⟩, h4⟩
  rw [h2 j hj]
  unfold rcell
  by_cases h9 : j < 9
  · rw [if_pos h9, if_pos h9]
    show _ = some (Sum.inl (_, _, Sum.inl (J j)))
    rw [hJ j h9]
  · rw [if_neg h9, if_neg h9]
theorem new_cols {I : Co} {n : Nat} {w b p q k f : Int32} (h4 : I 4 n = 0) (h7 : I 7 n = 0) : ∀ j, j < 9 → nCol I n w b p q k f j = s1 (s1 (s1 (s1 (s1 (s1 (s1 I 0 n w) 1 n b) 2 n p) 3 n q) 8 n k) 6 n f) 5 n (-1) j := by
  intro j hj
  funext x
  rcases (show j = 0 ∨ j = 1 ∨ j = 2 ∨ j = 3 ∨ j = 4 ∨ j = 5 ∨ j = 6 ∨ j = 7 ∨ j = 8 by omega) with e | e | e | e | e | e | e | e | e <;> subst e <;> by_cases hx : x = n
  all_goals first
    | (subst hx; simp [nCol, s1, va_up, upd, h4, h7]; done)
    | simp [nCol, s1, va_up, upd, hx]
set_option linter.unusedVariables false
set_option maxHeartbeats 4000000 in
set_option maxRecDepth 100000 in
theorem c_M_place (l : Launch) (γ : mG) (M : mMap) (μ : RK) (σ : St) (ε : RE) (hR : RM γ M μ σ ε) (w0 b0 p0 q0 k0 f0 : Int32) (hb0 : b0 = 0 ∨ b0 = 1) (hv1 : rg 0 9 w0 = true) (hv2 : rg 0 2000 p0 = true) (hv3 : rg 1 100000 q0 = true) (hv4 : rg 0 100000 k0 = true) (hv5 : fpk q0 k0 = true) (hv6 : rg 0 2 f0 = true) (hv7 : k0 = 0 ∨ f0 = 0) (L : Nat → List Nat) (hI1 : Inv0 (xNew σ w0 b0 p0 q0 k0 f0)) (hL1 : LN (xNew σ w0 b0 p0 q0 k0 f0) L) (hB : BD σ) (hn2 : sn σ < 250) (hph : ¬ sph σ = 2) (hte : f0 = 0 ∨ sph σ = 1) (ht4 : sI σ 4 (sn σ) = 0) (ht7 : sI σ 7 (sn σ) = 0) (hrk : (srk σ).toInt ≤ 500000000) (σ' : St) (hfin : xCome (cov (xNew σ w0 b0 p0 q0 k0 f0) (sn σ)) (xNew σ w0 b0 p0 q0 k0 f0) (sn σ) = σ') (hT : stn σ' ≤ 30000) : Met l y_M_place w_M_place ({ frames := 5, cells := 0, slots := 0, locals := 112 } : Room) (mPc γ M [.ref (rx μ), .int w0, .int b0, .int p0, .int q0, .int k0, .int f0]) (mQi γ (fun r M' => r = nI (sn σ) ∧ RQ γ M M' μ σ' (0, ε.2))) 0 0 (mA (gz γ)) := by
  refine m_enter (by decide) (Nat.le_of_ble_eq_true rfl) ?_
  intro p e s m below meth c ls S hr hlk hnm hl hw
  have hl : lv_has ls 10 [(0, .ref (rx μ)), (1, .int w0), (2, .int b0), (3, .int p0), (4, .int q0), (5, .int k0), (6, .int f0)] := hl
  have hR := hR.q
  have hn := hn2
  have hq0 := rg_i hv3
  rw [show (1 : Int32).toInt = 1 by decide, show (100000 : Int32).toInt = 100000 by decide] at hq0
  have hq3 : sI (xNew σ w0 b0 p0 q0 k0 f0) 3 (sn σ) = q0 := by show nCol _ _ _ _ _ _ _ _ 3 _ = _; simp [nCol]
  have hq5 : sI (xNew σ w0 b0 p0 q0 k0 f0) 5 (sn σ) = -1 := by show nCol _ _ _ _ _ _ _ _ 5 _ = _; simp [nCol]
  refine lv_iload_n S.1 S.2.1 d_M_place_0 rfl (lv_at hl 1 rfl) ?_
  refine lv_iconst (v := 0) S.1 S.2.1 d_M_place_1 (by decide) ?_
  refine lv_bipush (v := 9) S.1 S.2.1 d_M_place_2 (by decide) ?_
  refine m_ci hw (va_runS (As := [.int w0, .int 0, .int 9]) (rest := []) S (c_M_in l γ M w0 0 9) (m_cwS 3 S g778 g779 g48 g780 rfl rfl ⟨by decide +kernel, by decide +kernel, by decide +kernel⟩ ⟨(Nat.le_of_ble_eq_true rfl), (Nat.le_of_ble_eq_true rfl)⟩) hw.preS rfl rfl hl.1 rfl (lv_room (Nat.le_of_ble_eq_true rfl)) d_M_place_4 ⟨(Nat.zero_le _), (Nat.zero_le _)⟩) (fun r1 M1 H locs hp hw => ?_)
  obtain ⟨rfl, hM1⟩ := hp
  rw [hM1] at hw
  refine lv_if_eq (tgt := 57) S.1 S.2.1 d_M_place_7 rfl (fun h => absurd h (b2i_n0.mpr hv1)) (fun _ => ?_)
  refine lv_iload_n S.1 S.2.1 d_M_place_10 rfl (lv_at hl 3 rfl) ?_
  refine lv_iconst (v := 0) S.1 S.2.1 d_M_place_11 (by decide) ?_
  refine lv_sipush (v := 2000) S.1 S.2.1 d_M_place_12 (by decide) ?_
  refine m_ci hw (va_runS (As := [.int p0, .int 0, .int 2000]) (rest := []) S (c_M_in l γ M p0 0 2000) (m_cwS 3 S g778 g779 g48 g780 rfl rfl ⟨by decide +kernel, by decide +kernel, by decide +kernel⟩ ⟨(Nat.le_of_ble_eq_true rfl), (Nat.le_of_ble_eq_true rfl)⟩) hw.preS rfl rfl hl.1 rfl (lv_room (Nat.le_of_ble_eq_true rfl)) d_M_place_15 ⟨(Nat.zero_le _), (Nat.zero_le _)⟩) (fun r1 M1 H locs hp hw => ?_)
  obtain ⟨rfl, hM1⟩ := hp
  rw [hM1] at hw
  refine lv_if_eq (tgt := 57) S.1 S.2.1 d_M_place_18 rfl (fun h => absurd h (b2i_n0.mpr hv2)) (fun _ => ?_)
  refine lv_iload S.1 S.2.1 d_M_place_21 (lv_at hl 4 rfl) ?_
  refine lv_iconst (v := 1) S.1 S.2.1 d_M_place_23 (by decide) ?_
  refine lv_ldc S.1 S.2.1 S.2.2.2.1 (S.2.2.2.2 _ (gc g781)) d_M_place_24 ?_
  refine m_ci hw (va_runS (As := [.int q0, .int 1, .int 100000]) (rest := []) S (c_M_in l γ M q0 1 100000) (m_cwS 3 S g778 g779 g48 g780 rfl rfl ⟨by decide +kernel, by decide +kernel, by decide +kernel⟩ ⟨(Nat.le_of_ble_eq_true rfl), (Nat.le_of_ble_eq_true rfl)⟩) hw.preS rfl rfl hl.1 rfl (lv_room (Nat.le_of_ble_eq_true rfl)) d_M_place_26 ⟨(Nat.zero_le _), (Nat.zero_le _)⟩) (fun r1 M1 H locs hp hw => ?_)
  obtain ⟨rfl, hM1⟩ := hp
  rw [hM1] at hw
  refine lv_if_eq (tgt := 57) S.1 S.2.1 d_M_place_29 rfl (fun h => absurd h (b2i_n0.mpr hv3)) (fun _ => ?_)
  refine lv_iload S.1 S.2.1 d_M_place_32 (lv_at hl 5 rfl) ?_
  refine lv_iconst (v := 0) S.1 S.2.1 d_M_place_34 (by decide) ?_
  refine lv_ldc S.1 S.2.1 S.2.2.2.1 (S.2.2.2.2 _ (gc g781)) d_M_place_35 ?_
  refine m_ci hw (va_runS (As := [.int k0, .int 0, .int 100000]) (rest := []) S (c_M_in l γ M k0 0 100000) (m_cwS 3 S g778 g779 g48 g780 rfl rfl ⟨by decide +kernel, by decide +kernel, by decide +kernel⟩ ⟨(Nat.le_of_ble_eq_true rfl), (Nat.le_of_ble_eq_true rfl)⟩) hw.preS rfl rfl hl.1 rfl (lv_room (Nat.le_of_ble_eq_true rfl)) d_M_place_37 ⟨(Nat.zero_le _), (Nat.zero_le _)⟩) (fun r1 M1 H locs hp hw => ?_)
  obtain ⟨rfl, hM1⟩ := hp
  rw [hM1] at hw
  refine lv_if_eq (tgt := 57) S.1 S.2.1 d_M_place_40 rfl (fun h => absurd h (b2i_n0.mpr hv4)) (fun _ => ?_)
  refine lv_iload S.1 S.2.1 d_M_place_43 (lv_at hl 6 rfl) ?_
  refine lv_iconst (v := 0) S.1 S.2.1 d_M_place_45 (by decide) ?_
  refine lv_iconst (v := 2) S.1 S.2.1 d_M_place_46 (by decide) ?_
  refine m_ci hw (va_runS (As := [.int f0, .int 0, .int 2]) (rest := []) S (c_M_in l γ M f0 0 2) (m_cwS 3 S g778 g779 g48 g780 rfl rfl ⟨by decide +kernel, by decide +kernel, by decide +kernel⟩ ⟨(Nat.le_of_ble_eq_true rfl), (Nat.le_of_ble_eq_true rfl)⟩) hw.preS rfl rfl hl.1 rfl (lv_room (Nat.le_of_ble_eq_true rfl)) d_M_place_47 ⟨(Nat.zero_le _), (Nat.zero_le _)⟩) (fun r1 M1 H locs hp hw => ?_)
  obtain ⟨rfl, hM1⟩ := hp
  rw [hM1] at hw
  refine lv_if_eq (tgt := 57) S.1 S.2.1 d_M_place_50 rfl (fun h => absurd h (b2i_n0.mpr hv6)) (fun _ => ?_)
  refine lv_iconst (v := 1) S.1 S.2.1 d_M_place_53 (by decide) ?_
  refine lv_goto (tgt := 58) S.1 S.2.1 d_M_place_54 rfl ?_
  refine lv_istore S.1 S.2.1 d_M_place_58 hl (by decide) rfl (fun ls hl => ?_)
  have hl : lv_has ls 10 [(7, .int 1), (0, .ref (rx μ)), (1, .int w0), (2, .int b0), (3, .int p0), (4, .int q0), (5, .int k0), (6, .int f0)] := hl
  refine lv_aload_n S.1 S.2.1 d_M_place_60 rfl (lv_at hl 1 rfl) ?_
  refine lv_iload S.1 S.2.1 d_M_place_61 (lv_at hl 0 rfl) ?_
  refine lv_if_eq (tgt := 86) S.1 S.2.1 d_M_place_63 rfl (fun h => absurd h (show ¬ (1 : Int32) = 0 by decide)) (fun _ => ?_)
  refine lv_iload S.1 S.2.1 d_M_place_66 (lv_at hl 7 rfl) ?_
  refine lv_if_le (tgt := 76) S.1 S.2.1 d_M_place_68 rfl (fun h68 => ?_) (fun h68 => ?_)
  · refine lv_iload S.1 S.2.1 d_M_place_76 (lv_at hl 5 rfl) ?_
    refine lv_iload S.1 S.2.1 d_M_place_78 (lv_at hl 6 rfl) ?_
    refine m_ci hw (va_runS (As := [.int q0, .int k0]) (rest := [.ref (rx μ)]) S (c_M_fitsPeak l γ M q0 k0) (m_cwS 2 S g782 g783 g48 g784 rfl rfl ⟨by decide +kernel, by decide +kernel, by decide +kernel⟩ ⟨(Nat.le_of_ble_eq_true rfl), (Nat.le_of_ble_eq_true rfl)⟩) hw.preS rfl rfl hl.1 rfl (lv_room (Nat.le_of_ble_eq_true rfl)) d_M_place_80 ⟨(Nat.zero_le _), (Nat.zero_le _)⟩) (fun r1 M1 H locs hp hw => ?_)
    obtain ⟨rfl, hM1⟩ := hp
    rw [hM1] at hw
    refine lv_if_ne (tgt := 90) S.1 S.2.1 d_M_place_83 rfl (fun _ => ?_) (fun h => absurd h (b2i_n0.mpr hv5))
    refine lv_iconst (v := 0) S.1 S.2.1 d_M_place_90 (by decide) ?_
    refine m_rput (σ' := σ) (ε' := (0, ε.2.1, ε.2.2.1, ε.2.2.2.1, ε.2.2.2.2.1, ε.2.2.2.2.2)) S hw hR 0 (by decide) g688 rfl rfl rfl d_M_place_91 rfl (fun i hi => rfl) (fun H locs M1 hR hw => ?_)
    refine lv_aload_n S.1 S.2.1 d_M_place_94 rfl (lv_at hl 1 rfl) ?_
    refine m_get S hw cl_M hR.obj 0 (by decide) g688 (fun _ h => h) rfl d_M_place_95 ?_
    refine lv_if_ne (tgt := 141) S.1 S.2.1 d_M_place_98 rfl (fun h => absurd (show (0 : Int32) = 0 by decide) h) (fun _ => ?_)
    refine lv_aload_n S.1 S.2.1 d_M_place_101 rfl (lv_at hl 1 rfl) ?_
    refine lv_aload_n S.1 S.2.1 d_M_place_102 rfl (lv_at hl 1 rfl) ?_
    refine m_get S hw cl_M hR.obj 5 (by decide) g693 (fun _ h => h) rfl d_M_place_103 ?_
    refine lv_sipush (v := 250) S.1 S.2.1 d_M_place_106 (by decide) ?_
    refine lv_icmp_eq (tgt := 133) S.1 S.2.1 d_M_place_109 rfl (fun h => absurd h (fun z => by have h := nI_lt (a := sn σ) (b := 250) hn2 (by decide); rw [z] at h; exact absurd h (by decide))) (fun _ => ?_)
    refine lv_aload_n S.1 S.2.1 d_M_place_112 rfl (lv_at hl 1 rfl) ?_
    refine m_get S hw cl_M hR.obj 1 (by decide) g689 (fun _ h => h) rfl d_M_place_113 ?_
    refine lv_iconst (v := 2) S.1 S.2.1 d_M_place_116 (by decide) ?_
    refine lv_icmp_eq (tgt := 133) S.1 S.2.1 d_M_place_117 rfl (fun h => absurd h hph) (fun _ => ?_)
    refine lv_iload S.1 S.2.1 d_M_place_120 (lv_at hl 7 rfl) ?_
    refine lv_if_le (tgt := 137) S.1 S.2.1 d_M_place_122 rfl (fun h122 => ?_) (fun h122 => ?_)
    · refine lv_iconst (v := 0) S.1 S.2.1 d_M_place_137 (by decide) ?_
      refine m_rput (σ' := σ) (ε' := (0, ε.2.1, ε.2.2.1, ε.2.2.2.1, ε.2.2.2.2.1, ε.2.2.2.2.2)) S hw hR 0 (by decide) g688 rfl rfl rfl d_M_place_138 rfl (fun i hi => rfl) (fun H locs M2 hR hw => ?_)
      refine lv_aload_n S.1 S.2.1 d_M_place_141 rfl (lv_at hl 1 rfl) ?_
      refine m_get S hw cl_M hR.obj 0 (by decide) g688 (fun _ h => h) rfl d_M_place_142 ?_
      refine lv_if_le (tgt := 150) S.1 S.2.1 d_M_place_145 rfl (fun _ => ?_) (fun h => absurd (show (0 : Int32) ≤ 0 by decide) h)
      refine lv_aload_n S.1 S.2.1 d_M_place_150 rfl (lv_at hl 1 rfl) ?_
      refine m_get S hw cl_M hR.obj 5 (by decide) g693 (fun _ h => h) rfl d_M_place_151 ?_
      refine lv_istore S.1 S.2.1 d_M_place_154 hl (by decide) rfl (fun ls hl => ?_)
      have hl : lv_has ls 10 [(8, .int (nI (sn σ))), (7, .int 1), (0, .ref (rx μ)), (1, .int w0), (2, .int b0), (3, .int p0), (4, .int q0), (5, .int k0), (6, .int f0)] := hl
      refine lv_aload_n S.1 S.2.1 d_M_place_156 rfl (lv_at hl 2 rfl) ?_
      refine lv_dup S.1 S.2.1 d_M_place_157 rfl ?_
      refine m_get S hw cl_M hR.obj 5 (by decide) g693 (fun _ h => h) rfl d_M_place_158 ?_
      refine lv_iconst (v := 1) S.1 S.2.1 d_M_place_161 (by decide) ?_
      refine lv_iadd S.1 S.2.1 d_M_place_162 ?_
      refine W.eq (g2 := F0 m 163 ls [.int (nI (sn σ + 1)), .ref (rx μ)]) (congrArg (fun z => F0 m 163 ls [.int z, .ref (rx μ)]) (nI_1 _)) ?_
      refine m_rput (σ' := ((sn σ + 1, sI σ), (sph σ, srf σ, sbd σ, srk σ), stn σ, sT σ, sal σ)) (ε' := (0, ε.2.1, ε.2.2.1, ε.2.2.2.1, ε.2.2.2.2.1, ε.2.2.2.2.2)) S hw hR 5 (by decide) g693 rfl rfl rfl d_M_place_163 rfl (fun i hi => rfl) (fun H locs M3 hR hw => ?_)
      refine lv_aload_n S.1 S.2.1 d_M_place_166 rfl (lv_at hl 2 rfl) ?_
      refine m_get S hw cl_M hR.obj 6 (by decide) g694 (fun _ h => h) rfl d_M_place_167 ?_
      refine lv_iload S.1 S.2.1 d_M_place_170 (lv_at hl 0 rfl) ?_
      refine lv_iload_n S.1 S.2.1 d_M_place_172 rfl (lv_at hl 3 rfl) ?_
      refine m_rst (o := sn σ) (v := w0) S hw hR 0 (by decide) (by omega) d_M_place_173 (fun H locs M4 hR hw => ?_)
      have hR : RQ γ _ M4 μ ((sn σ + 1, s1 (sI σ) 0 (sn σ) w0), (sph σ, srf σ, sbd σ, srk σ), stn σ, sT σ, sal σ) (0, ε.2.1, ε.2.2.1, ε.2.2.2.1, ε.2.2.2.2.1, ε.2.2.2.2.2) := hR
      refine lv_aload_n S.1 S.2.1 d_M_place_174 rfl (lv_at hl 2 rfl) ?_
      refine m_get S hw cl_M hR.obj 7 (by decide) g695 (fun _ h => h) rfl d_M_place_175 ?_
      refine lv_iload S.1 S.2.1 d_M_place_178 (lv_at hl 0 rfl) ?_
      refine lv_iload_n S.1 S.2.1 d_M_place_180 rfl (lv_at hl 4 rfl) ?_
      refine m_rstz (o := sn σ) (v := b0) S hw hR hb0 (by omega) d_M_place_181 (fun H locs M5 hR hw => ?_)
      have hR : RQ γ _ M5 μ ((sn σ + 1, s1 (s1 (sI σ) 0 (sn σ) w0) 1 (sn σ) b0), (sph σ, srf σ, sbd σ, srk σ), stn σ, sT σ, sal σ) (0, ε.2.1, ε.2.2.1, ε.2.2.2.1, ε.2.2.2.2.1, ε.2.2.2.2.2) := hR
      refine lv_aload_n S.1 S.2.1 d_M_place_182 rfl (lv_at hl 2 rfl) ?_
      refine m_get S hw cl_M hR.obj 8 (by decide) g696 (fun _ h => h) rfl d_M_place_183 ?_
      refine lv_iload S.1 S.2.1 d_M_place_186 (lv_at hl 0 rfl) ?_
      refine lv_iload_n S.1 S.2.1 d_M_place_188 rfl (lv_at hl 5 rfl) ?_
      refine m_rst (o := sn σ) (v := p0) S hw hR 2 (by decide) (by omega) d_M_place_189 (fun H locs M6 hR hw => ?_)
      have hR : RQ γ _ M6 μ ((sn σ + 1, s1 (s1 (s1 (sI σ) 0 (sn σ) w0) 1 (sn σ) b0) 2 (sn σ) p0), (sph σ, srf σ, sbd σ, srk σ), stn σ, sT σ, sal σ) (0, ε.2.1, ε.2.2.1, ε.2.2.2.1, ε.2.2.2.2.1, ε.2.2.2.2.2) := hR
      refine lv_aload_n S.1 S.2.1 d_M_place_190 rfl (lv_at hl 2 rfl) ?_
      refine m_get S hw cl_M hR.obj 9 (by decide) g697 (fun _ h => h) rfl d_M_place_191 ?_
      refine lv_iload S.1 S.2.1 d_M_place_194 (lv_at hl 0 rfl) ?_
      refine lv_iload S.1 S.2.1 d_M_place_196 (lv_at hl 6 rfl) ?_
      refine m_rst (o := sn σ) (v := q0) S hw hR 3 (by decide) (by omega) d_M_place_198 (fun H locs M7 hR hw => ?_)
      have hR : RQ γ _ M7 μ ((sn σ + 1, s1 (s1 (s1 (s1 (sI σ) 0 (sn σ) w0) 1 (sn σ) b0) 2 (sn σ) p0) 3 (sn σ) q0), (sph σ, srf σ, sbd σ, srk σ), stn σ, sT σ, sal σ) (0, ε.2.1, ε.2.2.1, ε.2.2.2.1, ε.2.2.2.2.1, ε.2.2.2.2.2) := hR
      refine lv_aload_n S.1 S.2.1 d_M_place_199 rfl (lv_at hl 2 rfl) ?_
      refine m_get S hw cl_M hR.obj 14 (by decide) g702 (fun _ h => h) rfl d_M_place_200 ?_
      refine lv_iload S.1 S.2.1 d_M_place_203 (lv_at hl 0 rfl) ?_
      refine lv_iload S.1 S.2.1 d_M_place_205 (lv_at hl 7 rfl) ?_
      refine m_rst (o := sn σ) (v := k0) S hw hR 8 (by decide) (by omega) d_M_place_207 (fun H locs M8 hR hw => ?_)
      have hR : RQ γ _ M8 μ ((sn σ + 1, s1 (s1 (s1 (s1 (s1 (sI σ) 0 (sn σ) w0) 1 (sn σ) b0) 2 (sn σ) p0) 3 (sn σ) q0) 8 (sn σ) k0), (sph σ, srf σ, sbd σ, srk σ), stn σ, sT σ, sal σ) (0, ε.2.1, ε.2.2.1, ε.2.2.2.1, ε.2.2.2.2.1, ε.2.2.2.2.2) := hR
      refine lv_aload_n S.1 S.2.1 d_M_place_208 rfl (lv_at hl 2 rfl) ?_
      refine m_get S hw cl_M hR.obj 12 (by decide) g700 (fun _ h => h) rfl d_M_place_209 ?_
      refine lv_iload S.1 S.2.1 d_M_place_212 (lv_at hl 0 rfl) ?_
      refine lv_iload S.1 S.2.1 d_M_place_214 (lv_at hl 8 rfl) ?_
      refine m_rst (o := sn σ) (v := f0) S hw hR 6 (by decide) (by omega) d_M_place_216 (fun H locs M9 hR hw => ?_)
      have hR : RQ γ _ M9 μ ((sn σ + 1, s1 (s1 (s1 (s1 (s1 (s1 (sI σ) 0 (sn σ) w0) 1 (sn σ) b0) 2 (sn σ) p0) 3 (sn σ) q0) 8 (sn σ) k0) 6 (sn σ) f0), (sph σ, srf σ, sbd σ, srk σ), stn σ, sT σ, sal σ) (0, ε.2.1, ε.2.2.1, ε.2.2.2.1, ε.2.2.2.2.1, ε.2.2.2.2.2) := hR
      refine lv_aload_n S.1 S.2.1 d_M_place_217 rfl (lv_at hl 2 rfl) ?_
      refine m_get S hw cl_M hR.obj 11 (by decide) g699 (fun _ h => h) rfl d_M_place_218 ?_
      refine lv_iload S.1 S.2.1 d_M_place_221 (lv_at hl 0 rfl) ?_
      refine lv_iconst (v := (-1)) S.1 S.2.1 d_M_place_223 (by decide) ?_
      refine m_rst (o := sn σ) (v := (-1)) S hw hR 5 (by decide) (by omega) d_M_place_224 (fun H locs M10 hR hw => ?_)
      have hR : RQ γ _ M10 μ ((sn σ + 1, s1 (s1 (s1 (s1 (s1 (s1 (s1 (sI σ) 0 (sn σ) w0) 1 (sn σ) b0) 2 (sn σ) p0) 3 (sn σ) q0) 8 (sn σ) k0) 6 (sn σ) f0) 5 (sn σ) (-1)), (sph σ, srf σ, sbd σ, srk σ), stn σ, sT σ, sal σ) (0, ε.2.1, ε.2.2.1, ε.2.2.2.1, ε.2.2.2.2.1, ε.2.2.2.2.2) := hR
      have hR : RQ γ _ M10 μ (xNew σ w0 b0 p0 q0 k0 f0) (0, ε.2) := hR.cong (new_cols ht4 ht7)
      refine lv_aload_n S.1 S.2.1 d_M_place_225 rfl (lv_at hl 2 rfl) ?_
      refine lv_iload S.1 S.2.1 d_M_place_226 (lv_at hl 0 rfl) ?_
      refine m_ci hw (va_runV (As := [.int (nI (sn σ))]) (rest := []) S (c_M_comes l γ M10 μ (xNew σ w0 b0 p0 q0 k0 f0) (0, ε.2) hR.1 L hI1 hL1 hB (sn σ) (Nat.lt_succ_self _) hq5 (by rw [hq3]; omega) (by rw [hq3]; omega) hrk σ' hfin hT) (m_cwV 1 S g785 g787 g24 g48 g788 rfl rfl ⟨by decide +kernel, by decide +kernel, by decide +kernel⟩ ⟨(Nat.le_of_ble_eq_true rfl), (Nat.le_of_ble_eq_true rfl)⟩) (hw.preV hR.obj cl_M.1) rfl rfl hl.1 rfl (lv_room (Nat.le_of_ble_eq_true rfl)) d_M_place_228 ⟨(Nat.zero_le _), (Nat.zero_le _)⟩) (fun r1 M11 H locs hp hw => ?_)
      obtain ⟨hr1, hp⟩ := hp
      have hR := hp.tr hR
      refine lv_istore S.1 S.2.1 d_M_place_231 hl (by decide) rfl (fun ls hl => ?_)
      have hl : lv_has ls 10 [(9, .int r1), (8, .int (nI (sn σ))), (7, .int 1), (0, .ref (rx μ)), (1, .int w0), (2, .int b0), (3, .int p0), (4, .int q0), (5, .int k0), (6, .int f0)] := hl
      refine lv_iload S.1 S.2.1 d_M_place_233 (lv_at hl 1 rfl) ?_
      exact m_iret S hlk hr rfl hw (⟨rfl, hR⟩) (Nat.le_refl _) (Nat.le_refl _) d_M_place_235
    · refine lv_aload_n S.1 S.2.1 d_M_place_125 rfl (lv_at hl 1 rfl) ?_
      refine m_get S hw cl_M hR.obj 1 (by decide) g689 (fun _ h => h) rfl d_M_place_126 ?_
      refine lv_iconst (v := 1) S.1 S.2.1 d_M_place_129 (by decide) ?_
      refine lv_icmp_eq (tgt := 137) S.1 S.2.1 d_M_place_130 rfl (fun _ => ?_) (fun h => absurd (hte.resolve_left (fun z => by subst z; exact absurd (Int32.not_le.mp h122) (by decide))) h)
      refine lv_iconst (v := 0) S.1 S.2.1 d_M_place_137 (by decide) ?_
      refine m_rput (σ' := σ) (ε' := (0, ε.2.1, ε.2.2.1, ε.2.2.2.1, ε.2.2.2.2.1, ε.2.2.2.2.2)) S hw hR 0 (by decide) g688 rfl rfl rfl d_M_place_138 rfl (fun i hi => rfl) (fun H locs M12 hR hw => ?_)
      refine lv_aload_n S.1 S.2.1 d_M_place_141 rfl (lv_at hl 1 rfl) ?_
      refine m_get S hw cl_M hR.obj 0 (by decide) g688 (fun _ h => h) rfl d_M_place_142 ?_
      refine lv_if_le (tgt := 150) S.1 S.2.1 d_M_place_145 rfl (fun _ => ?_) (fun h => absurd (show (0 : Int32) ≤ 0 by decide) h)
      refine lv_aload_n S.1 S.2.1 d_M_place_150 rfl (lv_at hl 1 rfl) ?_
      refine m_get S hw cl_M hR.obj 5 (by decide) g693 (fun _ h => h) rfl d_M_place_151 ?_
      refine lv_istore S.1 S.2.1 d_M_place_154 hl (by decide) rfl (fun ls hl => ?_)
      have hl : lv_has ls 10 [(8, .int (nI (sn σ))), (7, .int 1), (0, .ref (rx μ)), (1, .int w0), (2, .int b0), (3, .int p0), (4, .int q0), (5, .int k0), (6, .int f0)] := hl
      refine lv_aload_n S.1 S.2.1 d_M_place_156 rfl (lv_at hl 2 rfl) ?_
      refine lv_dup S.1 S.2.1 d_M_place_157 rfl ?_
      refine m_get S hw cl_M hR.obj 5 (by decide) g693 (fun _ h => h) rfl d_M_place_158 ?_
      refine lv_iconst (v := 1) S.1 S.2.1 d_M_place_161 (by decide) ?_
      refine lv_iadd S.1 S.2.1 d_M_place_162 ?_
      refine W.eq (g2 := F0 m 163 ls [.int (nI (sn σ + 1)), .ref (rx μ)]) (congrArg (fun z => F0 m 163 ls [.int z, .ref (rx μ)]) (nI_1 _)) ?_
      refine m_rput (σ' := ((sn σ + 1, sI σ), (sph σ, srf σ, sbd σ, srk σ), stn σ, sT σ, sal σ)) (ε' := (0, ε.2.1, ε.2.2.1, ε.2.2.2.1, ε.2.2.2.2.1, ε.2.2.2.2.2)) S hw hR 5 (by decide) g693 rfl rfl rfl d_M_place_163 rfl (fun i hi => rfl) (fun H locs M13 hR hw => ?_)
      refine lv_aload_n S.1 S.2.1 d_M_place_166 rfl (lv_at hl 2 rfl) ?_
      refine m_get S hw cl_M hR.obj 6 (by decide) g694 (fun _ h => h) rfl d_M_place_167 ?_
      refine lv_iload S.1 S.2.1 d_M_place_170 (lv_at hl 0 rfl) ?_
      refine lv_iload_n S.1 S.2.1 d_M_place_172 rfl (lv_at hl 3 rfl) ?_
      refine m_rst (o := sn σ) (v := w0) S hw hR 0 (by decide) (by omega) d_M_place_173 (fun H locs M14 hR hw => ?_)
      have hR : RQ γ _ M14 μ ((sn σ + 1, s1 (sI σ) 0 (sn σ) w0), (sph σ, srf σ, sbd σ, srk σ), stn σ, sT σ, sal σ) (0, ε.2.1, ε.2.2.1, ε.2.2.2.1, ε.2.2.2.2.1, ε.2.2.2.2.2) := hR
      refine lv_aload_n S.1 S.2.1 d_M_place_174 rfl (lv_at hl 2 rfl) ?_
      refine m_get S hw cl_M hR.obj 7 (by decide) g695 (fun _ h => h) rfl d_M_place_175 ?_
      refine lv_iload S.1 S.2.1 d_M_place_178 (lv_at hl 0 rfl) ?_
      refine lv_iload_n S.1 S.2.1 d_M_place_180 rfl (lv_at hl 4 rfl) ?_
      refine m_rstz (o := sn σ) (v := b0) S hw hR hb0 (by omega) d_M_place_181 (fun H locs M15 hR hw => ?_)
      have hR : RQ γ _ M15 μ ((sn σ + 1, s1 (s1 (sI σ) 0 (sn σ) w0) 1 (sn σ) b0), (sph σ, srf σ, sbd σ, srk σ), stn σ, sT σ, sal σ) (0, ε.2.1, ε.2.2.1, ε.2.2.2.1, ε.2.2.2.2.1, ε.2.2.2.2.2) := hR
      refine lv_aload_n S.1 S.2.1 d_M_place_182 rfl (lv_at hl 2 rfl) ?_
      refine m_get S hw cl_M hR.obj 8 (by decide) g696 (fun _ h => h) rfl d_M_place_183 ?_
      refine lv_iload S.1 S.2.1 d_M_place_186 (lv_at hl 0 rfl) ?_
      refine lv_iload_n S.1 S.2.1 d_M_place_188 rfl (lv_at hl 5 rfl) ?_
      refine m_rst (o := sn σ) (v := p0) S hw hR 2 (by decide) (by omega) d_M_place_189 (fun H locs M16 hR hw => ?_)
      have hR : RQ γ _ M16 μ ((sn σ + 1, s1 (s1 (s1 (sI σ) 0 (sn σ) w0) 1 (sn σ) b0) 2 (sn σ) p0), (sph σ, srf σ, sbd σ, srk σ), stn σ, sT σ, sal σ) (0, ε.2.1, ε.2.2.1, ε.2.2.2.1, ε.2.2.2.2.1, ε.2.2.2.2.2) := hR
      refine lv_aload_n S.1 S.2.1 d_M_place_190 rfl (lv_at hl 2 rfl) ?_
      refine m_get S hw cl_M hR.obj 9 (by decide) g697 (fun _ h => h) rfl d_M_place_191 ?_
      refine lv_iload S.1 S.2.1 d_M_place_194 (lv_at hl 0 rfl) ?_
      refine lv_iload S.1 S.2.1 d_M_place_196 (lv_at hl 6 rfl) ?_
      refine m_rst (o := sn σ) (v := q0) S hw hR 3 (by decide) (by omega) d_M_place_198 (fun H locs M17 hR hw => ?_)
      have hR : RQ γ _ M17 μ ((sn σ + 1, s1 (s1 (s1 (s1 (sI σ) 0 (sn σ) w0) 1 (sn σ) b0) 2 (sn σ) p0) 3 (sn σ) q0), (sph σ, srf σ, sbd σ, srk σ), stn σ, sT σ, sal σ) (0, ε.2.1, ε.2.2.1, ε.2.2.2.1, ε.2.2.2.2.1, ε.2.2.2.2.2) := hR
      refine lv_aload_n S.1 S.2.1 d_M_place_199 rfl (lv_at hl 2 rfl) ?_
      refine m_get S hw cl_M hR.obj 14 (by decide) g702 (fun _ h => h) rfl d_M_place_200 ?_
      refine lv_iload S.1 S.2.1 d_M_place_203 (lv_at hl 0 rfl) ?_
      refine lv_iload S.1 S.2.1 d_M_place_205 (lv_at hl 7 rfl) ?_
      refine m_rst (o := sn σ) (v := k0) S hw hR 8 (by decide) (by omega) d_M_place_207 (fun H locs M18 hR hw => ?_)
      have hR : RQ γ _ M18 μ ((sn σ + 1, s1 (s1 (s1 (s1 (s1 (sI σ) 0 (sn σ) w0) 1 (sn σ) b0) 2 (sn σ) p0) 3 (sn σ) q0) 8 (sn σ) k0), (sph σ, srf σ, sbd σ, srk σ), stn σ, sT σ, sal σ) (0, ε.2.1, ε.2.2.1, ε.2.2.2.1, ε.2.2.2.2.1, ε.2.2.2.2.2) := hR
      refine lv_aload_n S.1 S.2.1 d_M_place_208 rfl (lv_at hl 2 rfl) ?_
      refine m_get S hw cl_M hR.obj 12 (by decide) g700 (fun _ h => h) rfl d_M_place_209 ?_
      refine lv_iload S.1 S.2.1 d_M_place_212 (lv_at hl 0 rfl) ?_
      refine lv_iload S.1 S.2.1 d_M_place_214 (lv_at hl 8 rfl) ?_
      refine m_rst (o := sn σ) (v := f0) S hw hR 6 (by decide) (by omega) d_M_place_216 (fun H locs M19 hR hw => ?_)
      have hR : RQ γ _ M19 μ ((sn σ + 1, s1 (s1 (s1 (s1 (s1 (s1 (sI σ) 0 (sn σ) w0) 1 (sn σ) b0) 2 (sn σ) p0) 3 (sn σ) q0) 8 (sn σ) k0) 6 (sn σ) f0), (sph σ, srf σ, sbd σ, srk σ), stn σ, sT σ, sal σ) (0, ε.2.1, ε.2.2.1, ε.2.2.2.1, ε.2.2.2.2.1, ε.2.2.2.2.2) := hR
      refine lv_aload_n S.1 S.2.1 d_M_place_217 rfl (lv_at hl 2 rfl) ?_
      refine m_get S hw cl_M hR.obj 11 (by decide) g699 (fun _ h => h) rfl d_M_place_218 ?_
      refine lv_iload S.1 S.2.1 d_M_place_221 (lv_at hl 0 rfl) ?_
      refine lv_iconst (v := (-1)) S.1 S.2.1 d_M_place_223 (by decide) ?_
      refine m_rst (o := sn σ) (v := (-1)) S hw hR 5 (by decide) (by omega) d_M_place_224 (fun H locs M20 hR hw => ?_)
      have hR : RQ γ _ M20 μ ((sn σ + 1, s1 (s1 (s1 (s1 (s1 (s1 (s1 (sI σ) 0 (sn σ) w0) 1 (sn σ) b0) 2 (sn σ) p0) 3 (sn σ) q0) 8 (sn σ) k0) 6 (sn σ) f0) 5 (sn σ) (-1)), (sph σ, srf σ, sbd σ, srk σ), stn σ, sT σ, sal σ) (0, ε.2.1, ε.2.2.1, ε.2.2.2.1, ε.2.2.2.2.1, ε.2.2.2.2.2) := hR
      have hR : RQ γ _ M20 μ (xNew σ w0 b0 p0 q0 k0 f0) (0, ε.2) := hR.cong (new_cols ht4 ht7)
      refine lv_aload_n S.1 S.2.1 d_M_place_225 rfl (lv_at hl 2 rfl) ?_
      refine lv_iload S.1 S.2.1 d_M_place_226 (lv_at hl 0 rfl) ?_
      refine m_ci hw (va_runV (As := [.int (nI (sn σ))]) (rest := []) S (c_M_comes l γ M20 μ (xNew σ w0 b0 p0 q0 k0 f0) (0, ε.2) hR.1 L hI1 hL1 hB (sn σ) (Nat.lt_succ_self _) hq5 (by rw [hq3]; omega) (by rw [hq3]; omega) hrk σ' hfin hT) (m_cwV 1 S g785 g787 g24 g48 g788 rfl rfl ⟨by decide +kernel, by decide +kernel, by decide +kernel⟩ ⟨(Nat.le_of_ble_eq_true rfl), (Nat.le_of_ble_eq_true rfl)⟩) (hw.preV hR.obj cl_M.1) rfl rfl hl.1 rfl (lv_room (Nat.le_of_ble_eq_true rfl)) d_M_place_228 ⟨(Nat.zero_le _), (Nat.zero_le _)⟩) (fun r1 M21 H locs hp hw => ?_)
      obtain ⟨hr1, hp⟩ := hp
      have hR := hp.tr hR
      refine lv_istore S.1 S.2.1 d_M_place_231 hl (by decide) rfl (fun ls hl => ?_)
      have hl : lv_has ls 10 [(9, .int r1), (8, .int (nI (sn σ))), (7, .int 1), (0, .ref (rx μ)), (1, .int w0), (2, .int b0), (3, .int p0), (4, .int q0), (5, .int k0), (6, .int f0)] := hl
      refine lv_iload S.1 S.2.1 d_M_place_233 (lv_at hl 1 rfl) ?_
      exact m_iret S hlk hr rfl hw (⟨rfl, hR⟩) (Nat.le_refl _) (Nat.le_refl _) d_M_place_235
  · refine lv_iload S.1 S.2.1 d_M_place_71 (lv_at hl 6 rfl) ?_
    refine lv_if_gt (tgt := 86) S.1 S.2.1 d_M_place_73 rfl (fun h => absurd h (fun z => by rcases hv7 with e | e <;> subst e <;> first | exact absurd z (by decide) | exact absurd (Int32.not_le.mp h68) (by decide))) (fun _ => ?_)
    refine lv_iload S.1 S.2.1 d_M_place_76 (lv_at hl 5 rfl) ?_
    refine lv_iload S.1 S.2.1 d_M_place_78 (lv_at hl 6 rfl) ?_
    refine m_ci hw (va_runS (As := [.int q0, .int k0]) (rest := [.ref (rx μ)]) S (c_M_fitsPeak l γ M q0 k0) (m_cwS 2 S g782 g783 g48 g784 rfl rfl ⟨by decide +kernel, by decide +kernel, by decide +kernel⟩ ⟨(Nat.le_of_ble_eq_true rfl), (Nat.le_of_ble_eq_true rfl)⟩) hw.preS rfl rfl hl.1 rfl (lv_room (Nat.le_of_ble_eq_true rfl)) d_M_place_80 ⟨(Nat.zero_le _), (Nat.zero_le _)⟩) (fun r1 M1 H locs hp hw => ?_)
    obtain ⟨rfl, hM1⟩ := hp
    rw [hM1] at hw
    refine lv_if_ne (tgt := 90) S.1 S.2.1 d_M_place_83 rfl (fun _ => ?_) (fun h => absurd h (b2i_n0.mpr hv5))
    refine lv_iconst (v := 0) S.1 S.2.1 d_M_place_90 (by decide) ?_
    refine m_rput (σ' := σ) (ε' := (0, ε.2.1, ε.2.2.1, ε.2.2.2.1, ε.2.2.2.2.1, ε.2.2.2.2.2)) S hw hR 0 (by decide) g688 rfl rfl rfl d_M_place_91 rfl (fun i hi => rfl) (fun H locs M22 hR hw => ?_)
    refine lv_aload_n S.1 S.2.1 d_M_place_94 rfl (lv_at hl 1 rfl) ?_
    refine m_get S hw cl_M hR.obj 0 (by decide) g688 (fun _ h => h) rfl d_M_place_95 ?_
    refine lv_if_ne (tgt := 141) S.1 S.2.1 d_M_place_98 rfl (fun h => absurd (show (0 : Int32) = 0 by decide) h) (fun _ => ?_)
    refine lv_aload_n S.1 S.2.1 d_M_place_101 rfl (lv_at hl 1 rfl) ?_
    refine lv_aload_n S.1 S.2.1 d_M_place_102 rfl (lv_at hl 1 rfl) ?_
    refine m_get S hw cl_M hR.obj 5 (by decide) g693 (fun _ h => h) rfl d_M_place_103 ?_
    refine lv_sipush (v := 250) S.1 S.2.1 d_M_place_106 (by decide) ?_
    refine lv_icmp_eq (tgt := 133) S.1 S.2.1 d_M_place_109 rfl (fun h => absurd h (fun z => by have h := nI_lt (a := sn σ) (b := 250) hn2 (by decide); rw [z] at h; exact absurd h (by decide))) (fun _ => ?_)
    refine lv_aload_n S.1 S.2.1 d_M_place_112 rfl (lv_at hl 1 rfl) ?_
    refine m_get S hw cl_M hR.obj 1 (by decide) g689 (fun _ h => h) rfl d_M_place_113 ?_
    refine lv_iconst (v := 2) S.1 S.2.1 d_M_place_116 (by decide) ?_
    refine lv_icmp_eq (tgt := 133) S.1 S.2.1 d_M_place_117 rfl (fun h => absurd h hph) (fun _ => ?_)
    refine lv_iload S.1 S.2.1 d_M_place_120 (lv_at hl 7 rfl) ?_
    refine lv_if_le (tgt := 137) S.1 S.2.1 d_M_place_122 rfl (fun h122 => ?_) (fun h122 => ?_)
    · refine lv_iconst (v := 0) S.1 S.2.1 d_M_place_137 (by decide) ?_
      refine m_rput (σ' := σ) (ε' := (0, ε.2.1, ε.2.2.1, ε.2.2.2.1, ε.2.2.2.2.1, ε.2.2.2.2.2)) S hw hR 0 (by decide) g688 rfl rfl rfl d_M_place_138 rfl (fun i hi => rfl) (fun H locs M23 hR hw => ?_)
      refine lv_aload_n S.1 S.2.1 d_M_place_141 rfl (lv_at hl 1 rfl) ?_
      refine m_get S hw cl_M hR.obj 0 (by decide) g688 (fun _ h => h) rfl d_M_place_142 ?_
      refine lv_if_le (tgt := 150) S.1 S.2.1 d_M_place_145 rfl (fun _ => ?_) (fun h => absurd (show (0 : Int32) ≤ 0 by decide) h)
      refine lv_aload_n S.1 S.2.1 d_M_place_150 rfl (lv_at hl 1 rfl) ?_
      refine m_get S hw cl_M hR.obj 5 (by decide) g693 (fun _ h => h) rfl d_M_place_151 ?_
      refine lv_istore S.1 S.2.1 d_M_place_154 hl (by decide) rfl (fun ls hl => ?_)
      have hl : lv_has ls 10 [(8, .int (nI (sn σ))), (7, .int 1), (0, .ref (rx μ)), (1, .int w0), (2, .int b0), (3, .int p0), (4, .int q0), (5, .int k0), (6, .int f0)] := hl
      refine lv_aload_n S.1 S.2.1 d_M_place_156 rfl (lv_at hl 2 rfl) ?_
      refine lv_dup S.1 S.2.1 d_M_place_157 rfl ?_
      refine m_get S hw cl_M hR.obj 5 (by decide) g693 (fun _ h => h) rfl d_M_place_158 ?_
      refine lv_iconst (v := 1) S.1 S.2.1 d_M_place_161 (by decide) ?_
      refine lv_iadd S.1 S.2.1 d_M_place_162 ?_
      refine W.eq (g2 := F0 m 163 ls [.int (nI (sn σ + 1)), .ref (rx μ)]) (congrArg (fun z => F0 m 163 ls [.int z, .ref (rx μ)]) (nI_1 _)) ?_
      refine m_rput (σ' := ((sn σ + 1, sI σ), (sph σ, srf σ, sbd σ, srk σ), stn σ, sT σ, sal σ)) (ε' := (0, ε.2.1, ε.2.2.1, ε.2.2.2.1, ε.2.2.2.2.1, ε.2.2.2.2.2)) S hw hR 5 (by decide) g693 rfl rfl rfl d_M_place_163 rfl (fun i hi => rfl) (fun H locs M24 hR hw => ?_)
      refine lv_aload_n S.1 S.2.1 d_M_place_166 rfl (lv_at hl 2 rfl) ?_
      refine m_get S hw cl_M hR.obj 6 (by decide) g694 (fun _ h => h) rfl d_M_place_167 ?_
      refine lv_iload S.1 S.2.1 d_M_place_170 (lv_at hl 0 rfl) ?_
      refine lv_iload_n S.1 S.2.1 d_M_place_172 rfl (lv_at hl 3 rfl) ?_
      refine m_rst (o := sn σ) (v := w0) S hw hR 0 (by decide) (by omega) d_M_place_173 (fun H locs M25 hR hw => ?_)
      have hR : RQ γ _ M25 μ ((sn σ + 1, s1 (sI σ) 0 (sn σ) w0), (sph σ, srf σ, sbd σ, srk σ), stn σ, sT σ, sal σ) (0, ε.2.1, ε.2.2.1, ε.2.2.2.1, ε.2.2.2.2.1, ε.2.2.2.2.2) := hR
      refine lv_aload_n S.1 S.2.1 d_M_place_174 rfl (lv_at hl 2 rfl) ?_
      refine m_get S hw cl_M hR.obj 7 (by decide) g695 (fun _ h => h) rfl d_M_place_175 ?_
      refine lv_iload S.1 S.2.1 d_M_place_178 (lv_at hl 0 rfl) ?_
      refine lv_iload_n S.1 S.2.1 d_M_place_180 rfl (lv_at hl 4 rfl) ?_
      refine m_rstz (o := sn σ) (v := b0) S hw hR hb0 (by omega) d_M_place_181 (fun H locs M26 hR hw => ?_)
      have hR : RQ γ _ M26 μ ((sn σ + 1, s1 (s1 (sI σ) 0 (sn σ) w0) 1 (sn σ) b0), (sph σ, srf σ, sbd σ, srk σ), stn σ, sT σ, sal σ) (0, ε.2.1, ε.2.2.1, ε.2.2.2.1, ε.2.2.2.2.1, ε.2.2.2.2.2) := hR
      refine lv_aload_n S.1 S.2.1 d_M_place_182 rfl (lv_at hl 2 rfl) ?_
      refine m_get S hw cl_M hR.obj 8 (by decide) g696 (fun _ h => h) rfl d_M_place_183 ?_
      refine lv_iload S.1 S.2.1 d_M_place_186 (lv_at hl 0 rfl) ?_
      refine lv_iload_n S.1 S.2.1 d_M_place_188 rfl (lv_at hl 5 rfl) ?_
      refine m_rst (o := sn σ) (v := p0) S hw hR 2 (by decide) (by omega) d_M_place_189 (fun H locs M27 hR hw => ?_)
      have hR : RQ γ _ M27 μ ((sn σ + 1, s1 (s1 (s1 (sI σ) 0 (sn σ) w0) 1 (sn σ) b0) 2 (sn σ) p0), (sph σ, srf σ, sbd σ, srk σ), stn σ, sT σ, sal σ) (0, ε.2.1, ε.2.2.1, ε.2.2.2.1, ε.2.2.2.2.1, ε.2.2.2.2.2) := hR
      refine lv_aload_n S.1 S.2.1 d_M_place_190 rfl (lv_at hl 2 rfl) ?_
      refine m_get S hw cl_M hR.obj 9 (by decide) g697 (fun _ h => h) rfl d_M_place_191 ?_
      refine lv_iload S.1 S.2.1 d_M_place_194 (lv_at hl 0 rfl) ?_
      refine lv_iload S.1 S.2.1 d_M_place_196 (lv_at hl 6 rfl) ?_
      refine m_rst (o := sn σ) (v := q0) S hw hR 3 (by decide) (by omega) d_M_place_198 (fun H locs M28 hR hw => ?_)
      have hR : RQ γ _ M28 μ ((sn σ + 1, s1 (s1 (s1 (s1 (sI σ) 0 (sn σ) w0) 1 (sn σ) b0) 2 (sn σ) p0) 3 (sn σ) q0), (sph σ, srf σ, sbd σ, srk σ), stn σ, sT σ, sal σ) (0, ε.2.1, ε.2.2.1, ε.2.2.2.1, ε.2.2.2.2.1, ε.2.2.2.2.2) := hR
      refine lv_aload_n S.1 S.2.1 d_M_place_199 rfl (lv_at hl 2 rfl) ?_
      refine m_get S hw cl_M hR.obj 14 (by decide) g702 (fun _ h => h) rfl d_M_place_200 ?_
      refine lv_iload S.1 S.2.1 d_M_place_203 (lv_at hl 0 rfl) ?_
      refine lv_iload S.1 S.2.1 d_M_place_205 (lv_at hl 7 rfl) ?_
      refine m_rst (o := sn σ) (v := k0) S hw hR 8 (by decide) (by omega) d_M_place_207 (fun H locs M29 hR hw => ?_)
      have hR : RQ γ _ M29 μ ((sn σ + 1, s1 (s1 (s1 (s1 (s1 (sI σ) 0 (sn σ) w0) 1 (sn σ) b0) 2 (sn σ) p0) 3 (sn σ) q0) 8 (sn σ) k0), (sph σ, srf σ, sbd σ, srk σ), stn σ, sT σ, sal σ) (0, ε.2.1, ε.2.2.1, ε.2.2.2.1, ε.2.2.2.2.1, ε.2.2.2.2.2) := hR
      refine lv_aload_n S.1 S.2.1 d_M_place_208 rfl (lv_at hl 2 rfl) ?_
      refine m_get S hw cl_M hR.obj 12 (by decide) g700 (fun _ h => h) rfl d_M_place_209 ?_
      refine lv_iload S.1 S.2.1 d_M_place_212 (lv_at hl 0 rfl) ?_
      refine lv_iload S.1 S.2.1 d_M_place_214 (lv_at hl 8 rfl) ?_
      refine m_rst (o := sn σ) (v := f0) S hw hR 6 (by decide) (by omega) d_M_place_216 (fun H locs M30 hR hw => ?_)
      have hR : RQ γ _ M30 μ ((sn σ + 1, s1 (s1 (s1 (s1 (s1 (s1 (sI σ) 0 (sn σ) w0) 1 (sn σ) b0) 2 (sn σ) p0) 3 (sn σ) q0) 8 (sn σ) k0) 6 (sn σ) f0), (sph σ, srf σ, sbd σ, srk σ), stn σ, sT σ, sal σ) (0, ε.2.1, ε.2.2.1, ε.2.2.2.1, ε.2.2.2.2.1, ε.2.2.2.2.2) := hR
      refine lv_aload_n S.1 S.2.1 d_M_place_217 rfl (lv_at hl 2 rfl) ?_
      refine m_get S hw cl_M hR.obj 11 (by decide) g699 (fun _ h => h) rfl d_M_place_218 ?_
      refine lv_iload S.1 S.2.1 d_M_place_221 (lv_at hl 0 rfl) ?_
      refine lv_iconst (v := (-1)) S.1 S.2.1 d_M_place_223 (by decide) ?_
      refine m_rst (o := sn σ) (v := (-1)) S hw hR 5 (by decide) (by omega) d_M_place_224 (fun H locs M31 hR hw => ?_)
      have hR : RQ γ _ M31 μ ((sn σ + 1, s1 (s1 (s1 (s1 (s1 (s1 (s1 (sI σ) 0 (sn σ) w0) 1 (sn σ) b0) 2 (sn σ) p0) 3 (sn σ) q0) 8 (sn σ) k0) 6 (sn σ) f0) 5 (sn σ) (-1)), (sph σ, srf σ, sbd σ, srk σ), stn σ, sT σ, sal σ) (0, ε.2.1, ε.2.2.1, ε.2.2.2.1, ε.2.2.2.2.1, ε.2.2.2.2.2) := hR
      have hR : RQ γ _ M31 μ (xNew σ w0 b0 p0 q0 k0 f0) (0, ε.2) := hR.cong (new_cols ht4 ht7)
      refine lv_aload_n S.1 S.2.1 d_M_place_225 rfl (lv_at hl 2 rfl) ?_
      refine lv_iload S.1 S.2.1 d_M_place_226 (lv_at hl 0 rfl) ?_
      refine m_ci hw (va_runV (As := [.int (nI (sn σ))]) (rest := []) S (c_M_comes l γ M31 μ (xNew σ w0 b0 p0 q0 k0 f0) (0, ε.2) hR.1 L hI1 hL1 hB (sn σ) (Nat.lt_succ_self _) hq5 (by rw [hq3]; omega) (by rw [hq3]; omega) hrk σ' hfin hT) (m_cwV 1 S g785 g787 g24 g48 g788 rfl rfl ⟨by decide +kernel, by decide +kernel, by decide +kernel⟩ ⟨(Nat.le_of_ble_eq_true rfl), (Nat.le_of_ble_eq_true rfl)⟩) (hw.preV hR.obj cl_M.1) rfl rfl hl.1 rfl (lv_room (Nat.le_of_ble_eq_true rfl)) d_M_place_228 ⟨(Nat.zero_le _), (Nat.zero_le _)⟩) (fun r1 M32 H locs hp hw => ?_)
      obtain ⟨hr1, hp⟩ := hp
      have hR := hp.tr hR
      refine lv_istore S.1 S.2.1 d_M_place_231 hl (by decide) rfl (fun ls hl => ?_)
      have hl : lv_has ls 10 [(9, .int r1), (8, .int (nI (sn σ))), (7, .int 1), (0, .ref (rx μ)), (1, .int w0), (2, .int b0), (3, .int p0), (4, .int q0), (5, .int k0), (6, .int f0)] := hl
      refine lv_iload S.1 S.2.1 d_M_place_233 (lv_at hl 1 rfl) ?_
      exact m_iret S hlk hr rfl hw (⟨rfl, hR⟩) (Nat.le_refl _) (Nat.le_refl _) d_M_place_235
    · refine lv_aload_n S.1 S.2.1 d_M_place_125 rfl (lv_at hl 1 rfl) ?_
      refine m_get S hw cl_M hR.obj 1 (by decide) g689 (fun _ h => h) rfl d_M_place_126 ?_
      refine lv_iconst (v := 1) S.1 S.2.1 d_M_place_129 (by decide) ?_
      refine lv_icmp_eq (tgt := 137) S.1 S.2.1 d_M_place_130 rfl (fun _ => ?_) (fun h => absurd (hte.resolve_left (fun z => by subst z; exact absurd (Int32.not_le.mp h122) (by decide))) h)
      refine lv_iconst (v := 0) S.1 S.2.1 d_M_place_137 (by decide) ?_
      refine m_rput (σ' := σ) (ε' := (0, ε.2.1, ε.2.2.1, ε.2.2.2.1, ε.2.2.2.2.1, ε.2.2.2.2.2)) S hw hR 0 (by decide) g688 rfl rfl rfl d_M_place_138 rfl (fun i hi => rfl) (fun H locs M33 hR hw => ?_)
      refine lv_aload_n S.1 S.2.1 d_M_place_141 rfl (lv_at hl 1 rfl) ?_
      refine m_get S hw cl_M hR.obj 0 (by decide) g688 (fun _ h => h) rfl d_M_place_142 ?_
      refine lv_if_le (tgt := 150) S.1 S.2.1 d_M_place_145 rfl (fun _ => ?_) (fun h => absurd (show (0 : Int32) ≤ 0 by decide) h)
      refine lv_aload_n S.1 S.2.1 d_M_place_150 rfl (lv_at hl 1 rfl) ?_
      refine m_get S hw cl_M hR.obj 5 (by decide) g693 (fun _ h => h) rfl d_M_place_151 ?_
      refine lv_istore S.1 S.2.1 d_M_place_154 hl (by decide) rfl (fun ls hl => ?_)
      have hl : lv_has ls 10 [(8, .int (nI (sn σ))), (7, .int 1), (0, .ref (rx μ)), (1, .int w0), (2, .int b0), (3, .int p0), (4, .int q0), (5, .int k0), (6, .int f0)] := hl
      refine lv_aload_n S.1 S.2.1 d_M_place_156 rfl (lv_at hl 2 rfl) ?_
      refine lv_dup S.1 S.2.1 d_M_place_157 rfl ?_
      refine m_get S hw cl_M hR.obj 5 (by decide) g693 (fun _ h => h) rfl d_M_place_158 ?_
      refine lv_iconst (v := 1) S.1 S.2.1 d_M_place_161 (by decide) ?_
      refine lv_iadd S.1 S.2.1 d_M_place_162 ?_
      refine W.eq (g2 := F0 m 163 ls [.int (nI (sn σ + 1)), .ref (rx μ)]) (congrArg (fun z => F0 m 163 ls [.int z, .ref (rx μ)]) (nI_1 _)) ?_
      refine m_rput (σ' := ((sn σ + 1, sI σ), (sph σ, srf σ, sbd σ, srk σ), stn σ, sT σ, sal σ)) (ε' := (0, ε.2.1, ε.2.2.1, ε.2.2.2.1, ε.2.2.2.2.1, ε.2.2.2.2.2)) S hw hR 5 (by decide) g693 rfl rfl rfl d_M_place_163 rfl (fun i hi => rfl) (fun H locs M34 hR hw => ?_)
      refine lv_aload_n S.1 S.2.1 d_M_place_166 rfl (lv_at hl 2 rfl) ?_
      refine m_get S hw cl_M hR.obj 6 (by decide) g694 (fun _ h => h) rfl d_M_place_167 ?_
      refine lv_iload S.1 S.2.1 d_M_place_170 (lv_at hl 0 rfl) ?_
      refine lv_iload_n S.1 S.2.1 d_M_place_172 rfl (lv_at hl 3 rfl) ?_
      refine m_rst (o := sn σ) (v := w0) S hw hR 0 (by decide) (by omega) d_M_place_173 (fun H locs M35 hR hw => ?_)
      have hR : RQ γ _ M35 μ ((sn σ + 1, s1 (sI σ) 0 (sn σ) w0), (sph σ, srf σ, sbd σ, srk σ), stn σ, sT σ, sal σ) (0, ε.2.1, ε.2.2.1, ε.2.2.2.1, ε.2.2.2.2.1, ε.2.2.2.2.2) := hR
      refine lv_aload_n S.1 S.2.1 d_M_place_174 rfl (lv_at hl 2 rfl) ?_
      refine m_get S hw cl_M hR.obj 7 (by decide) g695 (fun _ h => h) rfl d_M_place_175 ?_
      refine lv_iload S.1 S.2.1 d_M_place_178 (lv_at hl 0 rfl) ?_
      refine lv_iload_n S.1 S.2.1 d_M_place_180 rfl (lv_at hl 4 rfl) ?_
      refine m_rstz (o := sn σ) (v := b0) S hw hR hb0 (by omega) d_M_place_181 (fun H locs M36 hR hw => ?_)
      have hR : RQ γ _ M36 μ ((sn σ + 1, s1 (s1 (sI σ) 0 (sn σ) w0) 1 (sn σ) b0), (sph σ, srf σ, sbd σ, srk σ), stn σ, sT σ, sal σ) (0, ε.2.1, ε.2.2.1, ε.2.2.2.1, ε.2.2.2.2.1, ε.2.2.2.2.2) := hR
      refine lv_aload_n S.1 S.2.1 d_M_place_182 rfl (lv_at hl 2 rfl) ?_
      refine m_get S hw cl_M hR.obj 8 (by decide) g696 (fun _ h => h) rfl d_M_place_183 ?_
      refine lv_iload S.1 S.2.1 d_M_place_186 (lv_at hl 0 rfl) ?_
      refine lv_iload_n S.1 S.2.1 d_M_place_188 rfl (lv_at hl 5 rfl) ?_
      refine m_rst (o := sn σ) (v := p0) S hw hR 2 (by decide) (by omega) d_M_place_189 (fun H locs M37 hR hw => ?_)
      have hR : RQ γ _ M37 μ ((sn σ + 1, s1 (s1 (s1 (sI σ) 0 (sn σ) w0) 1 (sn σ) b0) 2 (sn σ) p0), (sph σ, srf σ, sbd σ, srk σ), stn σ, sT σ, sal σ) (0, ε.2.1, ε.2.2.1, ε.2.2.2.1, ε.2.2.2.2.1, ε.2.2.2.2.2) := hR
      refine lv_aload_n S.1 S.2.1 d_M_place_190 rfl (lv_at hl 2 rfl) ?_
      refine m_get S hw cl_M hR.obj 9 (by decide) g697 (fun _ h => h) rfl d_M_place_191 ?_
      refine lv_iload S.1 S.2.1 d_M_place_194 (lv_at hl 0 rfl) ?_
      refine lv_iload S.1 S.2.1 d_M_place_196 (lv_at hl 6 rfl) ?_
      refine m_rst (o := sn σ) (v := q0) S hw hR 3 (by decide) (by omega) d_M_place_198 (fun H locs M38 hR hw => ?_)
      have hR : RQ γ _ M38 μ ((sn σ + 1, s1 (s1 (s1 (s1 (sI σ) 0 (sn σ) w0) 1 (sn σ) b0) 2 (sn σ) p0) 3 (sn σ) q0), (sph σ, srf σ, sbd σ, srk σ), stn σ, sT σ, sal σ) (0, ε.2.1, ε.2.2.1, ε.2.2.2.1, ε.2.2.2.2.1, ε.2.2.2.2.2) := hR
      refine lv_aload_n S.1 S.2.1 d_M_place_199 rfl (lv_at hl 2 rfl) ?_
      refine m_get S hw cl_M hR.obj 14 (by decide) g702 (fun _ h => h) rfl d_M_place_200 ?_
      refine lv_iload S.1 S.2.1 d_M_place_203 (lv_at hl 0 rfl) ?_
      refine lv_iload S.1 S.2.1 d_M_place_205 (lv_at hl 7 rfl) ?_
      refine m_rst (o := sn σ) (v := k0) S hw hR 8 (by decide) (by omega) d_M_place_207 (fun H locs M39 hR hw => ?_)
      have hR : RQ γ _ M39 μ ((sn σ + 1, s1 (s1 (s1 (s1 (s1 (sI σ) 0 (sn σ) w0) 1 (sn σ) b0) 2 (sn σ) p0) 3 (sn σ) q0) 8 (sn σ) k0), (sph σ, srf σ, sbd σ, srk σ), stn σ, sT σ, sal σ) (0, ε.2.1, ε.2.2.1, ε.2.2.2.1, ε.2.2.2.2.1, ε.2.2.2.2.2) := hR
      refine lv_aload_n S.1 S.2.1 d_M_place_208 rfl (lv_at hl 2 rfl) ?_
      refine m_get S hw cl_M hR.obj 12 (by decide) g700 (fun _ h => h) rfl d_M_place_209 ?_
      refine lv_iload S.1 S.2.1 d_M_place_212 (lv_at hl 0 rfl) ?_
      refine lv_iload S.1 S.2.1 d_M_place_214 (lv_at hl 8 rfl) ?_
      refine m_rst (o := sn σ) (v := f0) S hw hR 6 (by decide) (by omega) d_M_place_216 (fun H locs M40 hR hw => ?_)
      have hR : RQ γ _ M40 μ ((sn σ + 1, s1 (s1 (s1 (s1 (s1 (s1 (sI σ) 0 (sn σ) w0) 1 (sn σ) b0) 2 (sn σ) p0) 3 (sn σ) q0) 8 (sn σ) k0) 6 (sn σ) f0), (sph σ, srf σ, sbd σ, srk σ), stn σ, sT σ, sal σ) (0, ε.2.1, ε.2.2.1, ε.2.2.2.1, ε.2.2.2.2.1, ε.2.2.2.2.2) := hR
      refine lv_aload_n S.1 S.2.1 d_M_place_217 rfl (lv_at hl 2 rfl) ?_
      refine m_get S hw cl_M hR.obj 11 (by decide) g699 (fun _ h => h) rfl d_M_place_218 ?_
      refine lv_iload S.1 S.2.1 d_M_place_221 (lv_at hl 0 rfl) ?_
      refine lv_iconst (v := (-1)) S.1 S.2.1 d_M_place_223 (by decide) ?_
      refine m_rst (o := sn σ) (v := (-1)) S hw hR 5 (by decide) (by omega) d_M_place_224 (fun H locs M41 hR hw => ?_)
      have hR : RQ γ _ M41 μ ((sn σ + 1, s1 (s1 (s1 (s1 (s1 (s1 (s1 (sI σ) 0 (sn σ) w0) 1 (sn σ) b0) 2 (sn σ) p0) 3 (sn σ) q0) 8 (sn σ) k0) 6 (sn σ) f0) 5 (sn σ) (-1)), (sph σ, srf σ, sbd σ, srk σ), stn σ, sT σ, sal σ) (0, ε.2.1, ε.2.2.1, ε.2.2.2.1, ε.2.2.2.2.1, ε.2.2.2.2.2) := hR
      have hR : RQ γ _ M41 μ (xNew σ w0 b0 p0 q0 k0 f0) (0, ε.2) := hR.cong (new_cols ht4 ht7)
      refine lv_aload_n S.1 S.2.1 d_M_place_225 rfl (lv_at hl 2 rfl) ?_
      refine lv_iload S.1 S.2.1 d_M_place_226 (lv_at hl 0 rfl) ?_
      refine m_ci hw (va_runV (As := [.int (nI (sn σ))]) (rest := []) S (c_M_comes l γ M41 μ (xNew σ w0 b0 p0 q0 k0 f0) (0, ε.2) hR.1 L hI1 hL1 hB (sn σ) (Nat.lt_succ_self _) hq5 (by rw [hq3]; omega) (by rw [hq3]; omega) hrk σ' hfin hT) (m_cwV 1 S g785 g787 g24 g48 g788 rfl rfl ⟨by decide +kernel, by decide +kernel, by decide +kernel⟩ ⟨(Nat.le_of_ble_eq_true rfl), (Nat.le_of_ble_eq_true rfl)⟩) (hw.preV hR.obj cl_M.1) rfl rfl hl.1 rfl (lv_room (Nat.le_of_ble_eq_true rfl)) d_M_place_228 ⟨(Nat.zero_le _), (Nat.zero_le _)⟩) (fun r1 M42 H locs hp hw => ?_)
      obtain ⟨hr1, hp⟩ := hp
      have hR := hp.tr hR
      refine lv_istore S.1 S.2.1 d_M_place_231 hl (by decide) rfl (fun ls hl => ?_)
      have hl : lv_has ls 10 [(9, .int r1), (8, .int (nI (sn σ))), (7, .int 1), (0, .ref (rx μ)), (1, .int w0), (2, .int b0), (3, .int p0), (4, .int q0), (5, .int k0), (6, .int f0)] := hl
      refine lv_iload S.1 S.2.1 d_M_place_233 (lv_at hl 1 rfl) ?_
      exact m_iret S hlk hr rfl hw (⟨rfl, hR⟩) (Nat.le_refl _) (Nat.le_refl _) d_M_place_235
set_option maxHeartbeats 4000000 in
set_option maxRecDepth 100000 in
theorem c_M_cancelJ (l : Launch) (γ : mG) (M : mMap) (μ : RK) (σ : St) (ε : RE) (hR : RM γ M μ σ ε) (hn : sn σ ≤ 250) (j : Int32) (hj : ∀ k, k < sn σ → ¬ j = nI k) : Met l y_M_cancel w_M_cancel ({ frames := 2, cells := 0, slots := 0, locals := 43 } : Room) (mPc γ M [.ref (rx μ), .int j]) (mQi γ (fun _ M' => RQ γ M M' μ σ (1, ε.2))) 0 0 (mA (gz γ)) := by
  refine m_enter (by decide) (Nat.le_of_ble_eq_true rfl) ?_
  intro p e s m below meth c ls S hr hlk hnm hl hw
  have hl : lv_has ls 3 [(0, .ref (rx μ)), (1, .int j)] := hl
  have hR := hR.q
  refine lv_aload_n S.1 S.2.1 d_M_cancel_0 rfl (lv_at hl 0 rfl) ?_
  refine lv_aload_n S.1 S.2.1 d_M_cancel_1 rfl (lv_at hl 0 rfl) ?_
  refine lv_iload_n S.1 S.2.1 d_M_cancel_2 rfl (lv_at hl 1 rfl) ?_
  refine m_ci hw (va_runV (As := [.int j]) (rest := [.ref (rx μ)]) S (c_M_isOrder l γ M μ σ ε hR.1 j) (m_cwV 1 S g844 g846 g37 g48 g847 rfl rfl ⟨by decide +kernel, by decide +kernel, by decide +kernel⟩ ⟨(Nat.le_of_ble_eq_true rfl), (Nat.le_of_ble_eq_true rfl)⟩) (hw.preV hR.obj cl_M.1) rfl rfl hl.1 rfl (lv_room (Nat.le_of_ble_eq_true rfl)) d_M_cancel_3 ⟨(Nat.zero_le _), (Nat.zero_le _)⟩) (fun r1 M1 H locs hp hw => ?_)
  obtain ⟨rfl, hM1⟩ := hp
  rw [hM1] at hw
  refine lv_if_ne (tgt := 13) S.1 S.2.1 d_M_cancel_6 rfl (fun h => absurd (b2i_0.mpr (isO_f hn hj)) h) (fun _ => ?_)
  refine lv_iconst (v := 1) S.1 S.2.1 d_M_cancel_9 (by decide) ?_
  refine lv_goto (tgt := 26) S.1 S.2.1 d_M_cancel_10 rfl ?_
  refine m_rput (σ' := σ) (ε' := (1, ε.2.1, ε.2.2.1, ε.2.2.2.1, ε.2.2.2.2.1, ε.2.2.2.2.2)) S hw hR 0 (by decide) g688 rfl rfl rfl d_M_cancel_26 rfl (fun i hi => rfl) (fun H locs M1 hR hw => ?_)
  refine lv_aload_n S.1 S.2.1 d_M_cancel_29 rfl (lv_at hl 0 rfl) ?_
  refine m_get S hw cl_M hR.obj 0 (by decide) g688 (fun _ h => h) rfl d_M_cancel_30 ?_
  refine lv_if_le (tgt := 38) S.1 S.2.1 d_M_cancel_33 rfl (fun h => absurd h (show ¬ (1 : Int32) ≤ 0 by decide)) (fun _ => ?_)
  refine lv_iconst (v := 0) S.1 S.2.1 d_M_cancel_36 (by decide) ?_
  exact m_iret S hlk hr rfl hw hR (Nat.le_refl _) (Nat.le_refl _) d_M_cancel_37
set_option maxHeartbeats 4000000 in
set_option maxRecDepth 100000 in
theorem c_M_cancelS (l : Launch) (γ : mG) (M : mMap) (μ : RK) (σ : St) (ε : RE) (hR : RM γ M μ σ ε) (hn : sn σ ≤ 250) (k : Nat) (hk : k < sn σ) (hr5 : sI σ 5 k = -1) : Met l y_M_cancel w_M_cancel ({ frames := 2, cells := 0, slots := 0, locals := 43 } : Room) (mPc γ M [.ref (rx μ), .int (nI k)]) (mQi γ (fun _ M' => RQ γ M M' μ σ (2, ε.2))) 0 0 (mA (gz γ)) := by
  refine m_enter (by decide) (Nat.le_of_ble_eq_true rfl) ?_
  intro p e s m below meth c ls S hr hlk hnm hl hw
  have hl : lv_has ls 3 [(0, .ref (rx μ)), (1, .int (nI k))] := hl
  have hR := hR.q
  refine lv_aload_n S.1 S.2.1 d_M_cancel_0 rfl (lv_at hl 0 rfl) ?_
  refine lv_aload_n S.1 S.2.1 d_M_cancel_1 rfl (lv_at hl 0 rfl) ?_
  refine lv_iload_n S.1 S.2.1 d_M_cancel_2 rfl (lv_at hl 1 rfl) ?_
  refine m_ci hw (va_runV (As := [.int (nI k)]) (rest := [.ref (rx μ)]) S (c_M_isOrder l γ M μ σ ε hR.1 (nI k)) (m_cwV 1 S g844 g846 g37 g48 g847 rfl rfl ⟨by decide +kernel, by decide +kernel, by decide +kernel⟩ ⟨(Nat.le_of_ble_eq_true rfl), (Nat.le_of_ble_eq_true rfl)⟩) (hw.preV hR.obj cl_M.1) rfl rfl hl.1 rfl (lv_room (Nat.le_of_ble_eq_true rfl)) d_M_cancel_3 ⟨(Nat.zero_le _), (Nat.zero_le _)⟩) (fun r1 M1 H locs hp hw => ?_)
  obtain ⟨rfl, hM1⟩ := hp
  rw [hM1] at hw
  refine lv_if_ne (tgt := 13) S.1 S.2.1 d_M_cancel_6 rfl (fun _ => ?_) (fun h => absurd h (b2i_n0.mpr (isO_t hn hk)))
  refine lv_aload_n S.1 S.2.1 d_M_cancel_13 rfl (lv_at hl 0 rfl) ?_
  refine lv_iload_n S.1 S.2.1 d_M_cancel_14 rfl (lv_at hl 1 rfl) ?_
  refine m_ci hw (va_runV (As := [.int (nI k)]) (rest := [.ref (rx μ)]) S (c_M_rests l γ M μ σ ε hR.1 hn k hk) (m_cwV 1 S g793 g795 g26 g48 g796 rfl rfl ⟨by decide +kernel, by decide +kernel, by decide +kernel⟩ ⟨(Nat.le_of_ble_eq_true rfl), (Nat.le_of_ble_eq_true rfl)⟩) (hw.preV hR.obj cl_M.1) rfl rfl hl.1 rfl (lv_room (Nat.le_of_ble_eq_true rfl)) d_M_cancel_15 ⟨(Nat.zero_le _), (Nat.zero_le _)⟩) (fun r1 M1 H locs hp hw => ?_)
  obtain ⟨rfl, hM1⟩ := hp
  rw [hM1] at hw
  refine lv_if_ne (tgt := 25) S.1 S.2.1 d_M_cancel_18 rfl (fun h => absurd (b2i_0.mpr (rs_m1 hr5)) h) (fun _ => ?_)
  refine lv_iconst (v := 2) S.1 S.2.1 d_M_cancel_21 (by decide) ?_
  refine lv_goto (tgt := 26) S.1 S.2.1 d_M_cancel_22 rfl ?_
  refine m_rput (σ' := σ) (ε' := (2, ε.2.1, ε.2.2.1, ε.2.2.2.1, ε.2.2.2.2.1, ε.2.2.2.2.2)) S hw hR 0 (by decide) g688 rfl rfl rfl d_M_cancel_26 rfl (fun i hi => rfl) (fun H locs M1 hR hw => ?_)
  refine lv_aload_n S.1 S.2.1 d_M_cancel_29 rfl (lv_at hl 0 rfl) ?_
  refine m_get S hw cl_M hR.obj 0 (by decide) g688 (fun _ h => h) rfl d_M_cancel_30 ?_
  refine lv_if_le (tgt := 38) S.1 S.2.1 d_M_cancel_33 rfl (fun h => absurd h (show ¬ (2 : Int32) ≤ 0 by decide)) (fun _ => ?_)
  refine lv_iconst (v := 0) S.1 S.2.1 d_M_cancel_36 (by decide) ?_
  exact m_iret S hlk hr rfl hw hR (Nat.le_refl _) (Nat.le_refl _) d_M_cancel_37
set_option maxHeartbeats 4000000 in
set_option maxRecDepth 100000 in
theorem c_M_cancel (l : Launch) (γ : mG) (M : mMap) (μ : RK) (σ : St) (ε : RE) (hR : RM γ M μ σ ε) (hn : sn σ ≤ 250) (k : Nat) (hk : k < sn σ) (hs : rs (sI σ) k = true) : Met l y_M_cancel w_M_cancel ({ frames := 2, cells := 0, slots := 0, locals := 43 } : Room) (mPc γ M [.ref (rx μ), .int (nI k)]) (mQi γ (fun r M' => r = sI σ 3 k ∧ RQ γ M M' μ (xEnd σ k) (0, ε.2))) 0 0 (mA (gz γ)) := by
  refine m_enter (by decide) (Nat.le_of_ble_eq_true rfl) ?_
  intro p e s m below meth c ls S hr hlk hnm hl hw
  have hl : lv_has ls 3 [(0, .ref (rx μ)), (1, .int (nI k))] := hl
  have hR := hR.q
  refine lv_aload_n S.1 S.2.1 d_M_cancel_0 rfl (lv_at hl 0 rfl) ?_
  refine lv_aload_n S.1 S.2.1 d_M_cancel_1 rfl (lv_at hl 0 rfl) ?_
  refine lv_iload_n S.1 S.2.1 d_M_cancel_2 rfl (lv_at hl 1 rfl) ?_
  refine m_ci hw (va_runV (As := [.int (nI k)]) (rest := [.ref (rx μ)]) S (c_M_isOrder l γ M μ σ ε hR.1 (nI k)) (m_cwV 1 S g844 g846 g37 g48 g847 rfl rfl ⟨by decide +kernel, by decide +kernel, by decide +kernel⟩ ⟨(Nat.le_of_ble_eq_true rfl), (Nat.le_of_ble_eq_true rfl)⟩) (hw.preV hR.obj cl_M.1) rfl rfl hl.1 rfl (lv_room (Nat.le_of_ble_eq_true rfl)) d_M_cancel_3 ⟨(Nat.zero_le _), (Nat.zero_le _)⟩) (fun r1 M1 H locs hp hw => ?_)
  obtain ⟨rfl, hM1⟩ := hp
  rw [hM1] at hw
  refine lv_if_ne (tgt := 13) S.1 S.2.1 d_M_cancel_6 rfl (fun _ => ?_) (fun h => absurd h (b2i_n0.mpr (isO_t hn hk)))
  refine lv_aload_n S.1 S.2.1 d_M_cancel_13 rfl (lv_at hl 0 rfl) ?_
  refine lv_iload_n S.1 S.2.1 d_M_cancel_14 rfl (lv_at hl 1 rfl) ?_
  refine m_ci hw (va_runV (As := [.int (nI k)]) (rest := [.ref (rx μ)]) S (c_M_rests l γ M μ σ ε hR.1 hn k hk) (m_cwV 1 S g793 g795 g26 g48 g796 rfl rfl ⟨by decide +kernel, by decide +kernel, by decide +kernel⟩ ⟨(Nat.le_of_ble_eq_true rfl), (Nat.le_of_ble_eq_true rfl)⟩) (hw.preV hR.obj cl_M.1) rfl rfl hl.1 rfl (lv_room (Nat.le_of_ble_eq_true rfl)) d_M_cancel_15 ⟨(Nat.zero_le _), (Nat.zero_le _)⟩) (fun r1 M1 H locs hp hw => ?_)
  obtain ⟨rfl, hM1⟩ := hp
  rw [hM1] at hw
  refine lv_if_ne (tgt := 25) S.1 S.2.1 d_M_cancel_18 rfl (fun _ => ?_) (fun h => absurd h (b2i_n0.mpr hs))
  refine lv_iconst (v := 0) S.1 S.2.1 d_M_cancel_25 (by decide) ?_
  refine m_rput (σ' := σ) (ε' := (0, ε.2.1, ε.2.2.1, ε.2.2.2.1, ε.2.2.2.2.1, ε.2.2.2.2.2)) S hw hR 0 (by decide) g688 rfl rfl rfl d_M_cancel_26 rfl (fun i hi => rfl) (fun H locs M1 hR hw => ?_)
  refine lv_aload_n S.1 S.2.1 d_M_cancel_29 rfl (lv_at hl 0 rfl) ?_
  refine m_get S hw cl_M hR.obj 0 (by decide) g688 (fun _ h => h) rfl d_M_cancel_30 ?_
  refine lv_if_le (tgt := 38) S.1 S.2.1 d_M_cancel_33 rfl (fun _ => ?_) (fun h => absurd (show (0 : Int32) ≤ 0 by decide) h)
  refine lv_aload_n S.1 S.2.1 d_M_cancel_38 rfl (lv_at hl 0 rfl) ?_
  refine m_get S hw cl_M hR.obj 9 (by decide) g697 (fun _ h => h) rfl d_M_cancel_39 ?_
  refine lv_iload_n S.1 S.2.1 d_M_cancel_42 rfl (lv_at hl 1 rfl) ?_
  refine m_rld (o := k) S hw hR 3 (by decide) (by omega) d_M_cancel_43 ?_
  refine lv_istore_n S.1 S.2.1 d_M_cancel_44 rfl hl (by decide) rfl (fun ls hl => ?_)
  have hl : lv_has ls 3 [(2, .int ((sI σ) 3 k)), (0, .ref (rx μ)), (1, .int (nI k))] := hl
  refine lv_aload_n S.1 S.2.1 d_M_cancel_45 rfl (lv_at hl 1 rfl) ?_
  refine lv_iload_n S.1 S.2.1 d_M_cancel_46 rfl (lv_at hl 2 rfl) ?_
  refine m_cv hw (va_runV (As := [.int (nI k)]) (rest := []) S (c_M_end l γ M1 μ σ (0, ε.2.1, ε.2.2.1, ε.2.2.2.1, ε.2.2.2.2.1, ε.2.2.2.2.2) hR.1 hn k hk) (m_cwV 1 S g828 g830 g34 g48 g831 rfl rfl ⟨by decide +kernel, by decide +kernel, by decide +kernel⟩ ⟨(Nat.le_of_ble_eq_true rfl), (Nat.le_of_ble_eq_true rfl)⟩) (hw.preV hR.obj cl_M.1) rfl rfl hl.1 rfl (lv_room (Nat.le_of_ble_eq_true rfl)) d_M_cancel_47 ⟨(Nat.zero_le _), (Nat.zero_le _)⟩) (fun M2 H locs hp hw => ?_)
  have hR := hp.tr hR
  refine lv_iload_n S.1 S.2.1 d_M_cancel_50 rfl (lv_at hl 0 rfl) ?_
  exact m_iret S hlk hr rfl hw (⟨rfl, hR⟩) (Nat.le_refl _) (Nat.le_refl _) d_M_cancel_51
set_option maxHeartbeats 4000000 in
set_option maxRecDepth 100000 in
theorem c_M_cancelAllA (l : Launch) (γ : mG) (M : mMap) (μ : RK) (σ : St) (ε : RE) (hR : RM γ M μ σ ε) (hn : sn σ ≤ 250) (w0 : Int32) (hv : rg 0 9 w0 = false) : Met l y_M_cancelAll w_M_cancelAll ({ frames := 1, cells := 0, slots := 0, locals := 22 } : Room) (mPc γ M [.ref (rx μ), .int w0]) (mQi γ (fun _ M' => RQ γ M M' μ σ (1, ε.2))) 0 0 (mA (gz γ)) := by
  refine m_enter (by decide) (Nat.le_of_ble_eq_true rfl) ?_
  intro p e s m below meth c ls S hr hlk hnm hl hw
  have hl : lv_has ls 4 [(0, .ref (rx μ)), (1, .int w0)] := hl
  have hR := hR.q
  refine lv_aload_n S.1 S.2.1 d_M_cancelAll_0 rfl (lv_at hl 0 rfl) ?_
  refine lv_iload_n S.1 S.2.1 d_M_cancelAll_1 rfl (lv_at hl 1 rfl) ?_
  refine lv_iconst (v := 0) S.1 S.2.1 d_M_cancelAll_2 (by decide) ?_
  refine lv_bipush (v := 9) S.1 S.2.1 d_M_cancelAll_3 (by decide) ?_
  refine m_ci hw (va_runS (As := [.int w0, .int 0, .int 9]) (rest := [.ref (rx μ)]) S (c_M_in l γ M w0 0 9) (m_cwS 3 S g778 g779 g48 g780 rfl rfl ⟨by decide +kernel, by decide +kernel, by decide +kernel⟩ ⟨(Nat.le_of_ble_eq_true rfl), (Nat.le_of_ble_eq_true rfl)⟩) hw.preS rfl rfl hl.1 rfl (lv_room (Nat.le_of_ble_eq_true rfl)) d_M_cancelAll_5 ⟨(Nat.zero_le _), (Nat.zero_le _)⟩) (fun r1 M1 H locs hp hw => ?_)
  obtain ⟨rfl, hM1⟩ := hp
  rw [hM1] at hw
  refine lv_if_eq (tgt := 15) S.1 S.2.1 d_M_cancelAll_8 rfl (fun _ => ?_) (fun h => absurd (b2i_0.mpr hv) h)
  refine lv_iconst (v := 1) S.1 S.2.1 d_M_cancelAll_15 (by decide) ?_
  refine m_rput (σ' := σ) (ε' := (1, ε.2.1, ε.2.2.1, ε.2.2.2.1, ε.2.2.2.2.1, ε.2.2.2.2.2)) S hw hR 0 (by decide) g688 rfl rfl rfl d_M_cancelAll_16 rfl (fun i hi => rfl) (fun H locs M1 hR hw => ?_)
  refine lv_iconst (v := 0) S.1 S.2.1 d_M_cancelAll_19 (by decide) ?_
  refine lv_istore_n S.1 S.2.1 d_M_cancelAll_20 rfl hl (by decide) rfl (fun ls hl => ?_)
  have hl : lv_has ls 4 [(2, .int 0), (0, .ref (rx μ)), (1, .int w0)] := hl
  refine lv_iconst (v := 0) S.1 S.2.1 d_M_cancelAll_21 (by decide) ?_
  refine lv_istore_n S.1 S.2.1 d_M_cancelAll_22 rfl hl (by decide) rfl (fun ls hl => ?_)
  have hl : lv_has ls 4 [(3, .int 0), (2, .int 0), (0, .ref (rx μ)), (1, .int w0)] := hl
  refine lv_iload_n S.1 S.2.1 d_M_cancelAll_23 rfl (lv_at hl 0 rfl) ?_
  refine lv_aload_n S.1 S.2.1 d_M_cancelAll_24 rfl (lv_at hl 2 rfl) ?_
  refine m_get S hw cl_M hR.obj 5 (by decide) g693 (fun _ h => h) rfl d_M_cancelAll_25 ?_
  refine lv_icmp_ge (tgt := 70) S.1 S.2.1 d_M_cancelAll_28 rfl (fun h28 => ?_) (fun h28 => ?_)
  · refine lv_iload_n S.1 S.2.1 d_M_cancelAll_70 rfl (lv_at hl 1 rfl) ?_
    exact m_iret S hlk hr rfl hw hR (Nat.le_refl _) (Nat.le_refl _) d_M_cancelAll_71
  · refine lv_aload_n S.1 S.2.1 d_M_cancelAll_31 rfl (lv_at hl 2 rfl) ?_
    refine m_get S hw cl_M hR.obj 0 (by decide) g688 (fun _ h => h) rfl d_M_cancelAll_32 ?_
    refine lv_if_ne (tgt := 70) S.1 S.2.1 d_M_cancelAll_35 rfl (fun _ => ?_) (fun h => absurd h (show ¬ (1 : Int32) = 0 by decide))
    refine lv_iload_n S.1 S.2.1 d_M_cancelAll_70 rfl (lv_at hl 1 rfl) ?_
    exact m_iret S hlk hr rfl hw hR (Nat.le_refl _) (Nat.le_refl _) d_M_cancelAll_71
theorem LN.ende0 {σ : St} {r : Nat} (hI : Inv0 σ) (hr : r < sn σ) : Inv0 (xEnd σ r) := by
  obtain ⟨h1, h2, h3, h4, h5⟩ := hI
  have h58 : ∀ x, sI (xEnd σ r) 8 x = sI σ 8 x := fun x => by show s1 (s1 (s1 (sI σ) 3 r 0) 4 r 0) 5 r (-1) 8 x = sI σ 8 x; rw [s1_f (by decide), s1_f (by decide), s1_f (by decide)]
  have hx : ∀ f x, x ≠ r → sI (xEnd σ r) f x = sI σ f x := fun f x hx => by show s1 (s1 (s1 (sI σ) 3 r 0) 4 r 0) 5 r (-1) f x = sI σ f x; rw [s1_o hx, s1_o hx, s1_o hx]
  have hrr : sI (xEnd σ r) 5 r = -1 := by show s1 _ 5 r (-1) 5 r = -1; exact s1_ss _ _ _ _
  refine ⟨h1, h2.ende, fun o ho => ?_, h4, fun o ho hs => ?_⟩
  · rw [h58]
    by_cases e : o = r
    · subst e; rw [hrr]; have := h3 o ho; exact ⟨this.1, this.2.1, by decide, by rw [show (-1 : Int32).toInt = -1 by decide]; show -1 < (srk σ).toInt; omega⟩
    · rw [hx 5 o e]; exact h3 o ho
  · have e : o ≠ r := fun e => by subst e; rw [rs_m1 hrr] at hs; cases hs
    have e2 : rs (sI σ) o = true := by rw [← rs_at (hx 5 o e)]; exact hs
    have := h5 o ho e2
    unfold Rok at this ⊢
    rw [hx 3 o e, hx 4 o e, hx 8 o e]
    exact this
set_option maxHeartbeats 4000000 in
set_option maxRecDepth 100000 in
theorem c_M_cancelAll (l : Launch) (γ : mG) (M : mMap) (μ : RK) (σ : St) (ε : RE) (hR : RM γ M μ σ ε) (hI : Inv0 σ) (w0 : Int32) (hv : rg 0 9 w0 = true) : Met l y_M_cancelAll w_M_cancelAll ({ frames := 1, cells := 0, slots := 0, locals := 22 } : Room) (mPc γ M [.ref (rx μ), .int w0]) (mQi γ (fun r M' => r = nI (xCan σ w0 (sn σ)).2 ∧ RQ γ M M' μ (xCan σ w0 (sn σ)).1 (0, ε.2))) 0 0 (mA (gz γ)) := by
  refine m_enter (by decide) (Nat.le_of_ble_eq_true rfl) ?_
  intro p e s m below meth c ls S hr hlk hnm hl hw
  have hl : lv_has ls 4 [(0, .ref (rx μ)), (1, .int w0)] := hl
  have hR := hR.q
  have hn := hI.1
  refine lv_aload_n S.1 S.2.1 d_M_cancelAll_0 rfl (lv_at hl 0 rfl) ?_
  refine lv_iload_n S.1 S.2.1 d_M_cancelAll_1 rfl (lv_at hl 1 rfl) ?_
  refine lv_iconst (v := 0) S.1 S.2.1 d_M_cancelAll_2 (by decide) ?_
  refine lv_bipush (v := 9) S.1 S.2.1 d_M_cancelAll_3 (by decide) ?_
  refine m_ci hw (va_runS (As := [.int w0, .int 0, .int 9]) (rest := [.ref (rx μ)]) S (c_M_in l γ M w0 0 9) (m_cwS 3 S g778 g779 g48 g780 rfl rfl ⟨by decide +kernel, by decide +kernel, by decide +kernel⟩ ⟨(Nat.le_of_ble_eq_true rfl), (Nat.le_of_ble_eq_true rfl)⟩) hw.preS rfl rfl hl.1 rfl (lv_room (Nat.le_of_ble_eq_true rfl)) d_M_cancelAll_5 ⟨(Nat.zero_le _), (Nat.zero_le _)⟩) (fun r1 M1 H locs hp hw => ?_)
  obtain ⟨rfl, hM1⟩ := hp
  rw [hM1] at hw
  refine lv_if_eq (tgt := 15) S.1 S.2.1 d_M_cancelAll_8 rfl (fun h => absurd h (b2i_n0.mpr hv)) (fun _ => ?_)
  refine lv_iconst (v := 0) S.1 S.2.1 d_M_cancelAll_11 (by decide) ?_
  refine lv_goto (tgt := 16) S.1 S.2.1 d_M_cancelAll_12 rfl ?_
  refine m_rput (σ' := σ) (ε' := (0, ε.2.1, ε.2.2.1, ε.2.2.2.1, ε.2.2.2.2.1, ε.2.2.2.2.2)) S hw hR 0 (by decide) g688 rfl rfl rfl d_M_cancelAll_16 rfl (fun i hi => rfl) (fun H locs M1 hR hw => ?_)
  refine lv_iconst (v := 0) S.1 S.2.1 d_M_cancelAll_19 (by decide) ?_
  refine lv_istore_n S.1 S.2.1 d_M_cancelAll_20 rfl hl (by decide) rfl (fun ls hl => ?_)
  have hl : lv_has ls 4 [(2, .int 0), (0, .ref (rx μ)), (1, .int w0)] := hl
  refine lv_iconst (v := 0) S.1 S.2.1 d_M_cancelAll_21 (by decide) ?_
  refine lv_istore_n S.1 S.2.1 d_M_cancelAll_22 rfl hl (by decide) rfl (fun ls hl => ?_)
  have hl : lv_has ls 4 [(3, .int 0), (2, .int 0), (0, .ref (rx μ)), (1, .int w0)] := hl
  have loop : ∀ (d i0 : Nat) (Mc : mMap) (H : Heap) (locs : List Loc) (ls : Array Slot), i0 + d = sn σ → RQ γ M Mc μ (xCan σ w0 i0).1 (0, ε.2) → Inv0 (xCan σ w0 i0).1 → lv_has ls 4 [(3, .int (nI i0)), (2, .int (nI (xCan σ w0 i0).2)), (1, .int w0), (0, .ref (rx μ))] → mW γ Mc s H locs → W p l e ({ frames := 1, cells := 0, slots := 0, locals := 22 } : Room) s m #[.ref (rx μ), .int w0] below meth c H locs 0 0 (MQ below (mQi γ (fun r M' => r = nI (xCan σ w0 (sn σ)).2 ∧ RQ γ M M' μ (xCan σ w0 (sn σ)).1 (0, ε.2))) #[.ref (rx μ), .int w0] s 0 0 (mA (gz γ))) (F0 m 23 ls []) := by
    intro d
    induction d with
    | zero =>
      intro i0 Mc H locs ls hi hR hI2 hl hw
      obtain ⟨hcs, hcc, hc2⟩ := can_sn σ w0 i0
      have hi2 : i0 = sn σ := by omega
      refine lv_iload_n S.1 S.2.1 d_M_cancelAll_23 rfl (lv_at hl 0 rfl) ?_
      refine lv_aload_n S.1 S.2.1 d_M_cancelAll_24 rfl (lv_at hl 3 rfl) ?_
      refine m_get S hw cl_M hR.obj 5 (by decide) g693 (fun _ h => h) rfl d_M_cancelAll_25 ?_
      refine lv_icmp_ge (tgt := 70) S.1 S.2.1 d_M_cancelAll_28 rfl (fun _ => ?_) (fun h => absurd (nI_le (by omega) (by omega)) h)
      refine lv_iload_n S.1 S.2.1 d_M_cancelAll_70 rfl (lv_at hl 1 rfl) ?_
      exact m_iret S hlk hr rfl hw (⟨by rw [hi2], by rw [← hi2]; exact hR⟩) (Nat.le_refl _) (Nat.le_refl _) d_M_cancelAll_71
    | succ d ih =>
      intro i0 Mc H locs ls hi hR hI2 hl hw
      obtain ⟨hcs, hcc, hc2⟩ := can_sn σ w0 i0
      have hx : i0 < sn (xCan σ w0 i0).1 := by omega
      refine lv_iload_n S.1 S.2.1 d_M_cancelAll_23 rfl (lv_at hl 0 rfl) ?_
      refine lv_aload_n S.1 S.2.1 d_M_cancelAll_24 rfl (lv_at hl 3 rfl) ?_
      refine m_get S hw cl_M hR.obj 5 (by decide) g693 (fun _ h => h) rfl d_M_cancelAll_25 ?_
      refine lv_icmp_ge (tgt := 70) S.1 S.2.1 d_M_cancelAll_28 rfl (fun h => absurd h (nI_ge (by omega) (by omega))) (fun _ => ?_)
      refine lv_aload_n S.1 S.2.1 d_M_cancelAll_31 rfl (lv_at hl 3 rfl) ?_
      refine m_get S hw cl_M hR.obj 0 (by decide) g688 (fun _ h => h) rfl d_M_cancelAll_32 ?_
      refine lv_if_ne (tgt := 70) S.1 S.2.1 d_M_cancelAll_35 rfl (fun h => absurd (show (0 : Int32) = 0 by decide) h) (fun _ => ?_)
      refine lv_aload_n S.1 S.2.1 d_M_cancelAll_38 rfl (lv_at hl 3 rfl) ?_
      refine m_get S hw cl_M hR.obj 6 (by decide) g694 (fun _ h => h) rfl d_M_cancelAll_39 ?_
      refine lv_iload_n S.1 S.2.1 d_M_cancelAll_42 rfl (lv_at hl 0 rfl) ?_
      refine m_rld (o := i0) S hw hR 0 (by decide) (by omega) d_M_cancelAll_43 ?_
      refine lv_iload_n S.1 S.2.1 d_M_cancelAll_44 rfl (lv_at hl 2 rfl) ?_
      refine lv_icmp_ne (tgt := 64) S.1 S.2.1 d_M_cancelAll_45 rfl (fun h45 => ?_) (fun h45 => ?_)
      · refine lv_iinc (k := 0) (v := nI (i0 + 1)) S.1 S.2.1 d_M_cancelAll_64 hl rfl (nI_1 i0) (by decide) rfl (fun ls hl => ?_)
        have hl : lv_has ls 4 [(3, .int (nI (i0 + 1))), (2, .int (nI (xCan σ w0 i0).2)), (1, .int w0), (0, .ref (rx μ))] := hl
        refine lv_goto (tgt := 23) S.1 S.2.1 d_M_cancelAll_67 rfl ?_
        have hl := lv_sub hl [0, 1, 2, 3] rfl
        have hX : xCan σ w0 (i0 + 1) = xCan σ w0 i0 := if_neg (fun z => h45 z.1)
        rw [← hX] at hR hI2 hl
        exact ih (i0 + 1) Mc H locs ls (by omega) hR hI2 hl hw
      · refine lv_aload_n S.1 S.2.1 d_M_cancelAll_48 rfl (lv_at hl 3 rfl) ?_
        refine lv_iload_n S.1 S.2.1 d_M_cancelAll_49 rfl (lv_at hl 0 rfl) ?_
        refine m_ci hw (va_runV (As := [.int (nI i0)]) (rest := []) S (c_M_rests l γ Mc μ ((xCan σ w0 i0).1) (0, ε.2.1, ε.2.2.1, ε.2.2.2.1, ε.2.2.2.2.1, ε.2.2.2.2.2) hR.1 hI2.1 i0 hx) (m_cwV 1 S g793 g795 g26 g48 g796 rfl rfl ⟨by decide +kernel, by decide +kernel, by decide +kernel⟩ ⟨(Nat.le_of_ble_eq_true rfl), (Nat.le_of_ble_eq_true rfl)⟩) (hw.preV hR.obj cl_M.1) rfl rfl hl.1 rfl (lv_room (Nat.le_of_ble_eq_true rfl)) d_M_cancelAll_50 ⟨(Nat.zero_le _), (Nat.zero_le _)⟩) (fun r1 M1 H locs hp hw => ?_)
        obtain ⟨rfl, hM1⟩ := hp
        rw [hM1] at hw
        refine lv_if_eq (tgt := 64) S.1 S.2.1 d_M_cancelAll_53 rfl (fun h53 => ?_) (fun h53 => ?_)
        · refine lv_iinc (k := 0) (v := nI (i0 + 1)) S.1 S.2.1 d_M_cancelAll_64 hl rfl (nI_1 i0) (by decide) rfl (fun ls hl => ?_)
          have hl : lv_has ls 4 [(3, .int (nI (i0 + 1))), (2, .int (nI (xCan σ w0 i0).2)), (1, .int w0), (0, .ref (rx μ))] := hl
          refine lv_goto (tgt := 23) S.1 S.2.1 d_M_cancelAll_67 rfl ?_
          have hl := lv_sub hl [0, 1, 2, 3] rfl
          have hX : xCan σ w0 (i0 + 1) = xCan σ w0 i0 := if_neg (fun z => absurd (rs_t hI2 hx z.2) (by rw [b2i_0.mp h53]; decide))
          rw [← hX] at hR hI2 hl
          exact ih (i0 + 1) Mc H locs ls (by omega) hR hI2 hl hw
        · have hX : xCan σ w0 (i0 + 1) = (xEnd (xCan σ w0 i0).1 i0, (xCan σ w0 i0).2 + 1) := if_pos ⟨h45, fun z => absurd (rs_m1 z) (by rw [b2i_n0.mp h53]; decide)⟩
          refine lv_aload_n S.1 S.2.1 d_M_cancelAll_56 rfl (lv_at hl 3 rfl) ?_
          refine lv_iload_n S.1 S.2.1 d_M_cancelAll_57 rfl (lv_at hl 0 rfl) ?_
          refine m_cv hw (va_runV (As := [.int (nI i0)]) (rest := []) S (c_M_end l γ Mc μ ((xCan σ w0 i0).1) (0, ε.2.1, ε.2.2.1, ε.2.2.2.1, ε.2.2.2.2.1, ε.2.2.2.2.2) hR.1 hI2.1 i0 hx) (m_cwV 1 S g828 g830 g34 g48 g831 rfl rfl ⟨by decide +kernel, by decide +kernel, by decide +kernel⟩ ⟨(Nat.le_of_ble_eq_true rfl), (Nat.le_of_ble_eq_true rfl)⟩) (hw.preV hR.obj cl_M.1) rfl rfl hl.1 rfl (lv_room (Nat.le_of_ble_eq_true rfl)) d_M_cancelAll_58 ⟨(Nat.zero_le _), (Nat.zero_le _)⟩) (fun M2 H locs hp hw => ?_)
          have hR := hp.tr hR
          refine lv_iinc (k := 1) (v := nI (xCan σ w0 (i0 + 1)).2) S.1 S.2.1 d_M_cancelAll_61 hl rfl (by rw [hX]; exact nI_1 _) (by decide) rfl (fun ls hl => ?_)
          have hl : lv_has ls 4 [(2, .int (nI (xCan σ w0 (i0 + 1)).2)), (3, .int (nI i0)), (1, .int w0), (0, .ref (rx μ))] := hl
          refine lv_iinc (k := 1) (v := nI (i0 + 1)) S.1 S.2.1 d_M_cancelAll_64 hl rfl (nI_1 i0) (by decide) rfl (fun ls hl => ?_)
          have hl : lv_has ls 4 [(3, .int (nI (i0 + 1))), (2, .int (nI (xCan σ w0 (i0 + 1)).2)), (1, .int w0), (0, .ref (rx μ))] := hl
          refine lv_goto (tgt := 23) S.1 S.2.1 d_M_cancelAll_67 rfl ?_
          have hl := lv_sub hl [0, 1, 2, 3] rfl
          have hI3 : Inv0 (xCan σ w0 (i0 + 1)).1 := by rw [hX]; exact (LN.ende0 hI2 hx)
          exact ih (i0 + 1) M2 H locs ls (by omega) (by rw [hX]; exact hR) hI3 hl hw
  have hl := lv_sub hl [0, 1, 3, 2] rfl
  exact loop _ 0 _ _ _ ls (Nat.zero_add _) hR hI hl hw
