/-! CallBook.amend, in order -/
theorem fpk_i {q k : Int32} (h : fpk q k = true) (h0 : 0 ≤ k.toInt) (h1 : k.toInt ≤ 100000) : 0 < k.toInt → q.toInt ≤ 50 * k.toInt := by
  intro hk
  unfold fpk at h
  have hne : ¬ k = 0 := fun z => by rw [z, i0] at hk; omega
  rw [decide_eq_false hne, Bool.false_or, decide_eq_true_eq, Int32.le_iff_toInt_le, Int32.toInt_mul, show (50 : Int32).toInt = 50 by decide] at h
  rw [Int.bmod_eq_of_le (by omega) (by omega)] at h
  exact h
set_option maxHeartbeats 4000000 in
set_option maxRecDepth 100000 in
theorem c_B_amend (l : Launch) (γ : mG) (M : mMap) (β : BK) (oa cp : Nat → Nat) (L : Nat → List Nat) (σ : St) (hC : CB γ M β oa cp L σ) (hI : Inv0 σ) (hL : LN σ L) (k : Nat) (hk : k < sn σ) (hr5 : ¬ sI σ 5 k = -1) (p0 q0 : Int32) (hv1 : rg 0 2000 p0 = true) (hv2 : rg 1 100000 q0 = true) (hv3 : fpk q0 (sI σ 8 k) = true) (hph : ¬ sph σ = 2) (hcp : cp 3 = cAt (stn σ)) (hcpl : ∀ j, j ≠ 3 → cp j ≤ 373) (σ' : St) (hσ : xAm (cgw (xAsk (xOut σ k) k p0 q0) (L (sj (opp (sI σ 1 k)))) k) σ k p0 q0 = σ') (hT : stn σ' ≤ 30000) (hrk : (srk σ).toInt ≤ 500000000) : Met l y_B_amend w_B_amend ({ frames := 12, cells := kC (stn σ') - kC (stn σ) + 1, slots := kS (stn σ') - kS (stn σ) + 373, locals := 296 } : Room) (mPc γ M [.ref (bx β), .int (nI k), .int p0, .int q0]) (mQi γ (fun r M' => r = b2i (decide (¬ sI σ' 5 k = -1)) ∧ ∃ L' cp', CB γ M' β oa cp' L' σ' ∧ Inv0 σ' ∧ LN σ' L' ∧ cp' 3 = cAt (stn σ') ∧ (∀ j, j ≠ 3 → cp' j ≤ 373) ∧ frC M M' ∧ sn σ' = sn σ ∧ (srk σ').toInt ≤ (srk σ).toInt + 100001)) (kC (stn σ') - kC (stn σ) + 1) (kS (stn σ') - kS (stn σ) + 373) (mA (gz γ)) := by
  refine m_enter (by decide) (Nat.le_of_ble_eq_true rfl) ?_
  intro p e s m below meth c ls S hr hlk hnm hl hw
  have hl : lv_has ls 5 [(0, .ref (bx β)), (1, .int (nI k)), (2, .int p0), (3, .int q0)] := hl
  have hn := hI.1
  have hOk := hC.ord k hk
  have hsd := (hI.2.1.1 k hk).2.2
  have hrs := (rs_ne hI.b hk).mpr hr5
  have hp0 := rg_i hv1
  have hq := rg_i hv2
  rw [show (0 : Int32).toInt = 0 by decide, show (2000 : Int32).toInt = 2000 by decide] at hp0
  rw [show (1 : Int32).toInt = 1 by decide, show (100000 : Int32).toInt = 100000 by decide] at hq
  refine lv_aload_n S.1 S.2.1 d_B_amend_0 rfl (lv_at hl 0 rfl) ?_
  refine lv_iload_n S.1 S.2.1 d_B_amend_1 rfl (lv_at hl 1 rfl) ?_
  refine m_cq hw (va_runV (As := [.int (nI k)]) (rest := []) S (c_B_known l γ M β oa cp L σ hC hn k hk) (m_cwV 1 S g586 g588 g18 g41 g589 rfl rfl ⟨by decide +kernel, by decide +kernel, by decide +kernel⟩ ⟨(Nat.le_of_ble_eq_true rfl), (Nat.le_of_ble_eq_true rfl)⟩) (hw.preV hC.book cl_B.1) rfl rfl hl.1 rfl (lv_room (Nat.le_of_ble_eq_true rfl)) d_B_amend_2 ⟨(Nat.zero_le _), (Nat.zero_le _)⟩) (fun r1 M1 H locs hp hw => ?_)
  obtain ⟨rfl, hM1⟩ := hp
  rw [hM1] at hw
  refine W.eq (g2 := F0 m 5 ls [.ref (oa k)]) rfl ?_
  refine lv_astore S.1 S.2.1 d_B_amend_5 hl (by decide) rfl (fun ls hl => ?_)
  have hl : lv_has ls 5 [(4, .ref (oa k)), (0, .ref (bx β)), (1, .int (nI k)), (2, .int p0), (3, .int q0)] := hl
  refine lv_iload_n S.1 S.2.1 d_B_amend_7 rfl (lv_at hl 3 rfl) ?_
  refine m_ci hw (va_runS (As := [.int p0]) (rest := []) S (c_B_isPriceOrMarket l γ M p0) (m_cwS 1 S g286 g287 g41 g288 rfl rfl ⟨by decide +kernel, by decide +kernel, by decide +kernel⟩ ⟨(Nat.le_of_ble_eq_true rfl), (Nat.le_of_ble_eq_true rfl)⟩) hw.preS rfl rfl hl.1 rfl (lv_room (Nat.le_of_ble_eq_true rfl)) d_B_amend_8 ⟨(Nat.zero_le _), (Nat.zero_le _)⟩) (fun r1 M1 H locs hp hw => ?_)
  obtain ⟨rfl, hM1⟩ := hp
  rw [hM1] at hw
  refine lv_if_eq (tgt := 33) S.1 S.2.1 d_B_amend_11 rfl (fun h => absurd h (b2i_n0.mpr hv1)) (fun _ => ?_)
  refine lv_iload_n S.1 S.2.1 d_B_amend_14 rfl (lv_at hl 4 rfl) ?_
  refine m_ci hw (va_runS (As := [.int q0]) (rest := []) S (c_B_isQuantity l γ M q0) (m_cwS 1 S g289 g290 g41 g291 rfl rfl ⟨by decide +kernel, by decide +kernel, by decide +kernel⟩ ⟨(Nat.le_of_ble_eq_true rfl), (Nat.le_of_ble_eq_true rfl)⟩) hw.preS rfl rfl hl.1 rfl (lv_room (Nat.le_of_ble_eq_true rfl)) d_B_amend_15 ⟨(Nat.zero_le _), (Nat.zero_le _)⟩) (fun r1 M1 H locs hp hw => ?_)
  obtain ⟨rfl, hM1⟩ := hp
  rw [hM1] at hw
  refine lv_if_eq (tgt := 33) S.1 S.2.1 d_B_amend_18 rfl (fun h => absurd h (b2i_n0.mpr hv2)) (fun _ => ?_)
  refine lv_iload_n S.1 S.2.1 d_B_amend_21 rfl (lv_at hl 4 rfl) ?_
  refine lv_aload S.1 S.2.1 d_B_amend_22 (lv_at hl 0 rfl) ?_
  refine m_get S hw cl_O hOk 3 (by decide) g391 (fun _ h => h) rfl d_B_amend_24 ?_
  refine m_ci hw (va_runS (As := [.int q0, .int ((sI σ) 8 k)]) (rest := []) S (c_B_fitsPeak l γ M q0 (sI σ 8 k)) (m_cwS 2 S g358 g359 g41 g360 rfl rfl ⟨by decide +kernel, by decide +kernel, by decide +kernel⟩ ⟨(Nat.le_of_ble_eq_true rfl), (Nat.le_of_ble_eq_true rfl)⟩) hw.preS rfl rfl hl.1 rfl (lv_room (Nat.le_of_ble_eq_true rfl)) d_B_amend_27 ⟨(Nat.zero_le _), (Nat.zero_le _)⟩) (fun r1 M1 H locs hp hw => ?_)
  obtain ⟨rfl, hM1⟩ := hp
  rw [hM1] at hw
  refine lv_if_ne (tgt := 41) S.1 S.2.1 d_B_amend_30 rfl (fun _ => ?_) (fun h => absurd h (b2i_n0.mpr hv3))
  refine lv_aload S.1 S.2.1 d_B_amend_41 (lv_at hl 0 rfl) ?_
  refine m_ci hw (va_runV (As := []) (rest := []) S (c_O_rests l γ M (oa k) _ _ _ _ _ _ _ _ _ _ hOk) (m_cwV 0 S g270 g244 g245 g54 g246 rfl rfl ⟨by decide +kernel, by decide +kernel, by decide +kernel⟩ ⟨(Nat.le_of_ble_eq_true rfl), (Nat.le_of_ble_eq_true rfl)⟩) (hw.preV hOk cl_O.1) rfl rfl hl.1 rfl (lv_room (Nat.le_of_ble_eq_true rfl)) d_B_amend_43 ⟨(Nat.zero_le _), (Nat.zero_le _)⟩) (fun r1 M1 H locs hp hw => ?_)
  obtain ⟨rfl, hM1⟩ := hp
  rw [hM1] at hw
  refine lv_if_eq (tgt := 57) S.1 S.2.1 d_B_amend_46 rfl (fun h => absurd h (b2i_n0.mpr (decide_eq_true hr5))) (fun _ => ?_)
  refine lv_aload_n S.1 S.2.1 d_B_amend_49 rfl (lv_at hl 1 rfl) ?_
  refine m_get S hw cl_B hC.book 5 (by decide) g150 (fun _ h => h) rfl d_B_amend_50 ?_
  refine lv_iconst (v := 2) S.1 S.2.1 d_B_amend_53 (by decide) ?_
  refine lv_icmp_ne (tgt := 65) S.1 S.2.1 d_B_amend_54 rfl (fun _ => ?_) (fun h => absurd h hph)
  refine lv_iload_n S.1 S.2.1 d_B_amend_65 rfl (lv_at hl 3 rfl) ?_
  refine lv_aload S.1 S.2.1 d_B_amend_66 (lv_at hl 0 rfl) ?_
  refine m_get S hw cl_O hOk 5 (by decide) g395 (fun _ h => h) rfl d_B_amend_68 ?_
  refine lv_icmp_ne (tgt := 92) S.1 S.2.1 d_B_amend_71 rfl (fun h71 => ?_) (fun h71 => ?_)
  · have hX : xCome (cgw (xAsk (xOut σ k) k p0 q0) (L (sj (opp (sI σ 1 k)))) k) (xAsk (xOut σ k) k p0 q0) k = σ' := by rw [← hσ]; unfold xAm; rw [if_neg (fun z => h71 z.1)]
    have hmono : stn σ ≤ stn σ' := by rw [← hσ]; exact am_tn
    refine lv_aload_n S.1 S.2.1 d_B_amend_92 rfl (lv_at hl 1 rfl) ?_
    refine lv_aload S.1 S.2.1 d_B_amend_93 (lv_at hl 0 rfl) ?_
    refine m_get S hw cl_O hOk 2 (by decide) g389 (fun _ h => h) rfl d_B_amend_95 ?_
    refine m_cq hw (va_runV (As := [.int ((sI σ) 1 k)]) (rest := []) S (c_B_side l γ M β σ.2.1 hC.book (sI σ 1 k)) (m_cwV 1 S g181 g183 g0 g41 g184 rfl rfl ⟨by decide +kernel, by decide +kernel, by decide +kernel⟩ ⟨(Nat.le_of_ble_eq_true rfl), (Nat.le_of_ble_eq_true rfl)⟩) (hw.preV hC.book cl_B.1) rfl rfl hl.1 rfl (lv_room (Nat.le_of_ble_eq_true rfl)) d_B_amend_98 ⟨(Nat.zero_le _), (Nat.zero_le _)⟩) (fun r1 M1 H locs hp hw => ?_)
    obtain ⟨rfl, hM1⟩ := hp
    rw [hM1] at hw
    have hg := hw.noe
    have hLj : Line (sI σ) (sn σ) (sI σ 1 k) (L (sj (sI σ 1 k))) := sj_val hsd hL
    obtain ⟨z0, hz0⟩ := List.getElem?_of_mem ((hLj.1 k).mpr ⟨hk, onS_iff.mpr ⟨hrs, rfl⟩⟩)
    obtain ⟨r0, hA0⟩ := hC.list (sj_or (sI σ 1 k))
    have hmem : ∀ y, y ∈ L (sj (sI σ 1 k)) → y < sn σ := fun y hy => ((hLj.1 y).mp hy).1
    have hE0 : mEl M 2 ((L (sj (sI σ 1 k))).map oa) := hC.ord.el hmem
    obtain ⟨hk1, hk2⟩ := map_first (oa := oa) hz0 hLj.nodup hmem (fun a b ha hb e => hC.ord.inj hn ha hb e)
    refine lv_aload S.1 S.2.1 d_B_amend_101 (lv_at hl 0 rfl) ?_
    refine m_cv hw (va_runV (As := [.ref (oa k)]) (rest := []) S (c_S_leave l γ M (bsd β (sj (sI σ 1 k))) (bal β (sj (sI σ 1 k))) r0 (cp (sj (sI σ 1 k))) ((L (sj (sI σ 1 k))).map oa) (hC.side (sj_or _)) hA0 hE0 (oa k) _ _ _ _ _ _ _ _ _ _ hOk z0 hk1 hk2 (by rw [List.length_map]; exact hLj.len hn)) (m_cwV 1 S g567 g568 g569 g45 g570 rfl rfl ⟨by decide +kernel, by decide +kernel, by decide +kernel⟩ ⟨(Nat.le_of_ble_eq_true rfl), (Nat.le_of_ble_eq_true rfl)⟩) (hw.preV (hC.side (sj_or _)) cl_S.1) rfl rfl hl.1 rfl (lv_room (Nat.le_of_ble_eq_true rfl)) d_B_amend_103 ⟨(Nat.zero_le _), (Nat.zero_le _)⟩) (fun M1 H locs hp hw => ?_)
    obtain ⟨hA9, hF9⟩ := hp
    obtain ⟨hC3, hf3⟩ := hC.left hn hk hg hA0 hA9 hF9
    obtain ⟨hI3, hL3⟩ := LN.out (hI.x k) hL hk hz0
    have hr3 : sI (xOut σ k) 5 k = -1 := s1_ss (sI σ) 5 k (-1)
    refine lv_aload S.1 S.2.1 d_B_amend_106 (lv_at hl 0 rfl) ?_
    refine lv_iload_n S.1 S.2.1 d_B_amend_108 rfl (lv_at hl 3 rfl) ?_
    refine lv_iload_n S.1 S.2.1 d_B_amend_109 rfl (lv_at hl 4 rfl) ?_
    refine m_cv hw (va_runV (As := [.int p0, .int q0]) (rest := []) S (c_O_ask l γ M1 (oa k) _ _ _ _ _ _ _ _ _ _ (hC3.ord k hk) p0 q0) (m_cwV 2 S g427 g428 g429 g54 g430 rfl rfl ⟨by decide +kernel, by decide +kernel, by decide +kernel⟩ ⟨(Nat.le_of_ble_eq_true rfl), (Nat.le_of_ble_eq_true rfl)⟩) (hw.preV (hC3.ord k hk) cl_O.1) rfl rfl hl.1 rfl (lv_room (Nat.le_of_ble_eq_true rfl)) d_B_amend_110 ⟨(Nat.zero_le _), (Nat.zero_le _)⟩) (fun M4 H locs hp hw => ?_)
    rw [hp] at hw
    have hw : mW γ (mU M1 (oa k) (.inr (2, oc (s1 (s1 (sI (xOut σ k)) 2 k p0) 3 k q0) k))) s H locs := by rw [oc_ask]; exact hw
    obtain ⟨hC4, hf4⟩ := hC3.setO hn hk (J := s1 (s1 (sI (xOut σ k)) 2 k p0) 3 k q0) (fun f x hx => by rw [s1_o hx, s1_o hx]) (e := .inr (2, oc (s1 (s1 (sI (xOut σ k)) 2 k p0) 3 k q0) k)) rfl
    have hC4 : CB γ (mU M1 (oa k) (.inr (2, oc (s1 (s1 (sI (xOut σ k)) 2 k p0) 3 k q0) k))) β oa cp (fun k' => if k' = (sj (sI σ 1 k)) then (L (sj (sI σ 1 k))).eraseIdx z0 else L k') (xAsk (xOut σ k) k p0 q0) := hC4
    have hI4 : Inv0 (xAsk (xOut σ k) k p0 q0) := hI3.ask hr3 hp0
    have hL4 : LN (xAsk (xOut σ k) k p0 q0) (fun k' => if k' = (sj (sI σ 1 k)) then (L (sj (sI σ 1 k))).eraseIdx z0 else L k') := hL3.ask hr3
    have h14 : sI (xAsk (xOut σ k) k p0 q0) 1 k = sI σ 1 k := by rw [ask_f (by decide) (by decide)]; exact congrFun (out_f (by decide)) k
    have h84 : sI (xAsk (xOut σ k) k p0 q0) 8 k = sI σ 8 k := by rw [ask_f (by decide) (by decide)]; exact congrFun (out_f (by decide)) k
    have h54 : sI (xAsk (xOut σ k) k p0 q0) 5 k = -1 := by rw [ask_f (by decide) (by decide)]; exact hr3
    have hX4 : xCome (cgw (xAsk (xOut σ k) k p0 q0) ((fun k' => if k' = (sj (sI σ 1 k)) then (L (sj (sI σ 1 k))).eraseIdx z0 else L k') (sj (opp (sI (xAsk (xOut σ k) k p0 q0) 1 k)))) k) (xAsk (xOut σ k) k p0 q0) k = σ' := by rw [← hX, h14]; show xCome (cgw (xAsk (xOut σ k) k p0 q0) (if sj (opp (sI σ 1 k)) = (sj (sI σ 1 k)) then _ else _) k) (xAsk (xOut σ k) k p0 q0) k = _; rw [if_neg (sj_opp hsd)]
    have hpk : 0 < (sI (xAsk (xOut σ k) k p0 q0) 8 k).toInt → (sI (xAsk (xOut σ k) k p0 q0) 3 k).toInt ≤ 50 * (sI (xAsk (xOut σ k) k p0 q0) 8 k).toInt := by rw [h84, ask_3]; exact fpk_i hv3 (hI.2.2.1 k hk).1 (hI.2.2.1 k hk).2.1
    refine lv_aload_n S.1 S.2.1 d_B_amend_113 rfl (lv_at hl 1 rfl) ?_
    refine lv_aload S.1 S.2.1 d_B_amend_114 (lv_at hl 0 rfl) ?_
    refine m_cv hw (va_runV (As := [.ref (oa k)]) (rest := []) S (c_B_come l γ (mU M1 (oa k) (.inr (2, oc (s1 (s1 (sI (xOut σ k)) 2 k p0) 3 k q0) k))) β oa cp (fun k' => if k' = (sj (sI σ 1 k)) then (L (sj (sI σ 1 k))).eraseIdx z0 else L k') (xAsk (xOut σ k) k p0 q0) σ' hC4 hI4 hL4 k hk h54 (by rw [ask_3]; omega) (by rw [ask_3]; omega) hpk hcp hcpl hX4 hT hrk) (m_cwV 1 S g486 g488 g8 g41 g489 rfl rfl ⟨by decide +kernel, by decide +kernel, by decide +kernel⟩ ⟨(Nat.le_of_ble_eq_true rfl), (Nat.le_of_ble_eq_true rfl)⟩) (hw.preV hC4.book cl_B.1) rfl rfl hl.1 rfl (lv_room (Nat.le_of_ble_eq_true rfl)) d_B_amend_116 ⟨(by show _ + (kC (stn σ') - kC (stn (xAsk (xOut σ k) k p0 q0)) + 1) ≤ kC (stn σ') - kC (stn σ) + 1; rw [show stn (xAsk (xOut σ k) k p0 q0) = stn σ from rfl]; simp), (by show _ + (kS (stn σ') - kS (stn (xAsk (xOut σ k) k p0 q0)) + 373) ≤ kS (stn σ') - kS (stn σ) + 373; rw [show stn (xAsk (xOut σ k) k p0 q0) = stn σ from rfl]; simp)⟩) (fun M5 H locs hp hw => ?_)
    obtain ⟨L5, cp5, hC5, hI5, hL5, hc5, hcl5, hf5, hsn5, hrk5⟩ := hp
    have hk5 : k < sn σ' := by rw [hsn5]; exact hk
    refine lv_aload S.1 S.2.1 d_B_amend_119 (lv_at hl 0 rfl) ?_
    refine m_ci hw (va_runV (As := []) (rest := []) S (c_O_rests l γ M5 (oa k) _ _ _ _ _ _ _ _ _ _ (hC5.ord k hk5)) (m_cwV 0 S g270 g244 g245 g54 g246 rfl rfl ⟨by decide +kernel, by decide +kernel, by decide +kernel⟩ ⟨(Nat.le_of_ble_eq_true rfl), (Nat.le_of_ble_eq_true rfl)⟩) (hw.preV (hC5.ord k hk5) cl_O.1) rfl rfl hl.1 rfl (lv_room (Nat.le_of_ble_eq_true rfl)) d_B_amend_121 ⟨(by show _ + (kC (stn σ') - kC (stn (xAsk (xOut σ k) k p0 q0)) + 1) + 0 ≤ kC (stn σ') - kC (stn σ) + 1; rw [show stn (xAsk (xOut σ k) k p0 q0) = stn σ from rfl]; simp), (by show _ + (kS (stn σ') - kS (stn (xAsk (xOut σ k) k p0 q0)) + 373) + 0 ≤ kS (stn σ') - kS (stn σ) + 373; rw [show stn (xAsk (xOut σ k) k p0 q0) = stn σ from rfl]; simp)⟩) (fun r1 M1 H locs hp hw => ?_)
    obtain ⟨rfl, hM1⟩ := hp
    rw [hM1] at hw
    exact m_iret S hlk hr (b2i_nar _) hw ⟨rfl, L5, cp5, hC5, hI5, hL5, hc5, hcl5, hf3.tr (hf4.tr hf5), hsn5, hrk5⟩ (by show _ + (kC (stn σ') - kC (stn (xAsk (xOut σ k) k p0 q0)) + 1) + 0 ≤ kC (stn σ') - kC (stn σ) + 1; rw [show stn (xAsk (xOut σ k) k p0 q0) = stn σ from rfl]; simp) (by show _ + (kS (stn σ') - kS (stn (xAsk (xOut σ k) k p0 q0)) + 373) + 0 ≤ kS (stn σ') - kS (stn σ) + 373; rw [show stn (xAsk (xOut σ k) k p0 q0) = stn σ from rfl]; simp) d_B_amend_124
  · refine lv_iload_n S.1 S.2.1 d_B_amend_74 rfl (lv_at hl 4 rfl) ?_
    refine lv_aload S.1 S.2.1 d_B_amend_75 (lv_at hl 0 rfl) ?_
    refine m_get S hw cl_O hOk 6 (by decide) g398 (fun _ h => h) rfl d_B_amend_77 ?_
    refine lv_icmp_gt (tgt := 92) S.1 S.2.1 d_B_amend_80 rfl (fun h80 => ?_) (fun h80 => ?_)
    · have hX : xCome (cgw (xAsk (xOut σ k) k p0 q0) (L (sj (opp (sI σ 1 k)))) k) (xAsk (xOut σ k) k p0 q0) k = σ' := by rw [← hσ]; unfold xAm; rw [if_neg (fun z => absurd h80 (Int32.not_lt.mpr z.2))]
      have hmono : stn σ ≤ stn σ' := by rw [← hσ]; exact am_tn
      refine lv_aload_n S.1 S.2.1 d_B_amend_92 rfl (lv_at hl 1 rfl) ?_
      refine lv_aload S.1 S.2.1 d_B_amend_93 (lv_at hl 0 rfl) ?_
      refine m_get S hw cl_O hOk 2 (by decide) g389 (fun _ h => h) rfl d_B_amend_95 ?_
      refine m_cq hw (va_runV (As := [.int ((sI σ) 1 k)]) (rest := []) S (c_B_side l γ M β σ.2.1 hC.book (sI σ 1 k)) (m_cwV 1 S g181 g183 g0 g41 g184 rfl rfl ⟨by decide +kernel, by decide +kernel, by decide +kernel⟩ ⟨(Nat.le_of_ble_eq_true rfl), (Nat.le_of_ble_eq_true rfl)⟩) (hw.preV hC.book cl_B.1) rfl rfl hl.1 rfl (lv_room (Nat.le_of_ble_eq_true rfl)) d_B_amend_98 ⟨(Nat.zero_le _), (Nat.zero_le _)⟩) (fun r1 M1 H locs hp hw => ?_)
      obtain ⟨rfl, hM1⟩ := hp
      rw [hM1] at hw
      have hg := hw.noe
      have hLj : Line (sI σ) (sn σ) (sI σ 1 k) (L (sj (sI σ 1 k))) := sj_val hsd hL
      obtain ⟨z0, hz0⟩ := List.getElem?_of_mem ((hLj.1 k).mpr ⟨hk, onS_iff.mpr ⟨hrs, rfl⟩⟩)
      obtain ⟨r0, hA0⟩ := hC.list (sj_or (sI σ 1 k))
      have hmem : ∀ y, y ∈ L (sj (sI σ 1 k)) → y < sn σ := fun y hy => ((hLj.1 y).mp hy).1
      have hE0 : mEl M 2 ((L (sj (sI σ 1 k))).map oa) := hC.ord.el hmem
      obtain ⟨hk1, hk2⟩ := map_first (oa := oa) hz0 hLj.nodup hmem (fun a b ha hb e => hC.ord.inj hn ha hb e)
      refine lv_aload S.1 S.2.1 d_B_amend_101 (lv_at hl 0 rfl) ?_
      refine m_cv hw (va_runV (As := [.ref (oa k)]) (rest := []) S (c_S_leave l γ M (bsd β (sj (sI σ 1 k))) (bal β (sj (sI σ 1 k))) r0 (cp (sj (sI σ 1 k))) ((L (sj (sI σ 1 k))).map oa) (hC.side (sj_or _)) hA0 hE0 (oa k) _ _ _ _ _ _ _ _ _ _ hOk z0 hk1 hk2 (by rw [List.length_map]; exact hLj.len hn)) (m_cwV 1 S g567 g568 g569 g45 g570 rfl rfl ⟨by decide +kernel, by decide +kernel, by decide +kernel⟩ ⟨(Nat.le_of_ble_eq_true rfl), (Nat.le_of_ble_eq_true rfl)⟩) (hw.preV (hC.side (sj_or _)) cl_S.1) rfl rfl hl.1 rfl (lv_room (Nat.le_of_ble_eq_true rfl)) d_B_amend_103 ⟨(Nat.zero_le _), (Nat.zero_le _)⟩) (fun M1 H locs hp hw => ?_)
      obtain ⟨hA9, hF9⟩ := hp
      obtain ⟨hC3, hf3⟩ := hC.left hn hk hg hA0 hA9 hF9
      obtain ⟨hI3, hL3⟩ := LN.out (hI.x k) hL hk hz0
      have hr3 : sI (xOut σ k) 5 k = -1 := s1_ss (sI σ) 5 k (-1)
      refine lv_aload S.1 S.2.1 d_B_amend_106 (lv_at hl 0 rfl) ?_
      refine lv_iload_n S.1 S.2.1 d_B_amend_108 rfl (lv_at hl 3 rfl) ?_
      refine lv_iload_n S.1 S.2.1 d_B_amend_109 rfl (lv_at hl 4 rfl) ?_
      refine m_cv hw (va_runV (As := [.int p0, .int q0]) (rest := []) S (c_O_ask l γ M1 (oa k) _ _ _ _ _ _ _ _ _ _ (hC3.ord k hk) p0 q0) (m_cwV 2 S g427 g428 g429 g54 g430 rfl rfl ⟨by decide +kernel, by decide +kernel, by decide +kernel⟩ ⟨(Nat.le_of_ble_eq_true rfl), (Nat.le_of_ble_eq_true rfl)⟩) (hw.preV (hC3.ord k hk) cl_O.1) rfl rfl hl.1 rfl (lv_room (Nat.le_of_ble_eq_true rfl)) d_B_amend_110 ⟨(Nat.zero_le _), (Nat.zero_le _)⟩) (fun M4 H locs hp hw => ?_)
      rw [hp] at hw
      have hw : mW γ (mU M1 (oa k) (.inr (2, oc (s1 (s1 (sI (xOut σ k)) 2 k p0) 3 k q0) k))) s H locs := by rw [oc_ask]; exact hw
      obtain ⟨hC4, hf4⟩ := hC3.setO hn hk (J := s1 (s1 (sI (xOut σ k)) 2 k p0) 3 k q0) (fun f x hx => by rw [s1_o hx, s1_o hx]) (e := .inr (2, oc (s1 (s1 (sI (xOut σ k)) 2 k p0) 3 k q0) k)) rfl
      have hC4 : CB γ (mU M1 (oa k) (.inr (2, oc (s1 (s1 (sI (xOut σ k)) 2 k p0) 3 k q0) k))) β oa cp (fun k' => if k' = (sj (sI σ 1 k)) then (L (sj (sI σ 1 k))).eraseIdx z0 else L k') (xAsk (xOut σ k) k p0 q0) := hC4
      have hI4 : Inv0 (xAsk (xOut σ k) k p0 q0) := hI3.ask hr3 hp0
      have hL4 : LN (xAsk (xOut σ k) k p0 q0) (fun k' => if k' = (sj (sI σ 1 k)) then (L (sj (sI σ 1 k))).eraseIdx z0 else L k') := hL3.ask hr3
      have h14 : sI (xAsk (xOut σ k) k p0 q0) 1 k = sI σ 1 k := by rw [ask_f (by decide) (by decide)]; exact congrFun (out_f (by decide)) k
      have h84 : sI (xAsk (xOut σ k) k p0 q0) 8 k = sI σ 8 k := by rw [ask_f (by decide) (by decide)]; exact congrFun (out_f (by decide)) k
      have h54 : sI (xAsk (xOut σ k) k p0 q0) 5 k = -1 := by rw [ask_f (by decide) (by decide)]; exact hr3
      have hX4 : xCome (cgw (xAsk (xOut σ k) k p0 q0) ((fun k' => if k' = (sj (sI σ 1 k)) then (L (sj (sI σ 1 k))).eraseIdx z0 else L k') (sj (opp (sI (xAsk (xOut σ k) k p0 q0) 1 k)))) k) (xAsk (xOut σ k) k p0 q0) k = σ' := by rw [← hX, h14]; show xCome (cgw (xAsk (xOut σ k) k p0 q0) (if sj (opp (sI σ 1 k)) = (sj (sI σ 1 k)) then _ else _) k) (xAsk (xOut σ k) k p0 q0) k = _; rw [if_neg (sj_opp hsd)]
      have hpk : 0 < (sI (xAsk (xOut σ k) k p0 q0) 8 k).toInt → (sI (xAsk (xOut σ k) k p0 q0) 3 k).toInt ≤ 50 * (sI (xAsk (xOut σ k) k p0 q0) 8 k).toInt := by rw [h84, ask_3]; exact fpk_i hv3 (hI.2.2.1 k hk).1 (hI.2.2.1 k hk).2.1
      refine lv_aload_n S.1 S.2.1 d_B_amend_113 rfl (lv_at hl 1 rfl) ?_
      refine lv_aload S.1 S.2.1 d_B_amend_114 (lv_at hl 0 rfl) ?_
      refine m_cv hw (va_runV (As := [.ref (oa k)]) (rest := []) S (c_B_come l γ (mU M1 (oa k) (.inr (2, oc (s1 (s1 (sI (xOut σ k)) 2 k p0) 3 k q0) k))) β oa cp (fun k' => if k' = (sj (sI σ 1 k)) then (L (sj (sI σ 1 k))).eraseIdx z0 else L k') (xAsk (xOut σ k) k p0 q0) σ' hC4 hI4 hL4 k hk h54 (by rw [ask_3]; omega) (by rw [ask_3]; omega) hpk hcp hcpl hX4 hT hrk) (m_cwV 1 S g486 g488 g8 g41 g489 rfl rfl ⟨by decide +kernel, by decide +kernel, by decide +kernel⟩ ⟨(Nat.le_of_ble_eq_true rfl), (Nat.le_of_ble_eq_true rfl)⟩) (hw.preV hC4.book cl_B.1) rfl rfl hl.1 rfl (lv_room (Nat.le_of_ble_eq_true rfl)) d_B_amend_116 ⟨(by show _ + (kC (stn σ') - kC (stn (xAsk (xOut σ k) k p0 q0)) + 1) ≤ kC (stn σ') - kC (stn σ) + 1; rw [show stn (xAsk (xOut σ k) k p0 q0) = stn σ from rfl]; simp), (by show _ + (kS (stn σ') - kS (stn (xAsk (xOut σ k) k p0 q0)) + 373) ≤ kS (stn σ') - kS (stn σ) + 373; rw [show stn (xAsk (xOut σ k) k p0 q0) = stn σ from rfl]; simp)⟩) (fun M5 H locs hp hw => ?_)
      obtain ⟨L5, cp5, hC5, hI5, hL5, hc5, hcl5, hf5, hsn5, hrk5⟩ := hp
      have hk5 : k < sn σ' := by rw [hsn5]; exact hk
      refine lv_aload S.1 S.2.1 d_B_amend_119 (lv_at hl 0 rfl) ?_
      refine m_ci hw (va_runV (As := []) (rest := []) S (c_O_rests l γ M5 (oa k) _ _ _ _ _ _ _ _ _ _ (hC5.ord k hk5)) (m_cwV 0 S g270 g244 g245 g54 g246 rfl rfl ⟨by decide +kernel, by decide +kernel, by decide +kernel⟩ ⟨(Nat.le_of_ble_eq_true rfl), (Nat.le_of_ble_eq_true rfl)⟩) (hw.preV (hC5.ord k hk5) cl_O.1) rfl rfl hl.1 rfl (lv_room (Nat.le_of_ble_eq_true rfl)) d_B_amend_121 ⟨(by show _ + (kC (stn σ') - kC (stn (xAsk (xOut σ k) k p0 q0)) + 1) + 0 ≤ kC (stn σ') - kC (stn σ) + 1; rw [show stn (xAsk (xOut σ k) k p0 q0) = stn σ from rfl]; simp), (by show _ + (kS (stn σ') - kS (stn (xAsk (xOut σ k) k p0 q0)) + 373) + 0 ≤ kS (stn σ') - kS (stn σ) + 373; rw [show stn (xAsk (xOut σ k) k p0 q0) = stn σ from rfl]; simp)⟩) (fun r1 M1 H locs hp hw => ?_)
      obtain ⟨rfl, hM1⟩ := hp
      rw [hM1] at hw
      exact m_iret S hlk hr (b2i_nar _) hw ⟨rfl, L5, cp5, hC5, hI5, hL5, hc5, hcl5, hf3.tr (hf4.tr hf5), hsn5, hrk5⟩ (by show _ + (kC (stn σ') - kC (stn (xAsk (xOut σ k) k p0 q0)) + 1) + 0 ≤ kC (stn σ') - kC (stn σ) + 1; rw [show stn (xAsk (xOut σ k) k p0 q0) = stn σ from rfl]; simp) (by show _ + (kS (stn σ') - kS (stn (xAsk (xOut σ k) k p0 q0)) + 373) + 0 ≤ kS (stn σ') - kS (stn σ) + 373; rw [show stn (xAsk (xOut σ k) k p0 q0) = stn σ from rfl]; simp) d_B_amend_124
    · have hE : xLess σ k q0 = σ' := by rw [← hσ]; unfold xAm; rw [if_pos ⟨h71, Int32.not_lt.mp h80⟩]
      subst hE
      have hql : q0.toInt ≤ (sI σ 3 k).toInt := Int32.le_iff_toInt_le.mp (Int32.not_lt.mp h80)
      refine lv_aload S.1 S.2.1 d_B_amend_83 (lv_at hl 0 rfl) ?_
      refine lv_iload_n S.1 S.2.1 d_B_amend_85 rfl (lv_at hl 4 rfl) ?_
      refine m_cv hw (va_runV (As := [.int q0]) (rest := []) S (c_O_lessen l γ M (oa k) _ _ _ _ _ _ _ _ _ _ hOk q0) (m_cwV 1 S g604 g605 g606 g54 g607 rfl rfl ⟨by decide +kernel, by decide +kernel, by decide +kernel⟩ ⟨(Nat.le_of_ble_eq_true rfl), (Nat.le_of_ble_eq_true rfl)⟩) (hw.preV hOk cl_O.1) rfl rfl hl.1 rfl (lv_room (Nat.le_of_ble_eq_true rfl)) d_B_amend_86 ⟨(Nat.zero_le _), (Nat.zero_le _)⟩) (fun M1 H locs hp hw => ?_)
      rw [hp] at hw
      have hw : mW γ (mU M (oa k) (.inr (2, oc (s1 (s1 (sI σ) 3 k q0) 4 k (mn (sI σ 4 k) q0)) k))) s H locs := by rw [oc_less]; exact hw
      obtain ⟨hC3, hf3⟩ := hC.setO hn hk (J := s1 (s1 (sI σ) 3 k q0) 4 k (mn (sI σ 4 k) q0)) (fun f x hx => by rw [s1_o hx, s1_o hx]) (e := .inr (2, oc (s1 (s1 (sI σ) 3 k q0) 4 k (mn (sI σ 4 k) q0)) k)) rfl
      have hC3 : CB γ (mU M (oa k) (.inr (2, oc (s1 (s1 (sI σ) 3 k q0) 4 k (mn (sI σ 4 k) q0)) k))) β oa cp L (xLess σ k q0) := hC3
      refine lv_goto (tgt := 119) S.1 S.2.1 d_B_amend_89 rfl ?_
      refine lv_aload S.1 S.2.1 d_B_amend_119 (lv_at hl 0 rfl) ?_
      refine m_ci hw (va_runV (As := []) (rest := []) S (c_O_rests l γ (mU M (oa k) (.inr (2, oc (s1 (s1 (sI σ) 3 k q0) 4 k (mn (sI σ 4 k) q0)) k))) (oa k) _ _ _ _ _ _ _ _ _ _ (hC3.ord k hk)) (m_cwV 0 S g270 g244 g245 g54 g246 rfl rfl ⟨by decide +kernel, by decide +kernel, by decide +kernel⟩ ⟨(Nat.le_of_ble_eq_true rfl), (Nat.le_of_ble_eq_true rfl)⟩) (hw.preV (hC3.ord k hk) cl_O.1) rfl rfl hl.1 rfl (lv_room (Nat.le_of_ble_eq_true rfl)) d_B_amend_121 ⟨(Nat.zero_le _), (Nat.zero_le _)⟩) (fun r1 M1 H locs hp hw => ?_)
      obtain ⟨rfl, hM1⟩ := hp
      rw [hM1] at hw
      exact m_iret S hlk hr (b2i_nar _) hw ⟨rfl, L, cp, hC3, less_inv hI hk hrs (by omega) hql, hL.cols rfl (less_f (by decide) (by decide)) (less_f (by decide) (by decide)) (less_f (by decide) (by decide)), hcp, hcpl, hf3, rfl, by show (srk σ).toInt ≤ _; omega⟩ (Nat.zero_le _) (Nat.zero_le _) d_B_amend_124
