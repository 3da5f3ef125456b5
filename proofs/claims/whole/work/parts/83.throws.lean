/-! Calls of the class that throw -/
theorem nI_is {j : Int32} {n : Nat} (hn : n ≤ 250) (h0 : ¬ j < 0) (h : j < nI n) : ∃ k, k < n ∧ j = nI k := by
  have h1 : (nI n).toInt = n := nI_toInt (by omega)
  have h2 := Int32.lt_iff_toInt_lt.mp h
  have h3 := Int32.le_iff_toInt_le.mp (Int32.not_lt.mp h0)
  rw [show (0 : Int32).toInt = 0 by decide] at h3
  rw [h1] at h2
  refine ⟨j.toInt.toNat, by omega, Int32.toInt_inj.mp ?_⟩
  rw [nI_toInt (by omega)]
  omega
set_option maxHeartbeats 4000000 in
set_option maxRecDepth 100000 in
theorem x_B_known (l : Launch) (hlT : xTr l) (γ : mG) (M : mMap) (β : BK) (oa cp : Nat → Nat) (L : Nat → List Nat) (σ : St) (hC : CB γ M β oa cp L σ) (hn : sn σ ≤ 250) (j : Int32) (hj : ∀ k, k < sn σ → ¬ j = nI k) : MetX l y_B_known w_B_known ({ frames := 6, cells := 1, slots := 6, locals := 81 } : Room) (mPcX γ M [.ref (bx β), .int j]) "java/lang/IllegalArgumentException" 1 6 := by
  refine m_enterX (by decide) (Nat.le_of_ble_eq_true rfl) ?_
  intro p e s m below meth c ls S hno hr hlk hl hw hx
  have hl : lv_has ls 2 [(0, .ref (bx β)), (1, .int j)] := hl
  obtain ⟨r0, hA0⟩ := hC.alls
  obtain ⟨⟨md0, hl0⟩, -⟩ := id hA0
  have hml : ((List.range (sn σ)).map oa).length = sn σ := rg_len
  refine lv_iload_n S.1 S.2.1 d_B_known_0 rfl (lv_at hl 1 rfl) ?_
  refine lv_if_lt (tgt := 15) S.1 S.2.1 d_B_known_1 rfl (fun h1 => ?_) (fun h1 => ?_)
  · exact m_thr S hno hlk hlT hw hx hl.1 (Or.inl ⟨rfl, rfl⟩) g293 g294 g52 (Nat.le_of_ble_eq_true rfl) (Nat.le_of_ble_eq_true rfl) ⟨(Nat.le_of_ble_eq_true rfl), (Nat.le_of_ble_eq_true rfl), (Nat.le_of_ble_eq_true rfl), (Nat.le_of_ble_eq_true rfl)⟩ d_B_known_15 d_B_known_18 d_B_known_19 d_B_known_22
  · refine lv_iload_n S.1 S.2.1 d_B_known_4 rfl (lv_at hl 1 rfl) ?_
    refine lv_aload_n S.1 S.2.1 d_B_known_5 rfl (lv_at hl 0 rfl) ?_
    refine m_get S hw cl_B hC.book 0 (by decide) g145 (fun _ h => h) rfl d_B_known_6 ?_
    refine m_ci0 hw (va_runV (As := []) (rest := [.int j]) S (c0_AL_size l γ M (bal β 0) md0 _ _ hl0) (m_cwV 0 S g185 g186 g187 g44 g188 rfl rfl ⟨by decide +kernel, by decide +kernel, by decide +kernel⟩ ⟨(Nat.le_of_ble_eq_true rfl), (Nat.le_of_ble_eq_true rfl)⟩) (hw.preV hl0 cl_AL.1) rfl rfl hl.1 rfl (lv_room (Nat.le_of_ble_eq_true rfl)) d_B_known_9 ⟨(Nat.zero_le _), (Nat.zero_le _)⟩) (fun r1 M1 H hp hw => ?_)
    obtain ⟨rfl, hM1⟩ := hp
    rw [hM1] at hw
    refine lv_icmp_lt (tgt := 23) S.1 S.2.1 d_B_known_12 rfl (fun h => absurd h (fun z => by rw [hml] at z; obtain ⟨k, hk, e⟩ := nI_is hn h1 z; exact hj k hk e)) (fun _ => ?_)
    exact m_thr S hno hlk hlT hw hx hl.1 (Or.inl ⟨rfl, rfl⟩) g293 g294 g52 (Nat.le_of_ble_eq_true rfl) (Nat.le_of_ble_eq_true rfl) ⟨(Nat.le_of_ble_eq_true rfl), (Nat.le_of_ble_eq_true rfl), (Nat.le_of_ble_eq_true rfl), (Nat.le_of_ble_eq_true rfl)⟩ d_B_known_15 d_B_known_18 d_B_known_19 d_B_known_22
set_option maxHeartbeats 4000000 in
set_option maxRecDepth 100000 in
theorem x_B_cancelJ (l : Launch) (hlT : xTr l) (γ : mG) (M : mMap) (β : BK) (oa cp : Nat → Nat) (L : Nat → List Nat) (σ : St) (hC : CB γ M β oa cp L σ) (hn : sn σ ≤ 250) (j : Int32) (hj : ∀ k, k < sn σ → ¬ j = nI k) : MetX l y_B_cancel w_B_cancel ({ frames := 7, cells := 1, slots := 6, locals := 102 } : Room) (mPcX γ M [.ref (bx β), .int j]) "java/lang/IllegalArgumentException" 1 6 := by
  refine m_enterX (by decide) (Nat.le_of_ble_eq_true rfl) ?_
  intro p e s m below meth c ls S hno hr hlk hl hw hx
  have hl : lv_has ls 4 [(0, .ref (bx β)), (1, .int j)] := hl
  refine lv_aload_n S.1 S.2.1 d_B_cancel_0 rfl (lv_at hl 0 rfl) ?_
  refine lv_iload_n S.1 S.2.1 d_B_cancel_1 rfl (lv_at hl 1 rfl) ?_
  exact m_rethrow (As := [.int j]) (rest := []) S hno hlk (x_B_known l hlT γ M β oa cp L σ hC hn j hj) (m_cwV 1 S g586 g588 g18 g41 g589 rfl rfl ⟨by decide +kernel, by decide +kernel, by decide +kernel⟩ ⟨(Nat.le_of_ble_eq_true rfl), (Nat.le_of_ble_eq_true rfl)⟩) (hw.preXV hx hC.book cl_B.1) rfl hl.1 (lv_room (Nat.le_of_ble_eq_true rfl)) d_B_cancel_2 ⟨(Nat.le_of_ble_eq_true rfl), (Nat.le_of_ble_eq_true rfl)⟩ (Nat.le_of_ble_eq_true rfl) (Nat.le_of_ble_eq_true rfl) rfl
set_option maxHeartbeats 4000000 in
set_option maxRecDepth 100000 in
theorem x_B_cancelS (l : Launch) (hlT : xTr l) (γ : mG) (M : mMap) (β : BK) (oa cp : Nat → Nat) (L : Nat → List Nat) (σ : St) (hC : CB γ M β oa cp L σ) (hn : sn σ ≤ 250) (k : Nat) (hk : k < sn σ) (hr5 : sI σ 5 k = -1) : MetX l y_B_cancel w_B_cancel ({ frames := 6, cells := 1, slots := 6, locals := 85 } : Room) (mPcX γ M [.ref (bx β), .int (nI k)]) "java/lang/IllegalStateException" 1 6 := by
  refine m_enterX (by decide) (Nat.le_of_ble_eq_true rfl) ?_
  intro p e s m below meth c ls S hno hr hlk hl hw hx
  have hl : lv_has ls 4 [(0, .ref (bx β)), (1, .int (nI k))] := hl
  have hOk := hC.ord k hk
  refine lv_aload_n S.1 S.2.1 d_B_cancel_0 rfl (lv_at hl 0 rfl) ?_
  refine lv_iload_n S.1 S.2.1 d_B_cancel_1 rfl (lv_at hl 1 rfl) ?_
  refine m_cq0 hw (va_runV (As := [.int (nI k)]) (rest := []) S (c0_B_known l γ M β oa cp L σ hC hn k hk) (m_cwV 1 S g586 g588 g18 g41 g589 rfl rfl ⟨by decide +kernel, by decide +kernel, by decide +kernel⟩ ⟨(Nat.le_of_ble_eq_true rfl), (Nat.le_of_ble_eq_true rfl)⟩) (hw.preV hC.book cl_B.1) rfl rfl hl.1 rfl (lv_room (Nat.le_of_ble_eq_true rfl)) d_B_cancel_2 ⟨(Nat.zero_le _), (Nat.zero_le _)⟩) (fun r1 M1 H hp hw => ?_)
  obtain ⟨rfl, hM1⟩ := hp
  rw [hM1] at hw
  refine W.eq (g2 := F0 m 5 ls [.ref (oa k)]) rfl ?_
  refine lv_astore_n S.1 S.2.1 d_B_cancel_5 rfl hl (by decide) rfl (fun ls hl => ?_)
  have hl : lv_has ls 4 [(2, .ref (oa k)), (0, .ref (bx β)), (1, .int (nI k))] := hl
  refine lv_aload_n S.1 S.2.1 d_B_cancel_6 rfl (lv_at hl 0 rfl) ?_
  refine m_ci0 hw (va_runV (As := []) (rest := []) S (c0_O_rests l γ M (oa k) _ _ _ _ _ _ _ _ _ _ hOk) (m_cwV 0 S g270 g244 g245 g54 g246 rfl rfl ⟨by decide +kernel, by decide +kernel, by decide +kernel⟩ ⟨(Nat.le_of_ble_eq_true rfl), (Nat.le_of_ble_eq_true rfl)⟩) (hw.preV hOk cl_O.1) rfl rfl hl.1 rfl (lv_room (Nat.le_of_ble_eq_true rfl)) d_B_cancel_7 ⟨(Nat.zero_le _), (Nat.zero_le _)⟩) (fun r1 M1 H hp hw => ?_)
  obtain ⟨rfl, hM1⟩ := hp
  rw [hM1] at hw
  refine lv_if_ne (tgt := 21) S.1 S.2.1 d_B_cancel_10 rfl (fun h => absurd (b2i_0.mpr (decide_eq_false (fun z => z hr5))) h) (fun _ => ?_)
  exact m_thr S hno hlk hlT hw hx hl.1 (Or.inr ⟨rfl, rfl⟩) g364 g365 g53 (Nat.le_of_ble_eq_true rfl) (Nat.le_of_ble_eq_true rfl) ⟨(Nat.le_of_ble_eq_true rfl), (Nat.le_of_ble_eq_true rfl), (Nat.le_of_ble_eq_true rfl), (Nat.le_of_ble_eq_true rfl)⟩ d_B_cancel_13 d_B_cancel_16 d_B_cancel_17 d_B_cancel_20
set_option maxHeartbeats 4000000 in
set_option maxRecDepth 100000 in
theorem x_B_cancelAll (l : Launch) (hlT : xTr l) (γ : mG) (M : mMap) (β : BK) (oa cp : Nat → Nat) (L : Nat → List Nat) (σ : St) (hC : CB γ M β oa cp L σ) (w0 : Int32) (hv : rg 0 9 w0 = false) : MetX l y_B_cancelAll w_B_cancelAll ({ frames := 6, cells := 1, slots := 6, locals := 81 } : Room) (mPcX γ M [.ref (bx β), .int w0]) "java/lang/IllegalArgumentException" 1 6 := by
  refine m_enterX (by decide) (Nat.le_of_ble_eq_true rfl) ?_
  intro p e s m below meth c ls S hno hr hlk hl hw hx
  have hl : lv_has ls 5 [(0, .ref (bx β)), (1, .int w0)] := hl
  refine lv_iload_n S.1 S.2.1 d_B_cancelAll_0 rfl (lv_at hl 1 rfl) ?_
  refine m_ci0 hw (va_runS (As := [.int w0]) (rest := []) S (c0_B_isOwner l γ M w0) (m_cwS 1 S g283 g284 g41 g285 rfl rfl ⟨by decide +kernel, by decide +kernel, by decide +kernel⟩ ⟨(Nat.le_of_ble_eq_true rfl), (Nat.le_of_ble_eq_true rfl)⟩) hw.preS rfl rfl hl.1 rfl (lv_room (Nat.le_of_ble_eq_true rfl)) d_B_cancelAll_1 ⟨(Nat.zero_le _), (Nat.zero_le _)⟩) (fun r1 M1 H hp hw => ?_)
  obtain ⟨rfl, hM1⟩ := hp
  rw [hM1] at hw
  refine lv_if_ne (tgt := 15) S.1 S.2.1 d_B_cancelAll_4 rfl (fun h => absurd (b2i_0.mpr hv) h) (fun _ => ?_)
  exact m_thr S hno hlk hlT hw hx hl.1 (Or.inl ⟨rfl, rfl⟩) g293 g294 g52 (Nat.le_of_ble_eq_true rfl) (Nat.le_of_ble_eq_true rfl) ⟨(Nat.le_of_ble_eq_true rfl), (Nat.le_of_ble_eq_true rfl), (Nat.le_of_ble_eq_true rfl), (Nat.le_of_ble_eq_true rfl)⟩ d_B_cancelAll_7 d_B_cancelAll_10 d_B_cancelAll_11 d_B_cancelAll_14
set_option maxHeartbeats 4000000 in
set_option maxRecDepth 100000 in
theorem x_B_amendJ (l : Launch) (hlT : xTr l) (γ : mG) (M : mMap) (β : BK) (oa cp : Nat → Nat) (L : Nat → List Nat) (σ : St) (hC : CB γ M β oa cp L σ) (hn : sn σ ≤ 250) (j : Int32) (hj : ∀ k, k < sn σ → ¬ j = nI k) (p0 q0 : Int32) : MetX l y_B_amend w_B_amend ({ frames := 7, cells := 1, slots := 6, locals := 102 } : Room) (mPcX γ M [.ref (bx β), .int j, .int p0, .int q0]) "java/lang/IllegalArgumentException" 1 6 := by
  refine m_enterX (by decide) (Nat.le_of_ble_eq_true rfl) ?_
  intro p e s m below meth c ls S hno hr hlk hl hw hx
  have hl : lv_has ls 5 [(0, .ref (bx β)), (1, .int j), (2, .int p0), (3, .int q0)] := hl
  refine lv_aload_n S.1 S.2.1 d_B_amend_0 rfl (lv_at hl 0 rfl) ?_
  refine lv_iload_n S.1 S.2.1 d_B_amend_1 rfl (lv_at hl 1 rfl) ?_
  exact m_rethrow (As := [.int j]) (rest := []) S hno hlk (x_B_known l hlT γ M β oa cp L σ hC hn j hj) (m_cwV 1 S g586 g588 g18 g41 g589 rfl rfl ⟨by decide +kernel, by decide +kernel, by decide +kernel⟩ ⟨(Nat.le_of_ble_eq_true rfl), (Nat.le_of_ble_eq_true rfl)⟩) (hw.preXV hx hC.book cl_B.1) rfl hl.1 (lv_room (Nat.le_of_ble_eq_true rfl)) d_B_amend_2 ⟨(Nat.le_of_ble_eq_true rfl), (Nat.le_of_ble_eq_true rfl)⟩ (Nat.le_of_ble_eq_true rfl) (Nat.le_of_ble_eq_true rfl) rfl
set_option maxHeartbeats 4000000 in
set_option maxRecDepth 100000 in
theorem x_B_amendA (l : Launch) (hlT : xTr l) (γ : mG) (M : mMap) (β : BK) (oa cp : Nat → Nat) (L : Nat → List Nat) (σ : St) (hC : CB γ M β oa cp L σ) (hn : sn σ ≤ 250) (k : Nat) (hk : k < sn σ) (p0 q0 : Int32) (hv : (rg 0 2000 p0 && rg 1 100000 q0 && fpk q0 (sI σ 8 k)) = false) : MetX l y_B_amend w_B_amend ({ frames := 6, cells := 1, slots := 6, locals := 85 } : Room) (mPcX γ M [.ref (bx β), .int (nI k), .int p0, .int q0]) "java/lang/IllegalArgumentException" 1 6 := by
  refine m_enterX (by decide) (Nat.le_of_ble_eq_true rfl) ?_
  intro p e s m below meth c ls S hno hr hlk hl hw hx
  have hl : lv_has ls 5 [(0, .ref (bx β)), (1, .int (nI k)), (2, .int p0), (3, .int q0)] := hl
  have hOk := hC.ord k hk
  refine lv_aload_n S.1 S.2.1 d_B_amend_0 rfl (lv_at hl 0 rfl) ?_
  refine lv_iload_n S.1 S.2.1 d_B_amend_1 rfl (lv_at hl 1 rfl) ?_
  refine m_cq0 hw (va_runV (As := [.int (nI k)]) (rest := []) S (c0_B_known l γ M β oa cp L σ hC hn k hk) (m_cwV 1 S g586 g588 g18 g41 g589 rfl rfl ⟨by decide +kernel, by decide +kernel, by decide +kernel⟩ ⟨(Nat.le_of_ble_eq_true rfl), (Nat.le_of_ble_eq_true rfl)⟩) (hw.preV hC.book cl_B.1) rfl rfl hl.1 rfl (lv_room (Nat.le_of_ble_eq_true rfl)) d_B_amend_2 ⟨(Nat.zero_le _), (Nat.zero_le _)⟩) (fun r1 M1 H hp hw => ?_)
  obtain ⟨rfl, hM1⟩ := hp
  rw [hM1] at hw
  refine W.eq (g2 := F0 m 5 ls [.ref (oa k)]) rfl ?_
  refine lv_astore S.1 S.2.1 d_B_amend_5 hl (by decide) rfl (fun ls hl => ?_)
  have hl : lv_has ls 5 [(4, .ref (oa k)), (0, .ref (bx β)), (1, .int (nI k)), (2, .int p0), (3, .int q0)] := hl
  refine lv_iload_n S.1 S.2.1 d_B_amend_7 rfl (lv_at hl 3 rfl) ?_
  refine m_ci0 hw (va_runS (As := [.int p0]) (rest := []) S (c0_B_isPriceOrMarket l γ M p0) (m_cwS 1 S g286 g287 g41 g288 rfl rfl ⟨by decide +kernel, by decide +kernel, by decide +kernel⟩ ⟨(Nat.le_of_ble_eq_true rfl), (Nat.le_of_ble_eq_true rfl)⟩) hw.preS rfl rfl hl.1 rfl (lv_room (Nat.le_of_ble_eq_true rfl)) d_B_amend_8 ⟨(Nat.zero_le _), (Nat.zero_le _)⟩) (fun r1 M1 H hp hw => ?_)
  obtain ⟨rfl, hM1⟩ := hp
  rw [hM1] at hw
  refine lv_if_eq (tgt := 33) S.1 S.2.1 d_B_amend_11 rfl (fun h11 => ?_) (fun h11 => ?_)
  · exact m_thr S hno hlk hlT hw hx hl.1 (Or.inl ⟨rfl, rfl⟩) g293 g294 g52 (Nat.le_of_ble_eq_true rfl) (Nat.le_of_ble_eq_true rfl) ⟨(Nat.le_of_ble_eq_true rfl), (Nat.le_of_ble_eq_true rfl), (Nat.le_of_ble_eq_true rfl), (Nat.le_of_ble_eq_true rfl)⟩ d_B_amend_33 d_B_amend_36 d_B_amend_37 d_B_amend_40
  · refine lv_iload_n S.1 S.2.1 d_B_amend_14 rfl (lv_at hl 4 rfl) ?_
    refine m_ci0 hw (va_runS (As := [.int q0]) (rest := []) S (c0_B_isQuantity l γ M q0) (m_cwS 1 S g289 g290 g41 g291 rfl rfl ⟨by decide +kernel, by decide +kernel, by decide +kernel⟩ ⟨(Nat.le_of_ble_eq_true rfl), (Nat.le_of_ble_eq_true rfl)⟩) hw.preS rfl rfl hl.1 rfl (lv_room (Nat.le_of_ble_eq_true rfl)) d_B_amend_15 ⟨(Nat.zero_le _), (Nat.zero_le _)⟩) (fun r1 M1 H hp hw => ?_)
    obtain ⟨rfl, hM1⟩ := hp
    rw [hM1] at hw
    refine lv_if_eq (tgt := 33) S.1 S.2.1 d_B_amend_18 rfl (fun h18 => ?_) (fun h18 => ?_)
    · exact m_thr S hno hlk hlT hw hx hl.1 (Or.inl ⟨rfl, rfl⟩) g293 g294 g52 (Nat.le_of_ble_eq_true rfl) (Nat.le_of_ble_eq_true rfl) ⟨(Nat.le_of_ble_eq_true rfl), (Nat.le_of_ble_eq_true rfl), (Nat.le_of_ble_eq_true rfl), (Nat.le_of_ble_eq_true rfl)⟩ d_B_amend_33 d_B_amend_36 d_B_amend_37 d_B_amend_40
    · refine lv_iload_n S.1 S.2.1 d_B_amend_21 rfl (lv_at hl 4 rfl) ?_
      refine lv_aload S.1 S.2.1 d_B_amend_22 (lv_at hl 0 rfl) ?_
      refine m_get S hw cl_O hOk 3 (by decide) g391 (fun _ h => h) rfl d_B_amend_24 ?_
      refine m_ci0 hw (va_runS (As := [.int q0, .int ((sI σ) 8 k)]) (rest := []) S (c0_B_fitsPeak l γ M q0 (sI σ 8 k)) (m_cwS 2 S g358 g359 g41 g360 rfl rfl ⟨by decide +kernel, by decide +kernel, by decide +kernel⟩ ⟨(Nat.le_of_ble_eq_true rfl), (Nat.le_of_ble_eq_true rfl)⟩) hw.preS rfl rfl hl.1 rfl (lv_room (Nat.le_of_ble_eq_true rfl)) d_B_amend_27 ⟨(Nat.zero_le _), (Nat.zero_le _)⟩) (fun r1 M1 H hp hw => ?_)
      obtain ⟨rfl, hM1⟩ := hp
      rw [hM1] at hw
      refine lv_if_ne (tgt := 41) S.1 S.2.1 d_B_amend_30 rfl (fun h30 => ?_) (fun h30 => ?_)
      · exfalso
        rw [b2i_n0.mp h11, b2i_n0.mp h18, b2i_n0.mp h30] at hv
        cases hv
      · exact m_thr S hno hlk hlT hw hx hl.1 (Or.inl ⟨rfl, rfl⟩) g293 g294 g52 (Nat.le_of_ble_eq_true rfl) (Nat.le_of_ble_eq_true rfl) ⟨(Nat.le_of_ble_eq_true rfl), (Nat.le_of_ble_eq_true rfl), (Nat.le_of_ble_eq_true rfl), (Nat.le_of_ble_eq_true rfl)⟩ d_B_amend_33 d_B_amend_36 d_B_amend_37 d_B_amend_40
set_option maxHeartbeats 4000000 in
set_option maxRecDepth 100000 in
theorem x_B_amendS (l : Launch) (hlT : xTr l) (γ : mG) (M : mMap) (β : BK) (oa cp : Nat → Nat) (L : Nat → List Nat) (σ : St) (hC : CB γ M β oa cp L σ) (hn : sn σ ≤ 250) (k : Nat) (hk : k < sn σ) (p0 q0 : Int32) (hv1 : rg 0 2000 p0 = true) (hv2 : rg 1 100000 q0 = true) (hv3 : fpk q0 (sI σ 8 k) = true) (hv : sI σ 5 k = -1 ∨ sph σ = 2) : MetX l y_B_amend w_B_amend ({ frames := 6, cells := 1, slots := 6, locals := 85 } : Room) (mPcX γ M [.ref (bx β), .int (nI k), .int p0, .int q0]) "java/lang/IllegalStateException" 1 6 := by
  refine m_enterX (by decide) (Nat.le_of_ble_eq_true rfl) ?_
  intro p e s m below meth c ls S hno hr hlk hl hw hx
  have hl : lv_has ls 5 [(0, .ref (bx β)), (1, .int (nI k)), (2, .int p0), (3, .int q0)] := hl
  have hOk := hC.ord k hk
  refine lv_aload_n S.1 S.2.1 d_B_amend_0 rfl (lv_at hl 0 rfl) ?_
  refine lv_iload_n S.1 S.2.1 d_B_amend_1 rfl (lv_at hl 1 rfl) ?_
  refine m_cq0 hw (va_runV (As := [.int (nI k)]) (rest := []) S (c0_B_known l γ M β oa cp L σ hC hn k hk) (m_cwV 1 S g586 g588 g18 g41 g589 rfl rfl ⟨by decide +kernel, by decide +kernel, by decide +kernel⟩ ⟨(Nat.le_of_ble_eq_true rfl), (Nat.le_of_ble_eq_true rfl)⟩) (hw.preV hC.book cl_B.1) rfl rfl hl.1 rfl (lv_room (Nat.le_of_ble_eq_true rfl)) d_B_amend_2 ⟨(Nat.zero_le _), (Nat.zero_le _)⟩) (fun r1 M1 H hp hw => ?_)
  obtain ⟨rfl, hM1⟩ := hp
  rw [hM1] at hw
  refine W.eq (g2 := F0 m 5 ls [.ref (oa k)]) rfl ?_
  refine lv_astore S.1 S.2.1 d_B_amend_5 hl (by decide) rfl (fun ls hl => ?_)
  have hl : lv_has ls 5 [(4, .ref (oa k)), (0, .ref (bx β)), (1, .int (nI k)), (2, .int p0), (3, .int q0)] := hl
  refine lv_iload_n S.1 S.2.1 d_B_amend_7 rfl (lv_at hl 3 rfl) ?_
  refine m_ci0 hw (va_runS (As := [.int p0]) (rest := []) S (c0_B_isPriceOrMarket l γ M p0) (m_cwS 1 S g286 g287 g41 g288 rfl rfl ⟨by decide +kernel, by decide +kernel, by decide +kernel⟩ ⟨(Nat.le_of_ble_eq_true rfl), (Nat.le_of_ble_eq_true rfl)⟩) hw.preS rfl rfl hl.1 rfl (lv_room (Nat.le_of_ble_eq_true rfl)) d_B_amend_8 ⟨(Nat.zero_le _), (Nat.zero_le _)⟩) (fun r1 M1 H hp hw => ?_)
  obtain ⟨rfl, hM1⟩ := hp
  rw [hM1] at hw
  refine lv_if_eq (tgt := 33) S.1 S.2.1 d_B_amend_11 rfl (fun h => absurd h (b2i_n0.mpr hv1)) (fun _ => ?_)
  refine lv_iload_n S.1 S.2.1 d_B_amend_14 rfl (lv_at hl 4 rfl) ?_
  refine m_ci0 hw (va_runS (As := [.int q0]) (rest := []) S (c0_B_isQuantity l γ M q0) (m_cwS 1 S g289 g290 g41 g291 rfl rfl ⟨by decide +kernel, by decide +kernel, by decide +kernel⟩ ⟨(Nat.le_of_ble_eq_true rfl), (Nat.le_of_ble_eq_true rfl)⟩) hw.preS rfl rfl hl.1 rfl (lv_room (Nat.le_of_ble_eq_true rfl)) d_B_amend_15 ⟨(Nat.zero_le _), (Nat.zero_le _)⟩) (fun r1 M1 H hp hw => ?_)
  obtain ⟨rfl, hM1⟩ := hp
  rw [hM1] at hw
  refine lv_if_eq (tgt := 33) S.1 S.2.1 d_B_amend_18 rfl (fun h => absurd h (b2i_n0.mpr hv2)) (fun _ => ?_)
  refine lv_iload_n S.1 S.2.1 d_B_amend_21 rfl (lv_at hl 4 rfl) ?_
  refine lv_aload S.1 S.2.1 d_B_amend_22 (lv_at hl 0 rfl) ?_
  refine m_get S hw cl_O hOk 3 (by decide) g391 (fun _ h => h) rfl d_B_amend_24 ?_
  refine m_ci0 hw (va_runS (As := [.int q0, .int ((sI σ) 8 k)]) (rest := []) S (c0_B_fitsPeak l γ M q0 (sI σ 8 k)) (m_cwS 2 S g358 g359 g41 g360 rfl rfl ⟨by decide +kernel, by decide +kernel, by decide +kernel⟩ ⟨(Nat.le_of_ble_eq_true rfl), (Nat.le_of_ble_eq_true rfl)⟩) hw.preS rfl rfl hl.1 rfl (lv_room (Nat.le_of_ble_eq_true rfl)) d_B_amend_27 ⟨(Nat.zero_le _), (Nat.zero_le _)⟩) (fun r1 M1 H hp hw => ?_)
  obtain ⟨rfl, hM1⟩ := hp
  rw [hM1] at hw
  refine lv_if_ne (tgt := 41) S.1 S.2.1 d_B_amend_30 rfl (fun _ => ?_) (fun h => absurd h (b2i_n0.mpr hv3))
  refine lv_aload S.1 S.2.1 d_B_amend_41 (lv_at hl 0 rfl) ?_
  refine m_ci0 hw (va_runV (As := []) (rest := []) S (c0_O_rests l γ M (oa k) _ _ _ _ _ _ _ _ _ _ hOk) (m_cwV 0 S g270 g244 g245 g54 g246 rfl rfl ⟨by decide +kernel, by decide +kernel, by decide +kernel⟩ ⟨(Nat.le_of_ble_eq_true rfl), (Nat.le_of_ble_eq_true rfl)⟩) (hw.preV hOk cl_O.1) rfl rfl hl.1 rfl (lv_room (Nat.le_of_ble_eq_true rfl)) d_B_amend_43 ⟨(Nat.zero_le _), (Nat.zero_le _)⟩) (fun r1 M1 H hp hw => ?_)
  obtain ⟨rfl, hM1⟩ := hp
  rw [hM1] at hw
  refine lv_if_eq (tgt := 57) S.1 S.2.1 d_B_amend_46 rfl (fun h46 => ?_) (fun h46 => ?_)
  · exact m_thr S hno hlk hlT hw hx hl.1 (Or.inr ⟨rfl, rfl⟩) g364 g365 g53 (Nat.le_of_ble_eq_true rfl) (Nat.le_of_ble_eq_true rfl) ⟨(Nat.le_of_ble_eq_true rfl), (Nat.le_of_ble_eq_true rfl), (Nat.le_of_ble_eq_true rfl), (Nat.le_of_ble_eq_true rfl)⟩ d_B_amend_57 d_B_amend_60 d_B_amend_61 d_B_amend_64
  · refine lv_aload_n S.1 S.2.1 d_B_amend_49 rfl (lv_at hl 1 rfl) ?_
    refine m_get S hw cl_B hC.book 5 (by decide) g150 (fun _ h => h) rfl d_B_amend_50 ?_
    refine lv_iconst (v := 2) S.1 S.2.1 d_B_amend_53 (by decide) ?_
    refine lv_icmp_ne (tgt := 65) S.1 S.2.1 d_B_amend_54 rfl (fun h54 => ?_) (fun h54 => ?_)
    · exfalso
      have q : ¬ sI σ 5 k = -1 := of_decide_eq_true (b2i_n0.mp h46)
      exact hv.elim q h54
    · exact m_thr S hno hlk hlT hw hx hl.1 (Or.inr ⟨rfl, rfl⟩) g364 g365 g53 (Nat.le_of_ble_eq_true rfl) (Nat.le_of_ble_eq_true rfl) ⟨(Nat.le_of_ble_eq_true rfl), (Nat.le_of_ble_eq_true rfl), (Nat.le_of_ble_eq_true rfl), (Nat.le_of_ble_eq_true rfl)⟩ d_B_amend_57 d_B_amend_60 d_B_amend_61 d_B_amend_64
set_option maxHeartbeats 4000000 in
set_option maxRecDepth 100000 in
theorem x_B_open (l : Launch) (hlT : xTr l) (γ : mG) (M : mMap) (β : BK) (oa cp : Nat → Nat) (L : Nat → List Nat) (σ : St) (hC : CB γ M β oa cp L σ) (hph : sph σ = 1) : MetX l y_B_open w_B_open ({ frames := 6, cells := 1, slots := 6, locals := 81 } : Room) (mPcX γ M [.ref (bx β)]) "java/lang/IllegalStateException" 1 6 := by
  refine m_enterX (by decide) (Nat.le_of_ble_eq_true rfl) ?_
  intro p e s m below meth c ls S hno hr hlk hl hw hx
  have hl : lv_has ls 2 [(0, .ref (bx β))] := hl
  refine lv_aload_n S.1 S.2.1 d_B_open_0 rfl (lv_at hl 0 rfl) ?_
  refine m_get S hw cl_B hC.book 5 (by decide) g150 (fun _ h => h) rfl d_B_open_1 ?_
  refine lv_iconst (v := 1) S.1 S.2.1 d_B_open_4 (by decide) ?_
  refine lv_icmp_ne (tgt := 16) S.1 S.2.1 d_B_open_5 rfl (fun h => absurd hph h) (fun _ => ?_)
  exact m_thr S hno hlk hlT hw hx hl.1 (Or.inr ⟨rfl, rfl⟩) g364 g365 g53 (Nat.le_of_ble_eq_true rfl) (Nat.le_of_ble_eq_true rfl) ⟨(Nat.le_of_ble_eq_true rfl), (Nat.le_of_ble_eq_true rfl), (Nat.le_of_ble_eq_true rfl), (Nat.le_of_ble_eq_true rfl)⟩ d_B_open_8 d_B_open_11 d_B_open_12 d_B_open_15
set_option maxHeartbeats 4000000 in
set_option maxRecDepth 100000 in
theorem x_B_band (l : Launch) (hlT : xTr l) (γ : mG) (M : mMap) (β : BK) (oa cp : Nat → Nat) (L : Nat → List Nat) (σ : St) (hC : CB γ M β oa cp L σ) (a0 b0 : Int32) (hv : (rg 1 2000 a0 && rg 0 2000 b0) = false) : MetX l y_B_band w_B_band ({ frames := 6, cells := 1, slots := 6, locals := 81 } : Room) (mPcX γ M [.ref (bx β), .int a0, .int b0]) "java/lang/IllegalArgumentException" 1 6 := by
  refine m_enterX (by decide) (Nat.le_of_ble_eq_true rfl) ?_
  intro p e s m below meth c ls S hno hr hlk hl hw hx
  have hl : lv_has ls 4 [(0, .ref (bx β)), (1, .int a0), (2, .int b0)] := hl
  refine lv_iload_n S.1 S.2.1 d_B_band_0 rfl (lv_at hl 1 rfl) ?_
  refine lv_iconst (v := 1) S.1 S.2.1 d_B_band_1 (by decide) ?_
  refine lv_icmp_lt (tgt := 23) S.1 S.2.1 d_B_band_2 rfl (fun h2 => ?_) (fun h2 => ?_)
  · exact m_thr S hno hlk hlT hw hx hl.1 (Or.inl ⟨rfl, rfl⟩) g293 g294 g52 (Nat.le_of_ble_eq_true rfl) (Nat.le_of_ble_eq_true rfl) ⟨(Nat.le_of_ble_eq_true rfl), (Nat.le_of_ble_eq_true rfl), (Nat.le_of_ble_eq_true rfl), (Nat.le_of_ble_eq_true rfl)⟩ d_B_band_23 d_B_band_26 d_B_band_27 d_B_band_30
  · refine lv_iload_n S.1 S.2.1 d_B_band_5 rfl (lv_at hl 1 rfl) ?_
    refine lv_sipush (v := 2000) S.1 S.2.1 d_B_band_6 (by decide) ?_
    refine lv_icmp_gt (tgt := 23) S.1 S.2.1 d_B_band_9 rfl (fun h9 => ?_) (fun h9 => ?_)
    · exact m_thr S hno hlk hlT hw hx hl.1 (Or.inl ⟨rfl, rfl⟩) g293 g294 g52 (Nat.le_of_ble_eq_true rfl) (Nat.le_of_ble_eq_true rfl) ⟨(Nat.le_of_ble_eq_true rfl), (Nat.le_of_ble_eq_true rfl), (Nat.le_of_ble_eq_true rfl), (Nat.le_of_ble_eq_true rfl)⟩ d_B_band_23 d_B_band_26 d_B_band_27 d_B_band_30
    · refine lv_iload_n S.1 S.2.1 d_B_band_12 rfl (lv_at hl 2 rfl) ?_
      refine lv_if_lt (tgt := 23) S.1 S.2.1 d_B_band_13 rfl (fun h13 => ?_) (fun h13 => ?_)
      · exact m_thr S hno hlk hlT hw hx hl.1 (Or.inl ⟨rfl, rfl⟩) g293 g294 g52 (Nat.le_of_ble_eq_true rfl) (Nat.le_of_ble_eq_true rfl) ⟨(Nat.le_of_ble_eq_true rfl), (Nat.le_of_ble_eq_true rfl), (Nat.le_of_ble_eq_true rfl), (Nat.le_of_ble_eq_true rfl)⟩ d_B_band_23 d_B_band_26 d_B_band_27 d_B_band_30
      · refine lv_iload_n S.1 S.2.1 d_B_band_16 rfl (lv_at hl 2 rfl) ?_
        refine lv_sipush (v := 2000) S.1 S.2.1 d_B_band_17 (by decide) ?_
        refine lv_icmp_le (tgt := 31) S.1 S.2.1 d_B_band_20 rfl (fun h20 => ?_) (fun h20 => ?_)
        · exfalso
          rw [rg_in h2 h9, rg_in h13 (Int32.not_lt.mpr h20)] at hv
          cases hv
        · exact m_thr S hno hlk hlT hw hx hl.1 (Or.inl ⟨rfl, rfl⟩) g293 g294 g52 (Nat.le_of_ble_eq_true rfl) (Nat.le_of_ble_eq_true rfl) ⟨(Nat.le_of_ble_eq_true rfl), (Nat.le_of_ble_eq_true rfl), (Nat.le_of_ble_eq_true rfl), (Nat.le_of_ble_eq_true rfl)⟩ d_B_band_23 d_B_band_26 d_B_band_27 d_B_band_30
set_option maxHeartbeats 4000000 in
set_option maxRecDepth 100000 in
theorem x_B_clearing (l : Launch) (hlT : xTr l) (γ : mG) (M : mMap) (β : BK) (oa cp : Nat → Nat) (L : Nat → List Nat) (σ : St) (hC : CB γ M β oa cp L σ) (w0 : Int32) (hv : rg 0 2 w0 = false) : MetX l y_B_clearing w_B_clearing ({ frames := 6, cells := 1, slots := 6, locals := 81 } : Room) (mPcX γ M [.ref (bx β), .int w0]) "java/lang/IllegalArgumentException" 1 6 := by
  refine m_enterX (by decide) (Nat.le_of_ble_eq_true rfl) ?_
  intro p e s m below meth c ls S hno hr hlk hl hw hx
  have hl : lv_has ls 2 [(0, .ref (bx β)), (1, .int w0)] := hl
  refine lv_iload_n S.1 S.2.1 d_B_clearing_0 rfl (lv_at hl 1 rfl) ?_
  refine lv_if_lt (tgt := 9) S.1 S.2.1 d_B_clearing_1 rfl (fun h1 => ?_) (fun h1 => ?_)
  · exact m_thr S hno hlk hlT hw hx hl.1 (Or.inl ⟨rfl, rfl⟩) g293 g294 g52 (Nat.le_of_ble_eq_true rfl) (Nat.le_of_ble_eq_true rfl) ⟨(Nat.le_of_ble_eq_true rfl), (Nat.le_of_ble_eq_true rfl), (Nat.le_of_ble_eq_true rfl), (Nat.le_of_ble_eq_true rfl)⟩ d_B_clearing_9 d_B_clearing_12 d_B_clearing_13 d_B_clearing_16
  · refine lv_iload_n S.1 S.2.1 d_B_clearing_4 rfl (lv_at hl 1 rfl) ?_
    refine lv_iconst (v := 2) S.1 S.2.1 d_B_clearing_5 (by decide) ?_
    refine lv_icmp_le (tgt := 17) S.1 S.2.1 d_B_clearing_6 rfl (fun h6 => ?_) (fun h6 => ?_)
    · exfalso
      rw [rg_in h1 (Int32.not_lt.mpr h6)] at hv
      cases hv
    · exact m_thr S hno hlk hlT hw hx hl.1 (Or.inl ⟨rfl, rfl⟩) g293 g294 g52 (Nat.le_of_ble_eq_true rfl) (Nat.le_of_ble_eq_true rfl) ⟨(Nat.le_of_ble_eq_true rfl), (Nat.le_of_ble_eq_true rfl), (Nat.le_of_ble_eq_true rfl), (Nat.le_of_ble_eq_true rfl)⟩ d_B_clearing_9 d_B_clearing_12 d_B_clearing_13 d_B_clearing_16
set_option maxHeartbeats 4000000 in
set_option maxRecDepth 100000 in
theorem x_B_orderJ (l : Launch) (hlT : xTr l) (γ : mG) (M : mMap) (β : BK) (oa cp : Nat → Nat) (L : Nat → List Nat) (σ : St) (hC : CB γ M β oa cp L σ) (hn : sn σ ≤ 250) (j : Int32) (hj : ∀ k, k < sn σ → ¬ j = nI k) (w0 : Int32) : MetX l y_B_order w_B_order ({ frames := 7, cells := 1, slots := 6, locals := 102 } : Room) (mPcX γ M [.ref (bx β), .int j, .int w0]) "java/lang/IllegalArgumentException" 1 6 := by
  refine m_enterX (by decide) (Nat.le_of_ble_eq_true rfl) ?_
  intro p e s m below meth c ls S hno hr hlk hl hw hx
  have hl : lv_has ls 4 [(0, .ref (bx β)), (1, .int j), (2, .int w0)] := hl
  refine lv_aload_n S.1 S.2.1 d_B_order_0 rfl (lv_at hl 0 rfl) ?_
  refine lv_iload_n S.1 S.2.1 d_B_order_1 rfl (lv_at hl 1 rfl) ?_
  exact m_rethrow (As := [.int j]) (rest := []) S hno hlk (x_B_known l hlT γ M β oa cp L σ hC hn j hj) (m_cwV 1 S g586 g588 g18 g41 g589 rfl rfl ⟨by decide +kernel, by decide +kernel, by decide +kernel⟩ ⟨(Nat.le_of_ble_eq_true rfl), (Nat.le_of_ble_eq_true rfl)⟩) (hw.preXV hx hC.book cl_B.1) rfl hl.1 (lv_room (Nat.le_of_ble_eq_true rfl)) d_B_order_2 ⟨(Nat.le_of_ble_eq_true rfl), (Nat.le_of_ble_eq_true rfl)⟩ (Nat.le_of_ble_eq_true rfl) (Nat.le_of_ble_eq_true rfl) rfl
set_option maxHeartbeats 4000000 in
set_option maxRecDepth 100000 in
theorem x_B_orderW (l : Launch) (hlT : xTr l) (γ : mG) (M : mMap) (β : BK) (oa cp : Nat → Nat) (L : Nat → List Nat) (σ : St) (hC : CB γ M β oa cp L σ) (hn : sn σ ≤ 250) (k : Nat) (hk : k < sn σ) (w0 : Int32) (hv : rg 0 8 w0 = false) : MetX l y_B_order w_B_order ({ frames := 6, cells := 1, slots := 6, locals := 85 } : Room) (mPcX γ M [.ref (bx β), .int (nI k), .int w0]) "java/lang/IllegalArgumentException" 1 6 := by
  refine m_enterX (by decide) (Nat.le_of_ble_eq_true rfl) ?_
  intro p e s m below meth c ls S hno hr hlk hl hw hx
  have hl : lv_has ls 4 [(0, .ref (bx β)), (1, .int (nI k)), (2, .int w0)] := hl
  have hOk := hC.ord k hk
  refine lv_aload_n S.1 S.2.1 d_B_order_0 rfl (lv_at hl 0 rfl) ?_
  refine lv_iload_n S.1 S.2.1 d_B_order_1 rfl (lv_at hl 1 rfl) ?_
  refine m_cq0 hw (va_runV (As := [.int (nI k)]) (rest := []) S (c0_B_known l γ M β oa cp L σ hC hn k hk) (m_cwV 1 S g586 g588 g18 g41 g589 rfl rfl ⟨by decide +kernel, by decide +kernel, by decide +kernel⟩ ⟨(Nat.le_of_ble_eq_true rfl), (Nat.le_of_ble_eq_true rfl)⟩) (hw.preV hC.book cl_B.1) rfl rfl hl.1 rfl (lv_room (Nat.le_of_ble_eq_true rfl)) d_B_order_2 ⟨(Nat.zero_le _), (Nat.zero_le _)⟩) (fun r1 M1 H hp hw => ?_)
  obtain ⟨rfl, hM1⟩ := hp
  rw [hM1] at hw
  refine W.eq (g2 := F0 m 5 ls [.ref (oa k)]) rfl ?_
  refine lv_astore_n S.1 S.2.1 d_B_order_5 rfl hl (by decide) rfl (fun ls hl => ?_)
  have hl : lv_has ls 4 [(3, .ref (oa k)), (0, .ref (bx β)), (1, .int (nI k)), (2, .int w0)] := hl
  refine lv_iload_n S.1 S.2.1 d_B_order_6 rfl (lv_at hl 3 rfl) ?_
  by_cases hs0 : w0 = 0
  · refine lv_tableIn (off := 49) (tgt := 56) S.1 S.2.1 d_B_order_7 (by rw [hs0]; decide) (by rw [hs0]; decide) (by rw [hs0]; decide) (by decide) ?_
    exfalso
    rw [hs0] at hv
    exact absurd hv (by decide)
  by_cases hs1 : w0 = 1
  · refine lv_tableIn (off := 54) (tgt := 61) S.1 S.2.1 d_B_order_7 (by rw [hs1]; decide) (by rw [hs1]; decide) (by rw [hs1]; decide) (by decide) ?_
    exfalso
    rw [hs1] at hv
    exact absurd hv (by decide)
  by_cases hs2 : w0 = 2
  · refine lv_tableIn (off := 67) (tgt := 74) S.1 S.2.1 d_B_order_7 (by rw [hs2]; decide) (by rw [hs2]; decide) (by rw [hs2]; decide) (by decide) ?_
    exfalso
    rw [hs2] at hv
    exact absurd hv (by decide)
  by_cases hs3 : w0 = 3
  · refine lv_tableIn (off := 72) (tgt := 79) S.1 S.2.1 d_B_order_7 (by rw [hs3]; decide) (by rw [hs3]; decide) (by rw [hs3]; decide) (by decide) ?_
    exfalso
    rw [hs3] at hv
    exact absurd hv (by decide)
  by_cases hs4 : w0 = 4
  · refine lv_tableIn (off := 77) (tgt := 84) S.1 S.2.1 d_B_order_7 (by rw [hs4]; decide) (by rw [hs4]; decide) (by rw [hs4]; decide) (by decide) ?_
    exfalso
    rw [hs4] at hv
    exact absurd hv (by decide)
  by_cases hs5 : w0 = 5
  · refine lv_tableIn (off := 82) (tgt := 89) S.1 S.2.1 d_B_order_7 (by rw [hs5]; decide) (by rw [hs5]; decide) (by rw [hs5]; decide) (by decide) ?_
    exfalso
    rw [hs5] at hv
    exact absurd hv (by decide)
  by_cases hs6 : w0 = 6
  · refine lv_tableIn (off := 87) (tgt := 94) S.1 S.2.1 d_B_order_7 (by rw [hs6]; decide) (by rw [hs6]; decide) (by rw [hs6]; decide) (by decide) ?_
    exfalso
    rw [hs6] at hv
    exact absurd hv (by decide)
  by_cases hs7 : w0 = 7
  · refine lv_tableIn (off := 92) (tgt := 99) S.1 S.2.1 d_B_order_7 (by rw [hs7]; decide) (by rw [hs7]; decide) (by rw [hs7]; decide) (by decide) ?_
    exfalso
    rw [hs7] at hv
    exact absurd hv (by decide)
  by_cases hs8 : w0 = 8
  · refine lv_tableIn (off := 97) (tgt := 104) S.1 S.2.1 d_B_order_7 (by rw [hs8]; decide) (by rw [hs8]; decide) (by rw [hs8]; decide) (by decide) ?_
    exfalso
    rw [hs8] at hv
    exact absurd hv (by decide)
  refine lv_tableOut (tgt := 109) S.1 S.2.1 d_B_order_7 (by have q0 := lv_neT hs0 (show (0 : Int32).toInt = 0 by decide); have q1 := lv_neT hs1 (show (1 : Int32).toInt = 1 by decide); have q2 := lv_neT hs2 (show (2 : Int32).toInt = 2 by decide); have q3 := lv_neT hs3 (show (3 : Int32).toInt = 3 by decide); have q4 := lv_neT hs4 (show (4 : Int32).toInt = 4 by decide); have q5 := lv_neT hs5 (show (5 : Int32).toInt = 5 by decide); have q6 := lv_neT hs6 (show (6 : Int32).toInt = 6 by decide); have q7 := lv_neT hs7 (show (7 : Int32).toInt = 7 by decide); have q8 := lv_neT hs8 (show (8 : Int32).toInt = 8 by decide); omega) (by decide) ?_
  exact m_thr S hno hlk hlT hw hx hl.1 (Or.inl ⟨rfl, rfl⟩) g293 g294 g52 (Nat.le_of_ble_eq_true rfl) (Nat.le_of_ble_eq_true rfl) ⟨(Nat.le_of_ble_eq_true rfl), (Nat.le_of_ble_eq_true rfl), (Nat.le_of_ble_eq_true rfl), (Nat.le_of_ble_eq_true rfl)⟩ d_B_order_109 d_B_order_112 d_B_order_113 d_B_order_116
set_option maxHeartbeats 4000000 in
set_option maxRecDepth 100000 in
theorem x_B_depth (l : Launch) (hlT : xTr l) (γ : mG) (M : mMap) (β : BK) (oa cp : Nat → Nat) (L : Nat → List Nat) (σ : St) (hC : CB γ M β oa cp L σ) (b0 p0 f0 : Int32) (hv : rg 0 2000 p0 = false) : MetX l y_B_depth w_B_depth ({ frames := 6, cells := 1, slots := 6, locals := 81 } : Room) (mPcX γ M [.ref (bx β), .int b0, .int p0, .int f0]) "java/lang/IllegalArgumentException" 1 6 := by
  refine m_enterX (by decide) (Nat.le_of_ble_eq_true rfl) ?_
  intro p e s m below meth c ls S hno hr hlk hl hw hx
  have hl : lv_has ls 9 [(0, .ref (bx β)), (1, .int b0), (2, .int p0), (3, .int f0)] := hl
  refine lv_iload_n S.1 S.2.1 d_B_depth_0 rfl (lv_at hl 2 rfl) ?_
  refine m_ci0 hw (va_runS (As := [.int p0]) (rest := []) S (c0_B_isPriceOrMarket l γ M p0) (m_cwS 1 S g286 g287 g41 g288 rfl rfl ⟨by decide +kernel, by decide +kernel, by decide +kernel⟩ ⟨(Nat.le_of_ble_eq_true rfl), (Nat.le_of_ble_eq_true rfl)⟩) hw.preS rfl rfl hl.1 rfl (lv_room (Nat.le_of_ble_eq_true rfl)) d_B_depth_1 ⟨(Nat.zero_le _), (Nat.zero_le _)⟩) (fun r1 M1 H hp hw => ?_)
  obtain ⟨rfl, hM1⟩ := hp
  rw [hM1] at hw
  refine lv_if_ne (tgt := 15) S.1 S.2.1 d_B_depth_4 rfl (fun h => absurd (b2i_0.mpr hv) h) (fun _ => ?_)
  exact m_thr S hno hlk hlT hw hx hl.1 (Or.inl ⟨rfl, rfl⟩) g293 g294 g52 (Nat.le_of_ble_eq_true rfl) (Nat.le_of_ble_eq_true rfl) ⟨(Nat.le_of_ble_eq_true rfl), (Nat.le_of_ble_eq_true rfl), (Nat.le_of_ble_eq_true rfl), (Nat.le_of_ble_eq_true rfl)⟩ d_B_depth_7 d_B_depth_10 d_B_depth_11 d_B_depth_14
set_option maxHeartbeats 4000000 in
set_option maxRecDepth 100000 in
theorem x_B_placeA (l : Launch) (hlT : xTr l) (γ : mG) (M : mMap) (β : BK) (oa cp : Nat → Nat) (L : Nat → List Nat) (σ : St) (hC : CB γ M β oa cp L σ) (w0 b0 p0 q0 k0 f0 : Int32) (hv : (rg 0 9 w0 && rg 0 2000 p0 && rg 1 100000 q0 && rg 0 100000 k0 && fpk q0 k0 && rg 0 2 f0 && (decide (k0 = 0) || decide (f0 = 0))) = false) : MetX l y_B_place w_B_place ({ frames := 6, cells := 1, slots := 6, locals := 81 } : Room) (mPcX γ M [.ref (bx β), .int w0, .int b0, .int p0, .int q0, .int k0, .int f0]) "java/lang/IllegalArgumentException" 1 6 := by
  refine m_enterX (by decide) (Nat.le_of_ble_eq_true rfl) ?_
  intro p e s m below meth c ls S hno hr hlk hl hw hx
  have hl : lv_has ls 9 [(0, .ref (bx β)), (1, .int w0), (2, .int b0), (3, .int p0), (4, .int q0), (5, .int k0), (6, .int f0)] := hl
  obtain ⟨r0, hA0⟩ := hC.alls
  obtain ⟨⟨md0, hl0⟩, -⟩ := id hA0
  have hml : ((List.range (sn σ)).map oa).length = sn σ := rg_len
  refine lv_iload_n S.1 S.2.1 d_B_place_0 rfl (lv_at hl 1 rfl) ?_
  refine m_ci0 hw (va_runS (As := [.int w0]) (rest := []) S (c0_B_isOwner l γ M w0) (m_cwS 1 S g283 g284 g41 g285 rfl rfl ⟨by decide +kernel, by decide +kernel, by decide +kernel⟩ ⟨(Nat.le_of_ble_eq_true rfl), (Nat.le_of_ble_eq_true rfl)⟩) hw.preS rfl rfl hl.1 rfl (lv_room (Nat.le_of_ble_eq_true rfl)) d_B_place_1 ⟨(Nat.zero_le _), (Nat.zero_le _)⟩) (fun r1 M1 H hp hw => ?_)
  obtain ⟨rfl, hM1⟩ := hp
  rw [hM1] at hw
  refine lv_if_eq (tgt := 22) S.1 S.2.1 d_B_place_4 rfl (fun h4 => ?_) (fun h4 => ?_)
  · exact m_thr S hno hlk hlT hw hx hl.1 (Or.inl ⟨rfl, rfl⟩) g293 g294 g52 (Nat.le_of_ble_eq_true rfl) (Nat.le_of_ble_eq_true rfl) ⟨(Nat.le_of_ble_eq_true rfl), (Nat.le_of_ble_eq_true rfl), (Nat.le_of_ble_eq_true rfl), (Nat.le_of_ble_eq_true rfl)⟩ d_B_place_22 d_B_place_25 d_B_place_26 d_B_place_29
  · refine lv_iload_n S.1 S.2.1 d_B_place_7 rfl (lv_at hl 3 rfl) ?_
    refine m_ci0 hw (va_runS (As := [.int p0]) (rest := []) S (c0_B_isPriceOrMarket l γ M p0) (m_cwS 1 S g286 g287 g41 g288 rfl rfl ⟨by decide +kernel, by decide +kernel, by decide +kernel⟩ ⟨(Nat.le_of_ble_eq_true rfl), (Nat.le_of_ble_eq_true rfl)⟩) hw.preS rfl rfl hl.1 rfl (lv_room (Nat.le_of_ble_eq_true rfl)) d_B_place_8 ⟨(Nat.zero_le _), (Nat.zero_le _)⟩) (fun r1 M1 H hp hw => ?_)
    obtain ⟨rfl, hM1⟩ := hp
    rw [hM1] at hw
    refine lv_if_eq (tgt := 22) S.1 S.2.1 d_B_place_11 rfl (fun h11 => ?_) (fun h11 => ?_)
    · exact m_thr S hno hlk hlT hw hx hl.1 (Or.inl ⟨rfl, rfl⟩) g293 g294 g52 (Nat.le_of_ble_eq_true rfl) (Nat.le_of_ble_eq_true rfl) ⟨(Nat.le_of_ble_eq_true rfl), (Nat.le_of_ble_eq_true rfl), (Nat.le_of_ble_eq_true rfl), (Nat.le_of_ble_eq_true rfl)⟩ d_B_place_22 d_B_place_25 d_B_place_26 d_B_place_29
    · refine lv_iload S.1 S.2.1 d_B_place_14 (lv_at hl 4 rfl) ?_
      refine m_ci0 hw (va_runS (As := [.int q0]) (rest := []) S (c0_B_isQuantity l γ M q0) (m_cwS 1 S g289 g290 g41 g291 rfl rfl ⟨by decide +kernel, by decide +kernel, by decide +kernel⟩ ⟨(Nat.le_of_ble_eq_true rfl), (Nat.le_of_ble_eq_true rfl)⟩) hw.preS rfl rfl hl.1 rfl (lv_room (Nat.le_of_ble_eq_true rfl)) d_B_place_16 ⟨(Nat.zero_le _), (Nat.zero_le _)⟩) (fun r1 M1 H hp hw => ?_)
      obtain ⟨rfl, hM1⟩ := hp
      rw [hM1] at hw
      refine lv_if_ne (tgt := 30) S.1 S.2.1 d_B_place_19 rfl (fun h19 => ?_) (fun h19 => ?_)
      · refine lv_iload S.1 S.2.1 d_B_place_30 (lv_at hl 5 rfl) ?_
        refine m_ci0 hw (va_runS (As := [.int k0]) (rest := []) S (c0_B_isPeak l γ M k0) (m_cwS 1 S g355 g356 g41 g357 rfl rfl ⟨by decide +kernel, by decide +kernel, by decide +kernel⟩ ⟨(Nat.le_of_ble_eq_true rfl), (Nat.le_of_ble_eq_true rfl)⟩) hw.preS rfl rfl hl.1 rfl (lv_room (Nat.le_of_ble_eq_true rfl)) d_B_place_32 ⟨(Nat.zero_le _), (Nat.zero_le _)⟩) (fun r1 M1 H hp hw => ?_)
        obtain ⟨rfl, hM1⟩ := hp
        rw [hM1] at hw
        refine lv_if_eq (tgt := 56) S.1 S.2.1 d_B_place_35 rfl (fun h35 => ?_) (fun h35 => ?_)
        · exact m_thr S hno hlk hlT hw hx hl.1 (Or.inl ⟨rfl, rfl⟩) g293 g294 g52 (Nat.le_of_ble_eq_true rfl) (Nat.le_of_ble_eq_true rfl) ⟨(Nat.le_of_ble_eq_true rfl), (Nat.le_of_ble_eq_true rfl), (Nat.le_of_ble_eq_true rfl), (Nat.le_of_ble_eq_true rfl)⟩ d_B_place_56 d_B_place_59 d_B_place_60 d_B_place_63
        · refine lv_iload S.1 S.2.1 d_B_place_38 (lv_at hl 4 rfl) ?_
          refine lv_iload S.1 S.2.1 d_B_place_40 (lv_at hl 5 rfl) ?_
          refine m_ci0 hw (va_runS (As := [.int q0, .int k0]) (rest := []) S (c0_B_fitsPeak l γ M q0 k0) (m_cwS 2 S g358 g359 g41 g360 rfl rfl ⟨by decide +kernel, by decide +kernel, by decide +kernel⟩ ⟨(Nat.le_of_ble_eq_true rfl), (Nat.le_of_ble_eq_true rfl)⟩) hw.preS rfl rfl hl.1 rfl (lv_room (Nat.le_of_ble_eq_true rfl)) d_B_place_42 ⟨(Nat.zero_le _), (Nat.zero_le _)⟩) (fun r1 M1 H hp hw => ?_)
          obtain ⟨rfl, hM1⟩ := hp
          rw [hM1] at hw
          refine lv_if_eq (tgt := 56) S.1 S.2.1 d_B_place_45 rfl (fun h45 => ?_) (fun h45 => ?_)
          · exact m_thr S hno hlk hlT hw hx hl.1 (Or.inl ⟨rfl, rfl⟩) g293 g294 g52 (Nat.le_of_ble_eq_true rfl) (Nat.le_of_ble_eq_true rfl) ⟨(Nat.le_of_ble_eq_true rfl), (Nat.le_of_ble_eq_true rfl), (Nat.le_of_ble_eq_true rfl), (Nat.le_of_ble_eq_true rfl)⟩ d_B_place_56 d_B_place_59 d_B_place_60 d_B_place_63
          · refine lv_iload S.1 S.2.1 d_B_place_48 (lv_at hl 6 rfl) ?_
            refine m_ci0 hw (va_runS (As := [.int f0]) (rest := []) S (c0_B_isLife l γ M f0) (m_cwS 1 S g361 g362 g41 g363 rfl rfl ⟨by decide +kernel, by decide +kernel, by decide +kernel⟩ ⟨(Nat.le_of_ble_eq_true rfl), (Nat.le_of_ble_eq_true rfl)⟩) hw.preS rfl rfl hl.1 rfl (lv_room (Nat.le_of_ble_eq_true rfl)) d_B_place_50 ⟨(Nat.zero_le _), (Nat.zero_le _)⟩) (fun r1 M1 H hp hw => ?_)
            obtain ⟨rfl, hM1⟩ := hp
            rw [hM1] at hw
            refine lv_if_ne (tgt := 64) S.1 S.2.1 d_B_place_53 rfl (fun h53 => ?_) (fun h53 => ?_)
            · refine lv_iload S.1 S.2.1 d_B_place_64 (lv_at hl 5 rfl) ?_
              refine lv_if_eq (tgt := 82) S.1 S.2.1 d_B_place_66 rfl (fun h66 => ?_) (fun h66 => ?_)
              · exfalso
                rw [b2i_n0.mp h4, b2i_n0.mp h11, b2i_n0.mp h19, b2i_n0.mp h35, b2i_n0.mp h45, b2i_n0.mp h53, decide_eq_true h66] at hv
                cases hv
              · refine lv_iload S.1 S.2.1 d_B_place_69 (lv_at hl 6 rfl) ?_
                refine lv_if_eq (tgt := 82) S.1 S.2.1 d_B_place_71 rfl (fun h71 => ?_) (fun h71 => ?_)
                · exfalso
                  rw [b2i_n0.mp h4, b2i_n0.mp h11, b2i_n0.mp h19, b2i_n0.mp h35, b2i_n0.mp h45, b2i_n0.mp h53, decide_eq_true h71, Bool.or_true] at hv
                  cases hv
                · exact m_thr S hno hlk hlT hw hx hl.1 (Or.inl ⟨rfl, rfl⟩) g293 g294 g52 (Nat.le_of_ble_eq_true rfl) (Nat.le_of_ble_eq_true rfl) ⟨(Nat.le_of_ble_eq_true rfl), (Nat.le_of_ble_eq_true rfl), (Nat.le_of_ble_eq_true rfl), (Nat.le_of_ble_eq_true rfl)⟩ d_B_place_74 d_B_place_77 d_B_place_78 d_B_place_81
            · exact m_thr S hno hlk hlT hw hx hl.1 (Or.inl ⟨rfl, rfl⟩) g293 g294 g52 (Nat.le_of_ble_eq_true rfl) (Nat.le_of_ble_eq_true rfl) ⟨(Nat.le_of_ble_eq_true rfl), (Nat.le_of_ble_eq_true rfl), (Nat.le_of_ble_eq_true rfl), (Nat.le_of_ble_eq_true rfl)⟩ d_B_place_56 d_B_place_59 d_B_place_60 d_B_place_63
      · exact m_thr S hno hlk hlT hw hx hl.1 (Or.inl ⟨rfl, rfl⟩) g293 g294 g52 (Nat.le_of_ble_eq_true rfl) (Nat.le_of_ble_eq_true rfl) ⟨(Nat.le_of_ble_eq_true rfl), (Nat.le_of_ble_eq_true rfl), (Nat.le_of_ble_eq_true rfl), (Nat.le_of_ble_eq_true rfl)⟩ d_B_place_22 d_B_place_25 d_B_place_26 d_B_place_29
set_option maxHeartbeats 4000000 in
set_option maxRecDepth 100000 in
theorem x_B_placeS (l : Launch) (hlT : xTr l) (γ : mG) (M : mMap) (β : BK) (oa cp : Nat → Nat) (L : Nat → List Nat) (σ : St) (hC : CB γ M β oa cp L σ) (hn : sn σ ≤ 250) (w0 b0 p0 q0 k0 f0 : Int32) (hv1 : rg 0 9 w0 = true) (hv2 : rg 0 2000 p0 = true) (hv3 : rg 1 100000 q0 = true) (hv4 : rg 0 100000 k0 = true) (hv5 : fpk q0 k0 = true) (hv6 : rg 0 2 f0 = true) (hv7 : k0 = 0 ∨ f0 = 0) (hv : 250 ≤ sn σ ∨ sph σ = 2 ∨ ¬ f0 = 0 ∧ ¬ sph σ = 1) : MetX l y_B_place w_B_place ({ frames := 6, cells := 1, slots := 6, locals := 81 } : Room) (mPcX γ M [.ref (bx β), .int w0, .int b0, .int p0, .int q0, .int k0, .int f0]) "java/lang/IllegalStateException" 1 6 := by
  refine m_enterX (by decide) (Nat.le_of_ble_eq_true rfl) ?_
  intro p e s m below meth c ls S hno hr hlk hl hw hx
  have hl : lv_has ls 9 [(0, .ref (bx β)), (1, .int w0), (2, .int b0), (3, .int p0), (4, .int q0), (5, .int k0), (6, .int f0)] := hl
  obtain ⟨r0, hA0⟩ := hC.alls
  obtain ⟨⟨md0, hl0⟩, -⟩ := id hA0
  have hml : ((List.range (sn σ)).map oa).length = sn σ := rg_len
  refine lv_iload_n S.1 S.2.1 d_B_place_0 rfl (lv_at hl 1 rfl) ?_
  refine m_ci0 hw (va_runS (As := [.int w0]) (rest := []) S (c0_B_isOwner l γ M w0) (m_cwS 1 S g283 g284 g41 g285 rfl rfl ⟨by decide +kernel, by decide +kernel, by decide +kernel⟩ ⟨(Nat.le_of_ble_eq_true rfl), (Nat.le_of_ble_eq_true rfl)⟩) hw.preS rfl rfl hl.1 rfl (lv_room (Nat.le_of_ble_eq_true rfl)) d_B_place_1 ⟨(Nat.zero_le _), (Nat.zero_le _)⟩) (fun r1 M1 H hp hw => ?_)
  obtain ⟨rfl, hM1⟩ := hp
  rw [hM1] at hw
  refine lv_if_eq (tgt := 22) S.1 S.2.1 d_B_place_4 rfl (fun h => absurd h (b2i_n0.mpr hv1)) (fun _ => ?_)
  refine lv_iload_n S.1 S.2.1 d_B_place_7 rfl (lv_at hl 3 rfl) ?_
  refine m_ci0 hw (va_runS (As := [.int p0]) (rest := []) S (c0_B_isPriceOrMarket l γ M p0) (m_cwS 1 S g286 g287 g41 g288 rfl rfl ⟨by decide +kernel, by decide +kernel, by decide +kernel⟩ ⟨(Nat.le_of_ble_eq_true rfl), (Nat.le_of_ble_eq_true rfl)⟩) hw.preS rfl rfl hl.1 rfl (lv_room (Nat.le_of_ble_eq_true rfl)) d_B_place_8 ⟨(Nat.zero_le _), (Nat.zero_le _)⟩) (fun r1 M1 H hp hw => ?_)
  obtain ⟨rfl, hM1⟩ := hp
  rw [hM1] at hw
  refine lv_if_eq (tgt := 22) S.1 S.2.1 d_B_place_11 rfl (fun h => absurd h (b2i_n0.mpr hv2)) (fun _ => ?_)
  refine lv_iload S.1 S.2.1 d_B_place_14 (lv_at hl 4 rfl) ?_
  refine m_ci0 hw (va_runS (As := [.int q0]) (rest := []) S (c0_B_isQuantity l γ M q0) (m_cwS 1 S g289 g290 g41 g291 rfl rfl ⟨by decide +kernel, by decide +kernel, by decide +kernel⟩ ⟨(Nat.le_of_ble_eq_true rfl), (Nat.le_of_ble_eq_true rfl)⟩) hw.preS rfl rfl hl.1 rfl (lv_room (Nat.le_of_ble_eq_true rfl)) d_B_place_16 ⟨(Nat.zero_le _), (Nat.zero_le _)⟩) (fun r1 M1 H hp hw => ?_)
  obtain ⟨rfl, hM1⟩ := hp
  rw [hM1] at hw
  refine lv_if_ne (tgt := 30) S.1 S.2.1 d_B_place_19 rfl (fun _ => ?_) (fun h => absurd h (b2i_n0.mpr hv3))
  refine lv_iload S.1 S.2.1 d_B_place_30 (lv_at hl 5 rfl) ?_
  refine m_ci0 hw (va_runS (As := [.int k0]) (rest := []) S (c0_B_isPeak l γ M k0) (m_cwS 1 S g355 g356 g41 g357 rfl rfl ⟨by decide +kernel, by decide +kernel, by decide +kernel⟩ ⟨(Nat.le_of_ble_eq_true rfl), (Nat.le_of_ble_eq_true rfl)⟩) hw.preS rfl rfl hl.1 rfl (lv_room (Nat.le_of_ble_eq_true rfl)) d_B_place_32 ⟨(Nat.zero_le _), (Nat.zero_le _)⟩) (fun r1 M1 H hp hw => ?_)
  obtain ⟨rfl, hM1⟩ := hp
  rw [hM1] at hw
  refine lv_if_eq (tgt := 56) S.1 S.2.1 d_B_place_35 rfl (fun h => absurd h (b2i_n0.mpr hv4)) (fun _ => ?_)
  refine lv_iload S.1 S.2.1 d_B_place_38 (lv_at hl 4 rfl) ?_
  refine lv_iload S.1 S.2.1 d_B_place_40 (lv_at hl 5 rfl) ?_
  refine m_ci0 hw (va_runS (As := [.int q0, .int k0]) (rest := []) S (c0_B_fitsPeak l γ M q0 k0) (m_cwS 2 S g358 g359 g41 g360 rfl rfl ⟨by decide +kernel, by decide +kernel, by decide +kernel⟩ ⟨(Nat.le_of_ble_eq_true rfl), (Nat.le_of_ble_eq_true rfl)⟩) hw.preS rfl rfl hl.1 rfl (lv_room (Nat.le_of_ble_eq_true rfl)) d_B_place_42 ⟨(Nat.zero_le _), (Nat.zero_le _)⟩) (fun r1 M1 H hp hw => ?_)
  obtain ⟨rfl, hM1⟩ := hp
  rw [hM1] at hw
  refine lv_if_eq (tgt := 56) S.1 S.2.1 d_B_place_45 rfl (fun h => absurd h (b2i_n0.mpr hv5)) (fun _ => ?_)
  refine lv_iload S.1 S.2.1 d_B_place_48 (lv_at hl 6 rfl) ?_
  refine m_ci0 hw (va_runS (As := [.int f0]) (rest := []) S (c0_B_isLife l γ M f0) (m_cwS 1 S g361 g362 g41 g363 rfl rfl ⟨by decide +kernel, by decide +kernel, by decide +kernel⟩ ⟨(Nat.le_of_ble_eq_true rfl), (Nat.le_of_ble_eq_true rfl)⟩) hw.preS rfl rfl hl.1 rfl (lv_room (Nat.le_of_ble_eq_true rfl)) d_B_place_50 ⟨(Nat.zero_le _), (Nat.zero_le _)⟩) (fun r1 M1 H hp hw => ?_)
  obtain ⟨rfl, hM1⟩ := hp
  rw [hM1] at hw
  refine lv_if_ne (tgt := 64) S.1 S.2.1 d_B_place_53 rfl (fun _ => ?_) (fun h => absurd h (b2i_n0.mpr hv6))
  refine lv_iload S.1 S.2.1 d_B_place_64 (lv_at hl 5 rfl) ?_
  refine lv_if_eq (tgt := 82) S.1 S.2.1 d_B_place_66 rfl (fun h66 => ?_) (fun h66 => ?_)
  · refine lv_iload S.1 S.2.1 d_B_place_82 (lv_at hl 6 rfl) ?_
    refine lv_if_eq (tgt := 99) S.1 S.2.1 d_B_place_84 rfl (fun h84 => ?_) (fun h84 => ?_)
    · refine lv_iconst (v := 0) S.1 S.2.1 d_B_place_99 (by decide) ?_
      refine lv_istore S.1 S.2.1 d_B_place_100 hl (by decide) rfl (fun ls hl => ?_)
      have hl : lv_has ls 9 [(7, .int 0), (0, .ref (bx β)), (1, .int w0), (2, .int b0), (3, .int p0), (4, .int q0), (5, .int k0), (6, .int f0)] := hl
      refine lv_aload_n S.1 S.2.1 d_B_place_102 rfl (lv_at hl 1 rfl) ?_
      refine m_get S hw cl_B hC.book 0 (by decide) g145 (fun _ h => h) rfl d_B_place_103 ?_
      refine m_ci0 hw (va_runV (As := []) (rest := []) S (c0_AL_size l γ M (bal β 0) md0 _ _ hl0) (m_cwV 0 S g185 g186 g187 g44 g188 rfl rfl ⟨by decide +kernel, by decide +kernel, by decide +kernel⟩ ⟨(Nat.le_of_ble_eq_true rfl), (Nat.le_of_ble_eq_true rfl)⟩) (hw.preV hl0 cl_AL.1) rfl rfl hl.1 rfl (lv_room (Nat.le_of_ble_eq_true rfl)) d_B_place_106 ⟨(Nat.zero_le _), (Nat.zero_le _)⟩) (fun r1 M1 H hp hw => ?_)
      obtain ⟨rfl, hM1⟩ := hp
      rw [hM1] at hw
      refine lv_sipush (v := 250) S.1 S.2.1 d_B_place_109 (by decide) ?_
      refine lv_icmp_ge (tgt := 128) S.1 S.2.1 d_B_place_112 rfl (fun h112 => ?_) (fun h112 => ?_)
      · exact m_thr S hno hlk hlT hw hx hl.1 (Or.inr ⟨rfl, rfl⟩) g364 g365 g53 (Nat.le_of_ble_eq_true rfl) (Nat.le_of_ble_eq_true rfl) ⟨(Nat.le_of_ble_eq_true rfl), (Nat.le_of_ble_eq_true rfl), (Nat.le_of_ble_eq_true rfl), (Nat.le_of_ble_eq_true rfl)⟩ d_B_place_128 d_B_place_131 d_B_place_132 d_B_place_135
      · refine lv_aload_n S.1 S.2.1 d_B_place_115 rfl (lv_at hl 1 rfl) ?_
        refine m_get S hw cl_B hC.book 5 (by decide) g150 (fun _ h => h) rfl d_B_place_116 ?_
        refine lv_iconst (v := 2) S.1 S.2.1 d_B_place_119 (by decide) ?_
        refine lv_icmp_eq (tgt := 128) S.1 S.2.1 d_B_place_120 rfl (fun h120 => ?_) (fun h120 => ?_)
        · exact m_thr S hno hlk hlT hw hx hl.1 (Or.inr ⟨rfl, rfl⟩) g364 g365 g53 (Nat.le_of_ble_eq_true rfl) (Nat.le_of_ble_eq_true rfl) ⟨(Nat.le_of_ble_eq_true rfl), (Nat.le_of_ble_eq_true rfl), (Nat.le_of_ble_eq_true rfl), (Nat.le_of_ble_eq_true rfl)⟩ d_B_place_128 d_B_place_131 d_B_place_132 d_B_place_135
        · refine lv_iload S.1 S.2.1 d_B_place_123 (lv_at hl 0 rfl) ?_
          refine lv_if_eq (tgt := 136) S.1 S.2.1 d_B_place_125 rfl (fun _ => ?_) (fun h => absurd (show (0 : Int32) = 0 from rfl) h)
          exfalso
          rcases hv with h | h | ⟨h, h'⟩
          · exact h112 (nI_le (by rw [hml]; exact h) (by rw [hml]; omega))
          · exact h120 h
          · exact h h84
    · refine lv_aload_n S.1 S.2.1 d_B_place_87 rfl (lv_at hl 0 rfl) ?_
      refine m_get S hw cl_B hC.book 5 (by decide) g150 (fun _ h => h) rfl d_B_place_88 ?_
      refine lv_iconst (v := 1) S.1 S.2.1 d_B_place_91 (by decide) ?_
      refine lv_icmp_eq (tgt := 99) S.1 S.2.1 d_B_place_92 rfl (fun h92 => ?_) (fun h92 => ?_)
      · refine lv_iconst (v := 0) S.1 S.2.1 d_B_place_99 (by decide) ?_
        refine lv_istore S.1 S.2.1 d_B_place_100 hl (by decide) rfl (fun ls hl => ?_)
        have hl : lv_has ls 9 [(7, .int 0), (0, .ref (bx β)), (1, .int w0), (2, .int b0), (3, .int p0), (4, .int q0), (5, .int k0), (6, .int f0)] := hl
        refine lv_aload_n S.1 S.2.1 d_B_place_102 rfl (lv_at hl 1 rfl) ?_
        refine m_get S hw cl_B hC.book 0 (by decide) g145 (fun _ h => h) rfl d_B_place_103 ?_
        refine m_ci0 hw (va_runV (As := []) (rest := []) S (c0_AL_size l γ M (bal β 0) md0 _ _ hl0) (m_cwV 0 S g185 g186 g187 g44 g188 rfl rfl ⟨by decide +kernel, by decide +kernel, by decide +kernel⟩ ⟨(Nat.le_of_ble_eq_true rfl), (Nat.le_of_ble_eq_true rfl)⟩) (hw.preV hl0 cl_AL.1) rfl rfl hl.1 rfl (lv_room (Nat.le_of_ble_eq_true rfl)) d_B_place_106 ⟨(Nat.zero_le _), (Nat.zero_le _)⟩) (fun r1 M1 H hp hw => ?_)
        obtain ⟨rfl, hM1⟩ := hp
        rw [hM1] at hw
        refine lv_sipush (v := 250) S.1 S.2.1 d_B_place_109 (by decide) ?_
        refine lv_icmp_ge (tgt := 128) S.1 S.2.1 d_B_place_112 rfl (fun h112 => ?_) (fun h112 => ?_)
        · exact m_thr S hno hlk hlT hw hx hl.1 (Or.inr ⟨rfl, rfl⟩) g364 g365 g53 (Nat.le_of_ble_eq_true rfl) (Nat.le_of_ble_eq_true rfl) ⟨(Nat.le_of_ble_eq_true rfl), (Nat.le_of_ble_eq_true rfl), (Nat.le_of_ble_eq_true rfl), (Nat.le_of_ble_eq_true rfl)⟩ d_B_place_128 d_B_place_131 d_B_place_132 d_B_place_135
        · refine lv_aload_n S.1 S.2.1 d_B_place_115 rfl (lv_at hl 1 rfl) ?_
          refine m_get S hw cl_B hC.book 5 (by decide) g150 (fun _ h => h) rfl d_B_place_116 ?_
          refine lv_iconst (v := 2) S.1 S.2.1 d_B_place_119 (by decide) ?_
          refine lv_icmp_eq (tgt := 128) S.1 S.2.1 d_B_place_120 rfl (fun h120 => ?_) (fun h120 => ?_)
          · exact m_thr S hno hlk hlT hw hx hl.1 (Or.inr ⟨rfl, rfl⟩) g364 g365 g53 (Nat.le_of_ble_eq_true rfl) (Nat.le_of_ble_eq_true rfl) ⟨(Nat.le_of_ble_eq_true rfl), (Nat.le_of_ble_eq_true rfl), (Nat.le_of_ble_eq_true rfl), (Nat.le_of_ble_eq_true rfl)⟩ d_B_place_128 d_B_place_131 d_B_place_132 d_B_place_135
          · refine lv_iload S.1 S.2.1 d_B_place_123 (lv_at hl 0 rfl) ?_
            refine lv_if_eq (tgt := 136) S.1 S.2.1 d_B_place_125 rfl (fun _ => ?_) (fun h => absurd (show (0 : Int32) = 0 from rfl) h)
            exfalso
            rcases hv with h | h | ⟨h, h'⟩
            · exact h112 (nI_le (by rw [hml]; exact h) (by rw [hml]; omega))
            · exact h120 h
            · exact h' h92
      · refine lv_iconst (v := 1) S.1 S.2.1 d_B_place_95 (by decide) ?_
        refine lv_goto (tgt := 100) S.1 S.2.1 d_B_place_96 rfl ?_
        refine lv_istore S.1 S.2.1 d_B_place_100 hl (by decide) rfl (fun ls hl => ?_)
        have hl : lv_has ls 9 [(7, .int 1), (0, .ref (bx β)), (1, .int w0), (2, .int b0), (3, .int p0), (4, .int q0), (5, .int k0), (6, .int f0)] := hl
        refine lv_aload_n S.1 S.2.1 d_B_place_102 rfl (lv_at hl 1 rfl) ?_
        refine m_get S hw cl_B hC.book 0 (by decide) g145 (fun _ h => h) rfl d_B_place_103 ?_
        refine m_ci0 hw (va_runV (As := []) (rest := []) S (c0_AL_size l γ M (bal β 0) md0 _ _ hl0) (m_cwV 0 S g185 g186 g187 g44 g188 rfl rfl ⟨by decide +kernel, by decide +kernel, by decide +kernel⟩ ⟨(Nat.le_of_ble_eq_true rfl), (Nat.le_of_ble_eq_true rfl)⟩) (hw.preV hl0 cl_AL.1) rfl rfl hl.1 rfl (lv_room (Nat.le_of_ble_eq_true rfl)) d_B_place_106 ⟨(Nat.zero_le _), (Nat.zero_le _)⟩) (fun r1 M1 H hp hw => ?_)
        obtain ⟨rfl, hM1⟩ := hp
        rw [hM1] at hw
        refine lv_sipush (v := 250) S.1 S.2.1 d_B_place_109 (by decide) ?_
        refine lv_icmp_ge (tgt := 128) S.1 S.2.1 d_B_place_112 rfl (fun h112 => ?_) (fun h112 => ?_)
        · exact m_thr S hno hlk hlT hw hx hl.1 (Or.inr ⟨rfl, rfl⟩) g364 g365 g53 (Nat.le_of_ble_eq_true rfl) (Nat.le_of_ble_eq_true rfl) ⟨(Nat.le_of_ble_eq_true rfl), (Nat.le_of_ble_eq_true rfl), (Nat.le_of_ble_eq_true rfl), (Nat.le_of_ble_eq_true rfl)⟩ d_B_place_128 d_B_place_131 d_B_place_132 d_B_place_135
        · refine lv_aload_n S.1 S.2.1 d_B_place_115 rfl (lv_at hl 1 rfl) ?_
          refine m_get S hw cl_B hC.book 5 (by decide) g150 (fun _ h => h) rfl d_B_place_116 ?_
          refine lv_iconst (v := 2) S.1 S.2.1 d_B_place_119 (by decide) ?_
          refine lv_icmp_eq (tgt := 128) S.1 S.2.1 d_B_place_120 rfl (fun h120 => ?_) (fun h120 => ?_)
          · exact m_thr S hno hlk hlT hw hx hl.1 (Or.inr ⟨rfl, rfl⟩) g364 g365 g53 (Nat.le_of_ble_eq_true rfl) (Nat.le_of_ble_eq_true rfl) ⟨(Nat.le_of_ble_eq_true rfl), (Nat.le_of_ble_eq_true rfl), (Nat.le_of_ble_eq_true rfl), (Nat.le_of_ble_eq_true rfl)⟩ d_B_place_128 d_B_place_131 d_B_place_132 d_B_place_135
          · refine lv_iload S.1 S.2.1 d_B_place_123 (lv_at hl 0 rfl) ?_
            refine lv_if_eq (tgt := 136) S.1 S.2.1 d_B_place_125 rfl (fun h => absurd h (show ¬ (1 : Int32) = 0 by decide)) (fun _ => ?_)
            exact m_thr S hno hlk hlT hw hx hl.1 (Or.inr ⟨rfl, rfl⟩) g364 g365 g53 (Nat.le_of_ble_eq_true rfl) (Nat.le_of_ble_eq_true rfl) ⟨(Nat.le_of_ble_eq_true rfl), (Nat.le_of_ble_eq_true rfl), (Nat.le_of_ble_eq_true rfl), (Nat.le_of_ble_eq_true rfl)⟩ d_B_place_128 d_B_place_131 d_B_place_132 d_B_place_135
  · refine lv_iload S.1 S.2.1 d_B_place_69 (lv_at hl 6 rfl) ?_
    refine lv_if_eq (tgt := 82) S.1 S.2.1 d_B_place_71 rfl (fun _ => ?_) (fun h => absurd (hv7.resolve_left h66) h)
    refine lv_iload S.1 S.2.1 d_B_place_82 (lv_at hl 6 rfl) ?_
    refine lv_if_eq (tgt := 99) S.1 S.2.1 d_B_place_84 rfl (fun h84 => ?_) (fun h84 => ?_)
    · refine lv_iconst (v := 0) S.1 S.2.1 d_B_place_99 (by decide) ?_
      refine lv_istore S.1 S.2.1 d_B_place_100 hl (by decide) rfl (fun ls hl => ?_)
      have hl : lv_has ls 9 [(7, .int 0), (0, .ref (bx β)), (1, .int w0), (2, .int b0), (3, .int p0), (4, .int q0), (5, .int k0), (6, .int f0)] := hl
      refine lv_aload_n S.1 S.2.1 d_B_place_102 rfl (lv_at hl 1 rfl) ?_
      refine m_get S hw cl_B hC.book 0 (by decide) g145 (fun _ h => h) rfl d_B_place_103 ?_
      refine m_ci0 hw (va_runV (As := []) (rest := []) S (c0_AL_size l γ M (bal β 0) md0 _ _ hl0) (m_cwV 0 S g185 g186 g187 g44 g188 rfl rfl ⟨by decide +kernel, by decide +kernel, by decide +kernel⟩ ⟨(Nat.le_of_ble_eq_true rfl), (Nat.le_of_ble_eq_true rfl)⟩) (hw.preV hl0 cl_AL.1) rfl rfl hl.1 rfl (lv_room (Nat.le_of_ble_eq_true rfl)) d_B_place_106 ⟨(Nat.zero_le _), (Nat.zero_le _)⟩) (fun r1 M1 H hp hw => ?_)
      obtain ⟨rfl, hM1⟩ := hp
      rw [hM1] at hw
      refine lv_sipush (v := 250) S.1 S.2.1 d_B_place_109 (by decide) ?_
      refine lv_icmp_ge (tgt := 128) S.1 S.2.1 d_B_place_112 rfl (fun h112 => ?_) (fun h112 => ?_)
      · exact m_thr S hno hlk hlT hw hx hl.1 (Or.inr ⟨rfl, rfl⟩) g364 g365 g53 (Nat.le_of_ble_eq_true rfl) (Nat.le_of_ble_eq_true rfl) ⟨(Nat.le_of_ble_eq_true rfl), (Nat.le_of_ble_eq_true rfl), (Nat.le_of_ble_eq_true rfl), (Nat.le_of_ble_eq_true rfl)⟩ d_B_place_128 d_B_place_131 d_B_place_132 d_B_place_135
      · refine lv_aload_n S.1 S.2.1 d_B_place_115 rfl (lv_at hl 1 rfl) ?_
        refine m_get S hw cl_B hC.book 5 (by decide) g150 (fun _ h => h) rfl d_B_place_116 ?_
        refine lv_iconst (v := 2) S.1 S.2.1 d_B_place_119 (by decide) ?_
        refine lv_icmp_eq (tgt := 128) S.1 S.2.1 d_B_place_120 rfl (fun h120 => ?_) (fun h120 => ?_)
        · exact m_thr S hno hlk hlT hw hx hl.1 (Or.inr ⟨rfl, rfl⟩) g364 g365 g53 (Nat.le_of_ble_eq_true rfl) (Nat.le_of_ble_eq_true rfl) ⟨(Nat.le_of_ble_eq_true rfl), (Nat.le_of_ble_eq_true rfl), (Nat.le_of_ble_eq_true rfl), (Nat.le_of_ble_eq_true rfl)⟩ d_B_place_128 d_B_place_131 d_B_place_132 d_B_place_135
        · refine lv_iload S.1 S.2.1 d_B_place_123 (lv_at hl 0 rfl) ?_
          refine lv_if_eq (tgt := 136) S.1 S.2.1 d_B_place_125 rfl (fun _ => ?_) (fun h => absurd (show (0 : Int32) = 0 from rfl) h)
          exfalso
          rcases hv with h | h | ⟨h, h'⟩
          · exact h112 (nI_le (by rw [hml]; exact h) (by rw [hml]; omega))
          · exact h120 h
          · exact h h84
    · refine lv_aload_n S.1 S.2.1 d_B_place_87 rfl (lv_at hl 0 rfl) ?_
      refine m_get S hw cl_B hC.book 5 (by decide) g150 (fun _ h => h) rfl d_B_place_88 ?_
      refine lv_iconst (v := 1) S.1 S.2.1 d_B_place_91 (by decide) ?_
      refine lv_icmp_eq (tgt := 99) S.1 S.2.1 d_B_place_92 rfl (fun h92 => ?_) (fun h92 => ?_)
      · refine lv_iconst (v := 0) S.1 S.2.1 d_B_place_99 (by decide) ?_
        refine lv_istore S.1 S.2.1 d_B_place_100 hl (by decide) rfl (fun ls hl => ?_)
        have hl : lv_has ls 9 [(7, .int 0), (0, .ref (bx β)), (1, .int w0), (2, .int b0), (3, .int p0), (4, .int q0), (5, .int k0), (6, .int f0)] := hl
        refine lv_aload_n S.1 S.2.1 d_B_place_102 rfl (lv_at hl 1 rfl) ?_
        refine m_get S hw cl_B hC.book 0 (by decide) g145 (fun _ h => h) rfl d_B_place_103 ?_
        refine m_ci0 hw (va_runV (As := []) (rest := []) S (c0_AL_size l γ M (bal β 0) md0 _ _ hl0) (m_cwV 0 S g185 g186 g187 g44 g188 rfl rfl ⟨by decide +kernel, by decide +kernel, by decide +kernel⟩ ⟨(Nat.le_of_ble_eq_true rfl), (Nat.le_of_ble_eq_true rfl)⟩) (hw.preV hl0 cl_AL.1) rfl rfl hl.1 rfl (lv_room (Nat.le_of_ble_eq_true rfl)) d_B_place_106 ⟨(Nat.zero_le _), (Nat.zero_le _)⟩) (fun r1 M1 H hp hw => ?_)
        obtain ⟨rfl, hM1⟩ := hp
        rw [hM1] at hw
        refine lv_sipush (v := 250) S.1 S.2.1 d_B_place_109 (by decide) ?_
        refine lv_icmp_ge (tgt := 128) S.1 S.2.1 d_B_place_112 rfl (fun h112 => ?_) (fun h112 => ?_)
        · exact m_thr S hno hlk hlT hw hx hl.1 (Or.inr ⟨rfl, rfl⟩) g364 g365 g53 (Nat.le_of_ble_eq_true rfl) (Nat.le_of_ble_eq_true rfl) ⟨(Nat.le_of_ble_eq_true rfl), (Nat.le_of_ble_eq_true rfl), (Nat.le_of_ble_eq_true rfl), (Nat.le_of_ble_eq_true rfl)⟩ d_B_place_128 d_B_place_131 d_B_place_132 d_B_place_135
        · refine lv_aload_n S.1 S.2.1 d_B_place_115 rfl (lv_at hl 1 rfl) ?_
          refine m_get S hw cl_B hC.book 5 (by decide) g150 (fun _ h => h) rfl d_B_place_116 ?_
          refine lv_iconst (v := 2) S.1 S.2.1 d_B_place_119 (by decide) ?_
          refine lv_icmp_eq (tgt := 128) S.1 S.2.1 d_B_place_120 rfl (fun h120 => ?_) (fun h120 => ?_)
          · exact m_thr S hno hlk hlT hw hx hl.1 (Or.inr ⟨rfl, rfl⟩) g364 g365 g53 (Nat.le_of_ble_eq_true rfl) (Nat.le_of_ble_eq_true rfl) ⟨(Nat.le_of_ble_eq_true rfl), (Nat.le_of_ble_eq_true rfl), (Nat.le_of_ble_eq_true rfl), (Nat.le_of_ble_eq_true rfl)⟩ d_B_place_128 d_B_place_131 d_B_place_132 d_B_place_135
          · refine lv_iload S.1 S.2.1 d_B_place_123 (lv_at hl 0 rfl) ?_
            refine lv_if_eq (tgt := 136) S.1 S.2.1 d_B_place_125 rfl (fun _ => ?_) (fun h => absurd (show (0 : Int32) = 0 from rfl) h)
            exfalso
            rcases hv with h | h | ⟨h, h'⟩
            · exact h112 (nI_le (by rw [hml]; exact h) (by rw [hml]; omega))
            · exact h120 h
            · exact h' h92
      · refine lv_iconst (v := 1) S.1 S.2.1 d_B_place_95 (by decide) ?_
        refine lv_goto (tgt := 100) S.1 S.2.1 d_B_place_96 rfl ?_
        refine lv_istore S.1 S.2.1 d_B_place_100 hl (by decide) rfl (fun ls hl => ?_)
        have hl : lv_has ls 9 [(7, .int 1), (0, .ref (bx β)), (1, .int w0), (2, .int b0), (3, .int p0), (4, .int q0), (5, .int k0), (6, .int f0)] := hl
        refine lv_aload_n S.1 S.2.1 d_B_place_102 rfl (lv_at hl 1 rfl) ?_
        refine m_get S hw cl_B hC.book 0 (by decide) g145 (fun _ h => h) rfl d_B_place_103 ?_
        refine m_ci0 hw (va_runV (As := []) (rest := []) S (c0_AL_size l γ M (bal β 0) md0 _ _ hl0) (m_cwV 0 S g185 g186 g187 g44 g188 rfl rfl ⟨by decide +kernel, by decide +kernel, by decide +kernel⟩ ⟨(Nat.le_of_ble_eq_true rfl), (Nat.le_of_ble_eq_true rfl)⟩) (hw.preV hl0 cl_AL.1) rfl rfl hl.1 rfl (lv_room (Nat.le_of_ble_eq_true rfl)) d_B_place_106 ⟨(Nat.zero_le _), (Nat.zero_le _)⟩) (fun r1 M1 H hp hw => ?_)
        obtain ⟨rfl, hM1⟩ := hp
        rw [hM1] at hw
        refine lv_sipush (v := 250) S.1 S.2.1 d_B_place_109 (by decide) ?_
        refine lv_icmp_ge (tgt := 128) S.1 S.2.1 d_B_place_112 rfl (fun h112 => ?_) (fun h112 => ?_)
        · exact m_thr S hno hlk hlT hw hx hl.1 (Or.inr ⟨rfl, rfl⟩) g364 g365 g53 (Nat.le_of_ble_eq_true rfl) (Nat.le_of_ble_eq_true rfl) ⟨(Nat.le_of_ble_eq_true rfl), (Nat.le_of_ble_eq_true rfl), (Nat.le_of_ble_eq_true rfl), (Nat.le_of_ble_eq_true rfl)⟩ d_B_place_128 d_B_place_131 d_B_place_132 d_B_place_135
        · refine lv_aload_n S.1 S.2.1 d_B_place_115 rfl (lv_at hl 1 rfl) ?_
          refine m_get S hw cl_B hC.book 5 (by decide) g150 (fun _ h => h) rfl d_B_place_116 ?_
          refine lv_iconst (v := 2) S.1 S.2.1 d_B_place_119 (by decide) ?_
          refine lv_icmp_eq (tgt := 128) S.1 S.2.1 d_B_place_120 rfl (fun h120 => ?_) (fun h120 => ?_)
          · exact m_thr S hno hlk hlT hw hx hl.1 (Or.inr ⟨rfl, rfl⟩) g364 g365 g53 (Nat.le_of_ble_eq_true rfl) (Nat.le_of_ble_eq_true rfl) ⟨(Nat.le_of_ble_eq_true rfl), (Nat.le_of_ble_eq_true rfl), (Nat.le_of_ble_eq_true rfl), (Nat.le_of_ble_eq_true rfl)⟩ d_B_place_128 d_B_place_131 d_B_place_132 d_B_place_135
          · refine lv_iload S.1 S.2.1 d_B_place_123 (lv_at hl 0 rfl) ?_
            refine lv_if_eq (tgt := 136) S.1 S.2.1 d_B_place_125 rfl (fun h => absurd h (show ¬ (1 : Int32) = 0 by decide)) (fun _ => ?_)
            exact m_thr S hno hlk hlT hw hx hl.1 (Or.inr ⟨rfl, rfl⟩) g364 g365 g53 (Nat.le_of_ble_eq_true rfl) (Nat.le_of_ble_eq_true rfl) ⟨(Nat.le_of_ble_eq_true rfl), (Nat.le_of_ble_eq_true rfl), (Nat.le_of_ble_eq_true rfl), (Nat.le_of_ble_eq_true rfl)⟩ d_B_place_128 d_B_place_131 d_B_place_132 d_B_place_135
