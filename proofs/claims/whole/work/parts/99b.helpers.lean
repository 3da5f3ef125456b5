/-! The law's helpers -/
set_option maxHeartbeats 4000000 in
set_option maxRecDepth 100000 in
theorem h_place (l : Launch) (γ : mG) (M : mMap) (β : BK) (oa cp : Nat → Nat) (L : Nat → List Nat) (σ : St) (hC : CB γ M β oa cp L σ) (a : Nat) (fo : Nat → Int64) (ha : M a = some (ouc γ fo)) (hI : Inv0 σ) (hL : LN σ L) (w0 b0 p0 q0 k0 f0 : Int32) (hb0 : b0 = 0 ∨ b0 = 1) (hv1 : rg 0 9 w0 = true) (hv2 : rg 0 2000 p0 = true) (hv3 : rg 1 100000 q0 = true) (hv4 : rg 0 100000 k0 = true) (hv5 : fpk q0 k0 = true) (hv6 : rg 0 2 f0 = true) (hv7 : k0 = 0 ∨ f0 = 0) (hn2 : sn σ < 250) (hph : ¬ sph σ = 2) (hte : f0 = 0 ∨ sph σ = 1) (hcp : cp 3 = cAt (stn σ)) (hcpl : ∀ j, j ≠ 3 → cp j ≤ 373) (σ' : St) (hσ : xCome (cgw (xNew σ w0 b0 p0 q0 k0 f0) (L (sj (opp b0))) (sn σ)) (xNew σ w0 b0 p0 q0 k0 f0) (sn σ) = σ') (hT : stn σ' ≤ 30000) (hrk : (srk σ).toInt ≤ 500000000) : Met l y_L_place w_L_place ({ frames := 13, cells := kC (stn σ') - kC (stn σ) + 3, slots := kS (stn σ') - kS (stn σ) + 756, locals := 324 } : Room) (mPcX γ M [.ref (bx β), .int w0, .int b0, .int p0, .int q0, .int k0, .int f0, .ref a]) (mQi γ (fun r M' => r = 0 ∧ ∃ M1, (∃ oa' L' cp', CB γ M1 β oa' cp' L' σ' ∧ Inv0 σ' ∧ LN σ' L' ∧ cp' 3 = cAt (stn σ') ∧ (∀ j, j ≠ 3 → cp' j ≤ 373) ∧ frC M M1 ∧ sn σ' = sn σ + 1 ∧ (srk σ').toInt ≤ (srk σ).toInt + 100001) ∧ M' = mU M1 a (ouc γ (vp_updL fo 0 ((nI (sn σ)).toInt64))))) (kC (stn σ') - kC (stn σ) + 3) (kS (stn σ') - kS (stn σ) + 756) (mA (gz γ)) := by
  refine m_enterW (by decide) (Nat.le_of_ble_eq_true rfl) ?_
  intro p e s m below meth c ls S htab hr hlk hl hw hx
  have hl : lv_has ls 9 [(0, .ref (bx β)), (1, .int w0), (2, .int b0), (3, .int p0), (4, .int q0), (5, .int k0), (6, .int f0), (7, .ref a)] := hl
  refine lv_aload S.1 S.2.1 d_L_place_0 (lv_at hl 7 rfl) ?_
  refine lv_iconst (v := 0) S.1 S.2.1 d_L_place_2 (by decide) ?_
  refine lv_aload_n S.1 S.2.1 d_L_place_3 rfl (lv_at hl 0 rfl) ?_
  refine lv_iload_n S.1 S.2.1 d_L_place_4 rfl (lv_at hl 1 rfl) ?_
  refine lv_iload_n S.1 S.2.1 d_L_place_5 rfl (lv_at hl 2 rfl) ?_
  refine lv_iload_n S.1 S.2.1 d_L_place_6 rfl (lv_at hl 3 rfl) ?_
  refine lv_iload S.1 S.2.1 d_L_place_7 (lv_at hl 4 rfl) ?_
  refine lv_iload S.1 S.2.1 d_L_place_9 (lv_at hl 5 rfl) ?_
  refine lv_iload S.1 S.2.1 d_L_place_11 (lv_at hl 6 rfl) ?_
  refine m_ci hw (va_runV (As := [.int w0, .int b0, .int p0, .int q0, .int k0, .int f0]) (rest := [.int 0, .ref a]) S (c_B_place l γ M β oa cp L σ hC hI hL w0 b0 p0 q0 k0 f0 hb0 hv1 hv2 hv3 hv4 hv5 hv6 hv7 hn2 hph hte hcp hcpl σ' hσ hT hrk) (m_cwV 6 S g279 g280 g281 g41 g282 rfl rfl ⟨by decide +kernel, by decide +kernel, by decide +kernel⟩ ⟨(Nat.le_of_ble_eq_true rfl), (Nat.le_of_ble_eq_true rfl)⟩) (hw.preV hC.book cl_B.1) rfl rfl hl.1 rfl (lv_room (Nat.le_of_ble_eq_true rfl)) d_L_place_13 ⟨(Nat.le_of_eq (Nat.zero_add _)), (Nat.le_of_eq (Nat.zero_add _))⟩) (fun r1 M1 H locs hp hw => ?_)
  obtain ⟨rfl, hp⟩ := hp
  refine lv_i2l S.1 S.2.1 d_L_place_16 rfl ?_
  refine m_last (f := fo) S hw (by obtain ⟨_, _, _, _, _, _, _, _, hf, _⟩ := hp; exact hf.out ha) (by unfold vp_in; decide) d_L_place_17 (fun H locs hw => ?_)
  refine lv_goto (tgt := 29) S.1 S.2.1 d_L_place_18 rfl ?_
  refine lv_iconst (v := 0) S.1 S.2.1 d_L_place_29 (by decide) ?_
  exact m_iret S hlk hr rfl hw (⟨rfl, M1, hp, rfl⟩) (Nat.le_of_eq (Nat.zero_add _)) (Nat.le_of_eq (Nat.zero_add _)) d_L_place_30
set_option maxHeartbeats 4000000 in
set_option maxRecDepth 100000 in
theorem h_placeA (l : Launch) (hlT : xTr l) (γ : mG) (M : mMap) (β : BK) (oa cp : Nat → Nat) (L : Nat → List Nat) (σ : St) (hC : CB γ M β oa cp L σ) (a : Nat) (w0 b0 p0 q0 k0 f0 : Int32) (hv : (rg 0 9 w0 && rg 0 2000 p0 && rg 1 100000 q0 && rg 0 100000 k0 && fpk q0 k0 && rg 0 2 f0 && (decide (k0 = 0) || decide (f0 = 0))) = false) : Met l y_L_place w_L_place ({ frames := 7, cells := 1, slots := 6, locals := 109 } : Room) (mPcX γ M [.ref (bx β), .int w0, .int b0, .int p0, .int q0, .int k0, .int f0, .ref a]) (mQi γ (fun r M' => r = 1 ∧ M' = M)) 1 6 (mA (gz γ)) := by
  refine m_enterW (by decide) (Nat.le_of_ble_eq_true rfl) ?_
  intro p e s m below meth c ls S htab hr hlk hl hw hx
  have hl : lv_has ls 9 [(0, .ref (bx β)), (1, .int w0), (2, .int b0), (3, .int p0), (4, .int q0), (5, .int k0), (6, .int f0), (7, .ref a)] := hl
  refine lv_aload S.1 S.2.1 d_L_place_0 (lv_at hl 7 rfl) ?_
  refine lv_iconst (v := 0) S.1 S.2.1 d_L_place_2 (by decide) ?_
  refine lv_aload_n S.1 S.2.1 d_L_place_3 rfl (lv_at hl 0 rfl) ?_
  refine lv_iload_n S.1 S.2.1 d_L_place_4 rfl (lv_at hl 1 rfl) ?_
  refine lv_iload_n S.1 S.2.1 d_L_place_5 rfl (lv_at hl 2 rfl) ?_
  refine lv_iload_n S.1 S.2.1 d_L_place_6 rfl (lv_at hl 3 rfl) ?_
  refine lv_iload S.1 S.2.1 d_L_place_7 (lv_at hl 4 rfl) ?_
  refine lv_iload S.1 S.2.1 d_L_place_9 (lv_at hl 5 rfl) ?_
  refine lv_iload S.1 S.2.1 d_L_place_11 (lv_at hl 6 rfl) ?_
  refine m_catch1 (As := [.int w0, .int b0, .int p0, .int q0, .int k0, .int f0]) (rest := [.int 0, .ref a]) S htab (Or.inl rfl) hx hw (x_B_placeA l hlT γ M β oa cp L σ hC w0 b0 p0 q0 k0 f0 hv) (m_cwV 6 S g279 g280 g281 g41 g282 rfl rfl ⟨by decide +kernel, by decide +kernel, by decide +kernel⟩ ⟨(Nat.le_of_ble_eq_true rfl), (Nat.le_of_ble_eq_true rfl)⟩) (hw.preXV hx hC.book cl_B.1) rfl hl.1 (lv_room (Nat.le_of_ble_eq_true rfl)) d_L_place_13 ⟨(Nat.le_of_ble_eq_true rfl), (Nat.le_of_ble_eq_true rfl)⟩ rfl g277 (by decide) (by decide) (fun H q hw => ?_)
  refine lv_astore S.1 S.2.1 d_L_place_21 hl (by decide) rfl (fun ls hl => ?_)
  have hl : lv_has ls 9 [(8, .ref q), (0, .ref (bx β)), (1, .int w0), (2, .int b0), (3, .int p0), (4, .int q0), (5, .int k0), (6, .int f0), (7, .ref a)] := hl
  refine lv_iconst (v := 1) S.1 S.2.1 d_L_place_23 (by decide) ?_
  exact m_iret S hlk hr rfl hw (⟨rfl, rfl⟩) (Nat.le_of_ble_eq_true rfl) (Nat.le_of_ble_eq_true rfl) d_L_place_24
set_option maxHeartbeats 4000000 in
set_option maxRecDepth 100000 in
theorem h_placeS (l : Launch) (hlT : xTr l) (γ : mG) (M : mMap) (β : BK) (oa cp : Nat → Nat) (L : Nat → List Nat) (σ : St) (hC : CB γ M β oa cp L σ) (a : Nat) (hn : sn σ ≤ 250) (w0 b0 p0 q0 k0 f0 : Int32) (hv1 : rg 0 9 w0 = true) (hv2 : rg 0 2000 p0 = true) (hv3 : rg 1 100000 q0 = true) (hv4 : rg 0 100000 k0 = true) (hv5 : fpk q0 k0 = true) (hv6 : rg 0 2 f0 = true) (hv7 : k0 = 0 ∨ f0 = 0) (hv : 250 ≤ sn σ ∨ sph σ = 2 ∨ ¬ f0 = 0 ∧ ¬ sph σ = 1) : Met l y_L_place w_L_place ({ frames := 7, cells := 1, slots := 6, locals := 109 } : Room) (mPcX γ M [.ref (bx β), .int w0, .int b0, .int p0, .int q0, .int k0, .int f0, .ref a]) (mQi γ (fun r M' => r = 2 ∧ M' = M)) 1 6 (mA (gz γ)) := by
  refine m_enterW (by decide) (Nat.le_of_ble_eq_true rfl) ?_
  intro p e s m below meth c ls S htab hr hlk hl hw hx
  have hl : lv_has ls 9 [(0, .ref (bx β)), (1, .int w0), (2, .int b0), (3, .int p0), (4, .int q0), (5, .int k0), (6, .int f0), (7, .ref a)] := hl
  refine lv_aload S.1 S.2.1 d_L_place_0 (lv_at hl 7 rfl) ?_
  refine lv_iconst (v := 0) S.1 S.2.1 d_L_place_2 (by decide) ?_
  refine lv_aload_n S.1 S.2.1 d_L_place_3 rfl (lv_at hl 0 rfl) ?_
  refine lv_iload_n S.1 S.2.1 d_L_place_4 rfl (lv_at hl 1 rfl) ?_
  refine lv_iload_n S.1 S.2.1 d_L_place_5 rfl (lv_at hl 2 rfl) ?_
  refine lv_iload_n S.1 S.2.1 d_L_place_6 rfl (lv_at hl 3 rfl) ?_
  refine lv_iload S.1 S.2.1 d_L_place_7 (lv_at hl 4 rfl) ?_
  refine lv_iload S.1 S.2.1 d_L_place_9 (lv_at hl 5 rfl) ?_
  refine lv_iload S.1 S.2.1 d_L_place_11 (lv_at hl 6 rfl) ?_
  refine m_catch2 (As := [.int w0, .int b0, .int p0, .int q0, .int k0, .int f0]) (rest := [.int 0, .ref a]) S htab hx hw (x_B_placeS l hlT γ M β oa cp L σ hC hn w0 b0 p0 q0 k0 f0 hv1 hv2 hv3 hv4 hv5 hv6 hv7 hv) (m_cwV 6 S g279 g280 g281 g41 g282 rfl rfl ⟨by decide +kernel, by decide +kernel, by decide +kernel⟩ ⟨(Nat.le_of_ble_eq_true rfl), (Nat.le_of_ble_eq_true rfl)⟩) (hw.preXV hx hC.book cl_B.1) rfl hl.1 (lv_room (Nat.le_of_ble_eq_true rfl)) d_L_place_13 ⟨(Nat.le_of_ble_eq_true rfl), (Nat.le_of_ble_eq_true rfl)⟩ rfl g277 (by decide) g278 (by decide) (by decide) (fun H q hw => ?_)
  refine lv_astore S.1 S.2.1 d_L_place_25 hl (by decide) rfl (fun ls hl => ?_)
  have hl : lv_has ls 9 [(8, .ref q), (0, .ref (bx β)), (1, .int w0), (2, .int b0), (3, .int p0), (4, .int q0), (5, .int k0), (6, .int f0), (7, .ref a)] := hl
  refine lv_iconst (v := 2) S.1 S.2.1 d_L_place_27 (by decide) ?_
  exact m_iret S hlk hr rfl hw (⟨rfl, rfl⟩) (Nat.le_of_ble_eq_true rfl) (Nat.le_of_ble_eq_true rfl) d_L_place_28
set_option maxHeartbeats 4000000 in
set_option maxRecDepth 100000 in
theorem h_cancel (l : Launch) (γ : mG) (M : mMap) (β : BK) (oa cp : Nat → Nat) (L : Nat → List Nat) (σ : St) (hC : CB γ M β oa cp L σ) (a : Nat) (fo : Nat → Int64) (ha : M a = some (ouc γ fo)) (hI : Inv0 σ) (hL : LN σ L) (k : Nat) (hk : k < sn σ) (hr5 : ¬ sI σ 5 k = -1) : Met l y_L_cancel w_L_cancel ({ frames := 6, cells := 0, slots := 0, locals := 160 } : Room) (mPcX γ M [.ref (bx β), .int (nI k), .ref a]) (mQi γ (fun r M' => r = 0 ∧ ∃ M1, (∃ L', CB γ M1 β oa cp L' (xEnd σ k) ∧ Inv0 (xEnd σ k) ∧ LN (xEnd σ k) L' ∧ frC M M1) ∧ M' = mU M1 a (ouc γ (vp_updL fo 0 ((sI σ 3 k).toInt64))))) 0 0 (mA (gz γ)) := by
  refine m_enterW (by decide) (Nat.le_of_ble_eq_true rfl) ?_
  intro p e s m below meth c ls S htab hr hlk hl hw hx
  have hl : lv_has ls 4 [(0, .ref (bx β)), (1, .int (nI k)), (2, .ref a)] := hl
  refine lv_aload_n S.1 S.2.1 d_L_cancel_0 rfl (lv_at hl 2 rfl) ?_
  refine lv_iconst (v := 0) S.1 S.2.1 d_L_cancel_1 (by decide) ?_
  refine lv_aload_n S.1 S.2.1 d_L_cancel_2 rfl (lv_at hl 0 rfl) ?_
  refine lv_iload_n S.1 S.2.1 d_L_cancel_3 rfl (lv_at hl 1 rfl) ?_
  refine m_ci hw (va_runV (As := [.int (nI k)]) (rest := [.int 0, .ref a]) S (c_B_cancel l γ M β oa cp L σ hC hI hL k hk hr5) (m_cwV 1 S g582 g583 g584 g41 g585 rfl rfl ⟨by decide +kernel, by decide +kernel, by decide +kernel⟩ ⟨(Nat.le_of_ble_eq_true rfl), (Nat.le_of_ble_eq_true rfl)⟩) (hw.preV hC.book cl_B.1) rfl rfl hl.1 rfl (lv_room (Nat.le_of_ble_eq_true rfl)) d_L_cancel_4 ⟨(Nat.zero_le _), (Nat.zero_le _)⟩) (fun r1 M1 H locs hp hw => ?_)
  obtain ⟨rfl, hp⟩ := hp
  refine lv_i2l S.1 S.2.1 d_L_cancel_7 rfl ?_
  refine m_last (f := fo) S hw (by obtain ⟨_, _, _, _, hf⟩ := hp; exact hf.out ha) (by unfold vp_in; decide) d_L_cancel_8 (fun H locs hw => ?_)
  refine lv_goto (tgt := 18) S.1 S.2.1 d_L_cancel_9 rfl ?_
  refine lv_iconst (v := 0) S.1 S.2.1 d_L_cancel_18 (by decide) ?_
  exact m_iret S hlk hr rfl hw (⟨rfl, M1, hp, rfl⟩) (Nat.le_refl _) (Nat.le_refl _) d_L_cancel_19
set_option maxHeartbeats 4000000 in
set_option maxRecDepth 100000 in
theorem h_cancelJ (l : Launch) (hlT : xTr l) (γ : mG) (M : mMap) (β : BK) (oa cp : Nat → Nat) (L : Nat → List Nat) (σ : St) (hC : CB γ M β oa cp L σ) (a : Nat) (hn : sn σ ≤ 250) (j : Int32) (hj : ∀ k, k < sn σ → ¬ j = nI k) : Met l y_L_cancel w_L_cancel ({ frames := 8, cells := 1, slots := 6, locals := 125 } : Room) (mPcX γ M [.ref (bx β), .int j, .ref a]) (mQi γ (fun r M' => r = 1 ∧ M' = M)) 1 6 (mA (gz γ)) := by
  refine m_enterW (by decide) (Nat.le_of_ble_eq_true rfl) ?_
  intro p e s m below meth c ls S htab hr hlk hl hw hx
  have hl : lv_has ls 4 [(0, .ref (bx β)), (1, .int j), (2, .ref a)] := hl
  refine lv_aload_n S.1 S.2.1 d_L_cancel_0 rfl (lv_at hl 2 rfl) ?_
  refine lv_iconst (v := 0) S.1 S.2.1 d_L_cancel_1 (by decide) ?_
  refine lv_aload_n S.1 S.2.1 d_L_cancel_2 rfl (lv_at hl 0 rfl) ?_
  refine lv_iload_n S.1 S.2.1 d_L_cancel_3 rfl (lv_at hl 1 rfl) ?_
  refine m_catch1 (As := [.int j]) (rest := [.int 0, .ref a]) S htab (Or.inl rfl) hx hw (x_B_cancelJ l hlT γ M β oa cp L σ hC hn j hj) (m_cwV 1 S g582 g583 g584 g41 g585 rfl rfl ⟨by decide +kernel, by decide +kernel, by decide +kernel⟩ ⟨(Nat.le_of_ble_eq_true rfl), (Nat.le_of_ble_eq_true rfl)⟩) (hw.preXV hx hC.book cl_B.1) rfl hl.1 (lv_room (Nat.le_of_ble_eq_true rfl)) d_L_cancel_4 ⟨(Nat.le_of_ble_eq_true rfl), (Nat.le_of_ble_eq_true rfl)⟩ rfl g277 (by decide) (by decide) (fun H q hw => ?_)
  refine lv_astore_n S.1 S.2.1 d_L_cancel_12 rfl hl (by decide) rfl (fun ls hl => ?_)
  have hl : lv_has ls 4 [(3, .ref q), (0, .ref (bx β)), (1, .int j), (2, .ref a)] := hl
  refine lv_iconst (v := 1) S.1 S.2.1 d_L_cancel_13 (by decide) ?_
  exact m_iret S hlk hr rfl hw (⟨rfl, rfl⟩) (Nat.le_of_ble_eq_true rfl) (Nat.le_of_ble_eq_true rfl) d_L_cancel_14
set_option maxHeartbeats 4000000 in
set_option maxRecDepth 100000 in
theorem h_cancelS (l : Launch) (hlT : xTr l) (γ : mG) (M : mMap) (β : BK) (oa cp : Nat → Nat) (L : Nat → List Nat) (σ : St) (hC : CB γ M β oa cp L σ) (a : Nat) (hn : sn σ ≤ 250) (k : Nat) (hk : k < sn σ) (hr5 : sI σ 5 k = -1) : Met l y_L_cancel w_L_cancel ({ frames := 7, cells := 1, slots := 6, locals := 108 } : Room) (mPcX γ M [.ref (bx β), .int (nI k), .ref a]) (mQi γ (fun r M' => r = 2 ∧ M' = M)) 1 6 (mA (gz γ)) := by
  refine m_enterW (by decide) (Nat.le_of_ble_eq_true rfl) ?_
  intro p e s m below meth c ls S htab hr hlk hl hw hx
  have hl : lv_has ls 4 [(0, .ref (bx β)), (1, .int (nI k)), (2, .ref a)] := hl
  refine lv_aload_n S.1 S.2.1 d_L_cancel_0 rfl (lv_at hl 2 rfl) ?_
  refine lv_iconst (v := 0) S.1 S.2.1 d_L_cancel_1 (by decide) ?_
  refine lv_aload_n S.1 S.2.1 d_L_cancel_2 rfl (lv_at hl 0 rfl) ?_
  refine lv_iload_n S.1 S.2.1 d_L_cancel_3 rfl (lv_at hl 1 rfl) ?_
  refine m_catch2 (As := [.int (nI k)]) (rest := [.int 0, .ref a]) S htab hx hw (x_B_cancelS l hlT γ M β oa cp L σ hC hn k hk hr5) (m_cwV 1 S g582 g583 g584 g41 g585 rfl rfl ⟨by decide +kernel, by decide +kernel, by decide +kernel⟩ ⟨(Nat.le_of_ble_eq_true rfl), (Nat.le_of_ble_eq_true rfl)⟩) (hw.preXV hx hC.book cl_B.1) rfl hl.1 (lv_room (Nat.le_of_ble_eq_true rfl)) d_L_cancel_4 ⟨(Nat.le_of_ble_eq_true rfl), (Nat.le_of_ble_eq_true rfl)⟩ rfl g277 (by decide) g278 (by decide) (by decide) (fun H q hw => ?_)
  refine lv_astore_n S.1 S.2.1 d_L_cancel_15 rfl hl (by decide) rfl (fun ls hl => ?_)
  have hl : lv_has ls 4 [(3, .ref q), (0, .ref (bx β)), (1, .int (nI k)), (2, .ref a)] := hl
  refine lv_iconst (v := 2) S.1 S.2.1 d_L_cancel_16 (by decide) ?_
  exact m_iret S hlk hr rfl hw (⟨rfl, rfl⟩) (Nat.le_of_ble_eq_true rfl) (Nat.le_of_ble_eq_true rfl) d_L_cancel_17
set_option maxHeartbeats 4000000 in
set_option maxRecDepth 100000 in
theorem h_cancelAll (l : Launch) (γ : mG) (M : mMap) (β : BK) (oa cp : Nat → Nat) (L : Nat → List Nat) (σ : St) (hC : CB γ M β oa cp L σ) (a : Nat) (fo : Nat → Int64) (ha : M a = some (ouc γ fo)) (hI : Inv0 σ) (hL : LN σ L) (w0 : Int32) (hv : rg 0 9 w0 = true) : Met l y_L_cancelAll w_L_cancelAll ({ frames := 6, cells := 0, slots := 0, locals := 161 } : Room) (mPcX γ M [.ref (bx β), .int w0, .ref a]) (mQi γ (fun r M' => r = 0 ∧ ∃ M1, (∃ L', CB γ M1 β oa cp L' (xCan σ w0 (sn σ)).1 ∧ Inv0 (xCan σ w0 (sn σ)).1 ∧ LN (xCan σ w0 (sn σ)).1 L' ∧ frC M M1) ∧ M' = mU M1 a (ouc γ (vp_updL fo 0 ((nI (xCan σ w0 (sn σ)).2).toInt64))))) 0 0 (mA (gz γ)) := by
  refine m_enterW (by decide) (Nat.le_of_ble_eq_true rfl) ?_
  intro p e s m below meth c ls S htab hr hlk hl hw hx
  have hl : lv_has ls 4 [(0, .ref (bx β)), (1, .int w0), (2, .ref a)] := hl
  refine lv_aload_n S.1 S.2.1 d_L_cancelAll_0 rfl (lv_at hl 2 rfl) ?_
  refine lv_iconst (v := 0) S.1 S.2.1 d_L_cancelAll_1 (by decide) ?_
  refine lv_aload_n S.1 S.2.1 d_L_cancelAll_2 rfl (lv_at hl 0 rfl) ?_
  refine lv_iload_n S.1 S.2.1 d_L_cancelAll_3 rfl (lv_at hl 1 rfl) ?_
  refine m_ci hw (va_runV (As := [.int w0]) (rest := [.int 0, .ref a]) S (c_B_cancelAll l γ M β oa cp L σ hC hI hL w0 hv) (m_cwV 1 S g593 g594 g595 g41 g596 rfl rfl ⟨by decide +kernel, by decide +kernel, by decide +kernel⟩ ⟨(Nat.le_of_ble_eq_true rfl), (Nat.le_of_ble_eq_true rfl)⟩) (hw.preV hC.book cl_B.1) rfl rfl hl.1 rfl (lv_room (Nat.le_of_ble_eq_true rfl)) d_L_cancelAll_4 ⟨(Nat.zero_le _), (Nat.zero_le _)⟩) (fun r1 M1 H locs hp hw => ?_)
  obtain ⟨rfl, hp⟩ := hp
  refine lv_i2l S.1 S.2.1 d_L_cancelAll_7 rfl ?_
  refine m_last (f := fo) S hw (by obtain ⟨_, _, _, _, hf⟩ := hp; exact hf.out ha) (by unfold vp_in; decide) d_L_cancelAll_8 (fun H locs hw => ?_)
  refine lv_goto (tgt := 15) S.1 S.2.1 d_L_cancelAll_9 rfl ?_
  refine lv_iconst (v := 0) S.1 S.2.1 d_L_cancelAll_15 (by decide) ?_
  exact m_iret S hlk hr rfl hw (⟨rfl, M1, hp, rfl⟩) (Nat.le_refl _) (Nat.le_refl _) d_L_cancelAll_16
set_option maxHeartbeats 4000000 in
set_option maxRecDepth 100000 in
theorem h_cancelAllA (l : Launch) (hlT : xTr l) (γ : mG) (M : mMap) (β : BK) (oa cp : Nat → Nat) (L : Nat → List Nat) (σ : St) (hC : CB γ M β oa cp L σ) (a : Nat) (w0 : Int32) (hv : rg 0 9 w0 = false) : Met l y_L_cancelAll w_L_cancelAll ({ frames := 7, cells := 1, slots := 6, locals := 105 } : Room) (mPcX γ M [.ref (bx β), .int w0, .ref a]) (mQi γ (fun r M' => r = 1 ∧ M' = M)) 1 6 (mA (gz γ)) := by
  refine m_enterW (by decide) (Nat.le_of_ble_eq_true rfl) ?_
  intro p e s m below meth c ls S htab hr hlk hl hw hx
  have hl : lv_has ls 4 [(0, .ref (bx β)), (1, .int w0), (2, .ref a)] := hl
  refine lv_aload_n S.1 S.2.1 d_L_cancelAll_0 rfl (lv_at hl 2 rfl) ?_
  refine lv_iconst (v := 0) S.1 S.2.1 d_L_cancelAll_1 (by decide) ?_
  refine lv_aload_n S.1 S.2.1 d_L_cancelAll_2 rfl (lv_at hl 0 rfl) ?_
  refine lv_iload_n S.1 S.2.1 d_L_cancelAll_3 rfl (lv_at hl 1 rfl) ?_
  refine m_catch1 (As := [.int w0]) (rest := [.int 0, .ref a]) S htab (Or.inl rfl) hx hw (x_B_cancelAll l hlT γ M β oa cp L σ hC w0 hv) (m_cwV 1 S g593 g594 g595 g41 g596 rfl rfl ⟨by decide +kernel, by decide +kernel, by decide +kernel⟩ ⟨(Nat.le_of_ble_eq_true rfl), (Nat.le_of_ble_eq_true rfl)⟩) (hw.preXV hx hC.book cl_B.1) rfl hl.1 (lv_room (Nat.le_of_ble_eq_true rfl)) d_L_cancelAll_4 ⟨(Nat.le_of_ble_eq_true rfl), (Nat.le_of_ble_eq_true rfl)⟩ rfl g277 (by decide) (by decide) (fun H q hw => ?_)
  refine lv_astore_n S.1 S.2.1 d_L_cancelAll_12 rfl hl (by decide) rfl (fun ls hl => ?_)
  have hl : lv_has ls 4 [(3, .ref q), (0, .ref (bx β)), (1, .int w0), (2, .ref a)] := hl
  refine lv_iconst (v := 1) S.1 S.2.1 d_L_cancelAll_13 (by decide) ?_
  exact m_iret S hlk hr rfl hw (⟨rfl, rfl⟩) (Nat.le_of_ble_eq_true rfl) (Nat.le_of_ble_eq_true rfl) d_L_cancelAll_14
set_option maxHeartbeats 4000000 in
set_option maxRecDepth 100000 in
theorem h_amend (l : Launch) (γ : mG) (M : mMap) (β : BK) (oa cp : Nat → Nat) (L : Nat → List Nat) (σ : St) (hC : CB γ M β oa cp L σ) (a : Nat) (fo : Nat → Int64) (ha : M a = some (ouc γ fo)) (hI : Inv0 σ) (hL : LN σ L) (k : Nat) (hk : k < sn σ) (hr5 : ¬ sI σ 5 k = -1) (p0 q0 : Int32) (hv1 : rg 0 2000 p0 = true) (hv2 : rg 1 100000 q0 = true) (hv3 : fpk q0 (sI σ 8 k) = true) (hph : ¬ sph σ = 2) (hcp : cp 3 = cAt (stn σ)) (hcpl : ∀ j, j ≠ 3 → cp j ≤ 373) (σ' : St) (hσ : xAm (cgw (xAsk (xOut σ k) k p0 q0) (L (sj (opp (sI σ 1 k)))) k) σ k p0 q0 = σ') (hT : stn σ' ≤ 30000) (hrk : (srk σ).toInt ≤ 500000000) : Met l y_L_amend w_L_amend ({ frames := 13, cells := kC (stn σ') - kC (stn σ) + 1, slots := kS (stn σ') - kS (stn σ) + 373, locals := 320 } : Room) (mPcX γ M [.ref (bx β), .int (nI k), .int p0, .int q0, .ref a]) (mQi γ (fun r M' => r = 0 ∧ ∃ M1, (∃ L' cp', CB γ M1 β oa cp' L' σ' ∧ Inv0 σ' ∧ LN σ' L' ∧ cp' 3 = cAt (stn σ') ∧ (∀ j, j ≠ 3 → cp' j ≤ 373) ∧ frC M M1 ∧ sn σ' = sn σ ∧ (srk σ').toInt ≤ (srk σ).toInt + 100001) ∧ M' = mU M1 a (ouc γ (vp_updL fo 0 ((b2i (decide (¬ sI σ' 5 k = -1))).toInt64))))) (kC (stn σ') - kC (stn σ) + 1) (kS (stn σ') - kS (stn σ) + 373) (mA (gz γ)) := by
  refine m_enterW (by decide) (Nat.le_of_ble_eq_true rfl) ?_
  intro p e s m below meth c ls S htab hr hlk hl hw hx
  have hl : lv_has ls 6 [(0, .ref (bx β)), (1, .int (nI k)), (2, .int p0), (3, .int q0), (4, .ref a)] := hl
  refine lv_aload S.1 S.2.1 d_L_amend_0 (lv_at hl 4 rfl) ?_
  refine lv_iconst (v := 0) S.1 S.2.1 d_L_amend_2 (by decide) ?_
  refine lv_aload_n S.1 S.2.1 d_L_amend_3 rfl (lv_at hl 0 rfl) ?_
  refine lv_iload_n S.1 S.2.1 d_L_amend_4 rfl (lv_at hl 1 rfl) ?_
  refine lv_iload_n S.1 S.2.1 d_L_amend_5 rfl (lv_at hl 2 rfl) ?_
  refine lv_iload_n S.1 S.2.1 d_L_amend_6 rfl (lv_at hl 3 rfl) ?_
  refine m_ci hw (va_runV (As := [.int (nI k), .int p0, .int q0]) (rest := [.int 0, .ref a]) S (c_B_amend l γ M β oa cp L σ hC hI hL k hk hr5 p0 q0 hv1 hv2 hv3 hph hcp hcpl σ' hσ hT hrk) (m_cwV 3 S g600 g601 g602 g41 g603 rfl rfl ⟨by decide +kernel, by decide +kernel, by decide +kernel⟩ ⟨(Nat.le_of_ble_eq_true rfl), (Nat.le_of_ble_eq_true rfl)⟩) (hw.preV hC.book cl_B.1) rfl rfl hl.1 rfl (lv_room (Nat.le_of_ble_eq_true rfl)) d_L_amend_7 ⟨(Nat.le_of_eq (Nat.zero_add _)), (Nat.le_of_eq (Nat.zero_add _))⟩) (fun r1 M1 H locs hp hw => ?_)
  obtain ⟨rfl, hp⟩ := hp
  refine lv_if_eq (tgt := 17) S.1 S.2.1 d_L_amend_10 rfl (fun h10 => ?_) (fun h10 => ?_)
  · refine lv_lconst (v := 0) S.1 S.2.1 d_L_amend_17 (by decide) ?_
    refine W.eq (g2 := F0 m 18 ls [.long ((b2i (decide (¬ sI σ' 5 k = -1))).toInt64), .int 0, .ref a]) (congrArg (fun z => F0 m 18 ls [.long z, .int 0, .ref a]) (by rw [h10]; rfl)) ?_
    refine m_last (f := fo) S hw (by obtain ⟨_, _, _, _, _, _, _, hf, _⟩ := hp; exact hf.out ha) (by unfold vp_in; decide) d_L_amend_18 (fun H locs hw => ?_)
    refine lv_goto (tgt := 30) S.1 S.2.1 d_L_amend_19 rfl ?_
    refine lv_iconst (v := 0) S.1 S.2.1 d_L_amend_30 (by decide) ?_
    exact m_iret S hlk hr rfl hw (⟨rfl, M1, hp, rfl⟩) (Nat.le_of_eq (Nat.zero_add _)) (Nat.le_of_eq (Nat.zero_add _)) d_L_amend_31
  · refine lv_lconst (v := 1) S.1 S.2.1 d_L_amend_13 (by decide) ?_
    refine lv_goto (tgt := 18) S.1 S.2.1 d_L_amend_14 rfl ?_
    refine W.eq (g2 := F0 m 18 ls [.long ((b2i (decide (¬ sI σ' 5 k = -1))).toInt64), .int 0, .ref a]) (congrArg (fun z => F0 m 18 ls [.long z, .int 0, .ref a]) (by rw [b2i_n0.mp h10]; rfl)) ?_
    refine m_last (f := fo) S hw (by obtain ⟨_, _, _, _, _, _, _, hf, _⟩ := hp; exact hf.out ha) (by unfold vp_in; decide) d_L_amend_18 (fun H locs hw => ?_)
    refine lv_goto (tgt := 30) S.1 S.2.1 d_L_amend_19 rfl ?_
    refine lv_iconst (v := 0) S.1 S.2.1 d_L_amend_30 (by decide) ?_
    exact m_iret S hlk hr rfl hw (⟨rfl, M1, hp, rfl⟩) (Nat.le_of_eq (Nat.zero_add _)) (Nat.le_of_eq (Nat.zero_add _)) d_L_amend_31
set_option maxHeartbeats 4000000 in
set_option maxRecDepth 100000 in
theorem h_amendJ (l : Launch) (hlT : xTr l) (γ : mG) (M : mMap) (β : BK) (oa cp : Nat → Nat) (L : Nat → List Nat) (σ : St) (hC : CB γ M β oa cp L σ) (a : Nat) (hn : sn σ ≤ 250) (j : Int32) (hj : ∀ k, k < sn σ → ¬ j = nI k) (p0 q0 : Int32) : Met l y_L_amend w_L_amend ({ frames := 8, cells := 1, slots := 6, locals := 126 } : Room) (mPcX γ M [.ref (bx β), .int j, .int p0, .int q0, .ref a]) (mQi γ (fun r M' => r = 1 ∧ M' = M)) 1 6 (mA (gz γ)) := by
  refine m_enterW (by decide) (Nat.le_of_ble_eq_true rfl) ?_
  intro p e s m below meth c ls S htab hr hlk hl hw hx
  have hl : lv_has ls 6 [(0, .ref (bx β)), (1, .int j), (2, .int p0), (3, .int q0), (4, .ref a)] := hl
  refine lv_aload S.1 S.2.1 d_L_amend_0 (lv_at hl 4 rfl) ?_
  refine lv_iconst (v := 0) S.1 S.2.1 d_L_amend_2 (by decide) ?_
  refine lv_aload_n S.1 S.2.1 d_L_amend_3 rfl (lv_at hl 0 rfl) ?_
  refine lv_iload_n S.1 S.2.1 d_L_amend_4 rfl (lv_at hl 1 rfl) ?_
  refine lv_iload_n S.1 S.2.1 d_L_amend_5 rfl (lv_at hl 2 rfl) ?_
  refine lv_iload_n S.1 S.2.1 d_L_amend_6 rfl (lv_at hl 3 rfl) ?_
  refine m_catch1 (As := [.int j, .int p0, .int q0]) (rest := [.int 0, .ref a]) S htab (Or.inl rfl) hx hw (x_B_amendJ l hlT γ M β oa cp L σ hC hn j hj p0 q0) (m_cwV 3 S g600 g601 g602 g41 g603 rfl rfl ⟨by decide +kernel, by decide +kernel, by decide +kernel⟩ ⟨(Nat.le_of_ble_eq_true rfl), (Nat.le_of_ble_eq_true rfl)⟩) (hw.preXV hx hC.book cl_B.1) rfl hl.1 (lv_room (Nat.le_of_ble_eq_true rfl)) d_L_amend_7 ⟨(Nat.le_of_ble_eq_true rfl), (Nat.le_of_ble_eq_true rfl)⟩ rfl g277 (by decide) (by decide) (fun H q hw => ?_)
  refine lv_astore S.1 S.2.1 d_L_amend_22 hl (by decide) rfl (fun ls hl => ?_)
  have hl : lv_has ls 6 [(5, .ref q), (0, .ref (bx β)), (1, .int j), (2, .int p0), (3, .int q0), (4, .ref a)] := hl
  refine lv_iconst (v := 1) S.1 S.2.1 d_L_amend_24 (by decide) ?_
  exact m_iret S hlk hr rfl hw (⟨rfl, rfl⟩) (Nat.le_of_ble_eq_true rfl) (Nat.le_of_ble_eq_true rfl) d_L_amend_25
set_option maxHeartbeats 4000000 in
set_option maxRecDepth 100000 in
theorem h_amendA (l : Launch) (hlT : xTr l) (γ : mG) (M : mMap) (β : BK) (oa cp : Nat → Nat) (L : Nat → List Nat) (σ : St) (hC : CB γ M β oa cp L σ) (a : Nat) (hn : sn σ ≤ 250) (k : Nat) (hk : k < sn σ) (p0 q0 : Int32) (hv : (rg 0 2000 p0 && rg 1 100000 q0 && fpk q0 (sI σ 8 k)) = false) : Met l y_L_amend w_L_amend ({ frames := 7, cells := 1, slots := 6, locals := 109 } : Room) (mPcX γ M [.ref (bx β), .int (nI k), .int p0, .int q0, .ref a]) (mQi γ (fun r M' => r = 1 ∧ M' = M)) 1 6 (mA (gz γ)) := by
  refine m_enterW (by decide) (Nat.le_of_ble_eq_true rfl) ?_
  intro p e s m below meth c ls S htab hr hlk hl hw hx
  have hl : lv_has ls 6 [(0, .ref (bx β)), (1, .int (nI k)), (2, .int p0), (3, .int q0), (4, .ref a)] := hl
  refine lv_aload S.1 S.2.1 d_L_amend_0 (lv_at hl 4 rfl) ?_
  refine lv_iconst (v := 0) S.1 S.2.1 d_L_amend_2 (by decide) ?_
  refine lv_aload_n S.1 S.2.1 d_L_amend_3 rfl (lv_at hl 0 rfl) ?_
  refine lv_iload_n S.1 S.2.1 d_L_amend_4 rfl (lv_at hl 1 rfl) ?_
  refine lv_iload_n S.1 S.2.1 d_L_amend_5 rfl (lv_at hl 2 rfl) ?_
  refine lv_iload_n S.1 S.2.1 d_L_amend_6 rfl (lv_at hl 3 rfl) ?_
  refine m_catch1 (As := [.int (nI k), .int p0, .int q0]) (rest := [.int 0, .ref a]) S htab (Or.inl rfl) hx hw (x_B_amendA l hlT γ M β oa cp L σ hC hn k hk p0 q0 hv) (m_cwV 3 S g600 g601 g602 g41 g603 rfl rfl ⟨by decide +kernel, by decide +kernel, by decide +kernel⟩ ⟨(Nat.le_of_ble_eq_true rfl), (Nat.le_of_ble_eq_true rfl)⟩) (hw.preXV hx hC.book cl_B.1) rfl hl.1 (lv_room (Nat.le_of_ble_eq_true rfl)) d_L_amend_7 ⟨(Nat.le_of_ble_eq_true rfl), (Nat.le_of_ble_eq_true rfl)⟩ rfl g277 (by decide) (by decide) (fun H q hw => ?_)
  refine lv_astore S.1 S.2.1 d_L_amend_22 hl (by decide) rfl (fun ls hl => ?_)
  have hl : lv_has ls 6 [(5, .ref q), (0, .ref (bx β)), (1, .int (nI k)), (2, .int p0), (3, .int q0), (4, .ref a)] := hl
  refine lv_iconst (v := 1) S.1 S.2.1 d_L_amend_24 (by decide) ?_
  exact m_iret S hlk hr rfl hw (⟨rfl, rfl⟩) (Nat.le_of_ble_eq_true rfl) (Nat.le_of_ble_eq_true rfl) d_L_amend_25
set_option maxHeartbeats 4000000 in
set_option maxRecDepth 100000 in
theorem h_amendS (l : Launch) (hlT : xTr l) (γ : mG) (M : mMap) (β : BK) (oa cp : Nat → Nat) (L : Nat → List Nat) (σ : St) (hC : CB γ M β oa cp L σ) (a : Nat) (hn : sn σ ≤ 250) (k : Nat) (hk : k < sn σ) (p0 q0 : Int32) (hv1 : rg 0 2000 p0 = true) (hv2 : rg 1 100000 q0 = true) (hv3 : fpk q0 (sI σ 8 k) = true) (hv : sI σ 5 k = -1 ∨ sph σ = 2) : Met l y_L_amend w_L_amend ({ frames := 7, cells := 1, slots := 6, locals := 109 } : Room) (mPcX γ M [.ref (bx β), .int (nI k), .int p0, .int q0, .ref a]) (mQi γ (fun r M' => r = 2 ∧ M' = M)) 1 6 (mA (gz γ)) := by
  refine m_enterW (by decide) (Nat.le_of_ble_eq_true rfl) ?_
  intro p e s m below meth c ls S htab hr hlk hl hw hx
  have hl : lv_has ls 6 [(0, .ref (bx β)), (1, .int (nI k)), (2, .int p0), (3, .int q0), (4, .ref a)] := hl
  refine lv_aload S.1 S.2.1 d_L_amend_0 (lv_at hl 4 rfl) ?_
  refine lv_iconst (v := 0) S.1 S.2.1 d_L_amend_2 (by decide) ?_
  refine lv_aload_n S.1 S.2.1 d_L_amend_3 rfl (lv_at hl 0 rfl) ?_
  refine lv_iload_n S.1 S.2.1 d_L_amend_4 rfl (lv_at hl 1 rfl) ?_
  refine lv_iload_n S.1 S.2.1 d_L_amend_5 rfl (lv_at hl 2 rfl) ?_
  refine lv_iload_n S.1 S.2.1 d_L_amend_6 rfl (lv_at hl 3 rfl) ?_
  refine m_catch2 (As := [.int (nI k), .int p0, .int q0]) (rest := [.int 0, .ref a]) S htab hx hw (x_B_amendS l hlT γ M β oa cp L σ hC hn k hk p0 q0 hv1 hv2 hv3 hv) (m_cwV 3 S g600 g601 g602 g41 g603 rfl rfl ⟨by decide +kernel, by decide +kernel, by decide +kernel⟩ ⟨(Nat.le_of_ble_eq_true rfl), (Nat.le_of_ble_eq_true rfl)⟩) (hw.preXV hx hC.book cl_B.1) rfl hl.1 (lv_room (Nat.le_of_ble_eq_true rfl)) d_L_amend_7 ⟨(Nat.le_of_ble_eq_true rfl), (Nat.le_of_ble_eq_true rfl)⟩ rfl g277 (by decide) g278 (by decide) (by decide) (fun H q hw => ?_)
  refine lv_astore S.1 S.2.1 d_L_amend_26 hl (by decide) rfl (fun ls hl => ?_)
  have hl : lv_has ls 6 [(5, .ref q), (0, .ref (bx β)), (1, .int (nI k)), (2, .int p0), (3, .int q0), (4, .ref a)] := hl
  refine lv_iconst (v := 2) S.1 S.2.1 d_L_amend_28 (by decide) ?_
  exact m_iret S hlk hr rfl hw (⟨rfl, rfl⟩) (Nat.le_of_ble_eq_true rfl) (Nat.le_of_ble_eq_true rfl) d_L_amend_29
set_option maxHeartbeats 4000000 in
set_option maxRecDepth 100000 in
theorem h_open (l : Launch) (γ : mG) (M : mMap) (β : BK) (oa cp : Nat → Nat) (L : Nat → List Nat) (σ : St) (hC : CB γ M β oa cp L σ) (a : Nat) (fo : Nat → Int64) (ha : M a = some (ouc γ fo)) (hI : Inv0 σ) (hL : LN σ L) (hcp : cp 3 = cAt (stn σ)) (hph : ¬ sph σ = 1) (σ1 : St) (hσ1 : xOp σ (aAt (sI σ) (L 1) (L 2) (srf σ) 2000) = σ1) (hT : stn σ1 ≤ 30000) : Met l y_L_open w_L_open ({ frames := 11, cells := kC (stn σ1) - kC (stn σ), slots := kS (stn σ1) - kS (stn σ), locals := 277 } : Room) (mPcX γ M [.ref (bx β), .ref a]) (mQi γ (fun r M' => r = 0 ∧ ∃ M1, (∃ L' cp', CB γ M1 β oa cp' L' (oPh (xSts σ1 (sn σ)) 1) ∧ InvB (oPh (xSts σ1 (sn σ)) 1) ∧ LN (oPh (xSts σ1 (sn σ)) 1) L' ∧ cp' 3 = cAt (stn σ1) ∧ (∀ j, j ≠ 3 → cp' j = cp j) ∧ frW M M1) ∧ M' = mU M1 a (ouc γ (vp_updL fo 0 ((aAt (sI σ) (L 1) (L 2) (srf σ) 2000).2.1))))) (kC (stn σ1) - kC (stn σ)) (kS (stn σ1) - kS (stn σ)) (mA (gz γ)) := by
  refine m_enterW (by decide) (Nat.le_of_ble_eq_true rfl) ?_
  intro p e s m below meth c ls S htab hr hlk hl hw hx
  have hl : lv_has ls 3 [(0, .ref (bx β)), (1, .ref a)] := hl
  refine lv_aload_n S.1 S.2.1 d_L_open_0 rfl (lv_at hl 1 rfl) ?_
  refine lv_iconst (v := 0) S.1 S.2.1 d_L_open_1 (by decide) ?_
  refine lv_aload_n S.1 S.2.1 d_L_open_2 rfl (lv_at hl 0 rfl) ?_
  refine m_cl hw (va_runV (As := []) (rest := [.int 0, .ref a]) S (c_B_open l γ M β oa cp L σ hC hI hL hcp hph σ1 hσ1 hT) (m_cwV 0 S g611 g612 g613 g41 g614 rfl rfl ⟨by decide +kernel, by decide +kernel, by decide +kernel⟩ ⟨(Nat.le_of_ble_eq_true rfl), (Nat.le_of_ble_eq_true rfl)⟩) (hw.preV hC.book cl_B.1) rfl rfl hl.1 rfl (lv_room (Nat.le_of_ble_eq_true rfl)) d_L_open_3 ⟨(Nat.le_of_eq (Nat.zero_add _)), (Nat.le_of_eq (Nat.zero_add _))⟩) (fun r1 M1 H locs hp hw => ?_)
  obtain ⟨rfl, hp⟩ := hp
  refine m_last (f := fo) S hw (by obtain ⟨_, _, _, _, _, _, _, hf⟩ := hp; exact hf.out ha) (by unfold vp_in; decide) d_L_open_6 (fun H locs hw => ?_)
  refine lv_goto (tgt := 13) S.1 S.2.1 d_L_open_7 rfl ?_
  refine lv_iconst (v := 0) S.1 S.2.1 d_L_open_13 (by decide) ?_
  exact m_iret S hlk hr rfl hw (⟨rfl, M1, hp, rfl⟩) (Nat.le_of_eq (Nat.zero_add _)) (Nat.le_of_eq (Nat.zero_add _)) d_L_open_14
set_option maxHeartbeats 4000000 in
set_option maxRecDepth 100000 in
theorem h_openS (l : Launch) (hlT : xTr l) (γ : mG) (M : mMap) (β : BK) (oa cp : Nat → Nat) (L : Nat → List Nat) (σ : St) (hC : CB γ M β oa cp L σ) (a : Nat) (hph : sph σ = 1) : Met l y_L_open w_L_open ({ frames := 7, cells := 1, slots := 6, locals := 102 } : Room) (mPcX γ M [.ref (bx β), .ref a]) (mQi γ (fun r M' => r = 1 ∧ M' = M)) 1 6 (mA (gz γ)) := by
  refine m_enterW (by decide) (Nat.le_of_ble_eq_true rfl) ?_
  intro p e s m below meth c ls S htab hr hlk hl hw hx
  have hl : lv_has ls 3 [(0, .ref (bx β)), (1, .ref a)] := hl
  refine lv_aload_n S.1 S.2.1 d_L_open_0 rfl (lv_at hl 1 rfl) ?_
  refine lv_iconst (v := 0) S.1 S.2.1 d_L_open_1 (by decide) ?_
  refine lv_aload_n S.1 S.2.1 d_L_open_2 rfl (lv_at hl 0 rfl) ?_
  refine m_catch1 (As := []) (rest := [.int 0, .ref a]) S htab (Or.inr rfl) hx hw (x_B_open l hlT γ M β oa cp L σ hC hph) (m_cwV 0 S g611 g612 g613 g41 g614 rfl rfl ⟨by decide +kernel, by decide +kernel, by decide +kernel⟩ ⟨(Nat.le_of_ble_eq_true rfl), (Nat.le_of_ble_eq_true rfl)⟩) (hw.preXV hx hC.book cl_B.1) rfl hl.1 (lv_room (Nat.le_of_ble_eq_true rfl)) d_L_open_3 ⟨(Nat.le_of_ble_eq_true rfl), (Nat.le_of_ble_eq_true rfl)⟩ rfl g278 (by decide) (by decide) (fun H q hw => ?_)
  refine lv_astore_n S.1 S.2.1 d_L_open_10 rfl hl (by decide) rfl (fun ls hl => ?_)
  have hl : lv_has ls 3 [(2, .ref q), (0, .ref (bx β)), (1, .ref a)] := hl
  refine lv_iconst (v := 1) S.1 S.2.1 d_L_open_11 (by decide) ?_
  exact m_iret S hlk hr rfl hw (⟨rfl, rfl⟩) (Nat.le_of_ble_eq_true rfl) (Nat.le_of_ble_eq_true rfl) d_L_open_12
set_option maxHeartbeats 4000000 in
set_option maxRecDepth 100000 in
theorem h_band (l : Launch) (γ : mG) (M : mMap) (β : BK) (oa cp : Nat → Nat) (L : Nat → List Nat) (σ : St) (hC : CB γ M β oa cp L σ) (a : Nat) (fo : Nat → Int64) (ha : M a = some (ouc γ fo)) (a0 b0 : Int32) (hv1 : rg 1 2000 a0 = true) (hv2 : rg 0 2000 b0 = true) : Met l y_L_band w_L_band ({ frames := 1, cells := 0, slots := 0, locals := 23 } : Room) (mPcX γ M [.ref (bx β), .int a0, .int b0, .ref a]) (mQi γ (fun r M' => r = 0 ∧ ∃ M1, (CB γ M1 β oa cp L (oBand σ a0 b0) ∧ frC M M1) ∧ M' = mU M1 a (ouc γ (vp_updL fo 0 ((srf σ).toInt64))))) 0 0 (mA (gz γ)) := by
  refine m_enterW (by decide) (Nat.le_of_ble_eq_true rfl) ?_
  intro p e s m below meth c ls S htab hr hlk hl hw hx
  have hl : lv_has ls 5 [(0, .ref (bx β)), (1, .int a0), (2, .int b0), (3, .ref a)] := hl
  refine lv_aload_n S.1 S.2.1 d_L_band_0 rfl (lv_at hl 3 rfl) ?_
  refine lv_iconst (v := 0) S.1 S.2.1 d_L_band_1 (by decide) ?_
  refine lv_aload_n S.1 S.2.1 d_L_band_2 rfl (lv_at hl 0 rfl) ?_
  refine lv_iload_n S.1 S.2.1 d_L_band_3 rfl (lv_at hl 1 rfl) ?_
  refine lv_iload_n S.1 S.2.1 d_L_band_4 rfl (lv_at hl 2 rfl) ?_
  refine m_ci hw (va_runV (As := [.int a0, .int b0]) (rest := [.int 0, .ref a]) S (c_B_band l γ M β oa cp L σ hC a0 b0 hv1 hv2) (m_cwV 2 S g657 g658 g659 g41 g660 rfl rfl ⟨by decide +kernel, by decide +kernel, by decide +kernel⟩ ⟨(Nat.le_of_ble_eq_true rfl), (Nat.le_of_ble_eq_true rfl)⟩) (hw.preV hC.book cl_B.1) rfl rfl hl.1 rfl (lv_room (Nat.le_of_ble_eq_true rfl)) d_L_band_5 ⟨(Nat.zero_le _), (Nat.zero_le _)⟩) (fun r1 M1 H locs hp hw => ?_)
  obtain ⟨rfl, hp⟩ := hp
  refine lv_i2l S.1 S.2.1 d_L_band_8 rfl ?_
  refine m_last (f := fo) S hw (hp.2.out ha) (by unfold vp_in; decide) d_L_band_9 (fun H locs hw => ?_)
  refine lv_goto (tgt := 17) S.1 S.2.1 d_L_band_10 rfl ?_
  refine lv_iconst (v := 0) S.1 S.2.1 d_L_band_17 (by decide) ?_
  exact m_iret S hlk hr rfl hw (⟨rfl, M1, hp, rfl⟩) (Nat.le_refl _) (Nat.le_refl _) d_L_band_18
set_option maxHeartbeats 4000000 in
set_option maxRecDepth 100000 in
theorem h_bandA (l : Launch) (hlT : xTr l) (γ : mG) (M : mMap) (β : BK) (oa cp : Nat → Nat) (L : Nat → List Nat) (σ : St) (hC : CB γ M β oa cp L σ) (a : Nat) (a0 b0 : Int32) (hv : (rg 1 2000 a0 && rg 0 2000 b0) = false) : Met l y_L_band w_L_band ({ frames := 7, cells := 1, slots := 6, locals := 104 } : Room) (mPcX γ M [.ref (bx β), .int a0, .int b0, .ref a]) (mQi γ (fun r M' => r = 1 ∧ M' = M)) 1 6 (mA (gz γ)) := by
  refine m_enterW (by decide) (Nat.le_of_ble_eq_true rfl) ?_
  intro p e s m below meth c ls S htab hr hlk hl hw hx
  have hl : lv_has ls 5 [(0, .ref (bx β)), (1, .int a0), (2, .int b0), (3, .ref a)] := hl
  refine lv_aload_n S.1 S.2.1 d_L_band_0 rfl (lv_at hl 3 rfl) ?_
  refine lv_iconst (v := 0) S.1 S.2.1 d_L_band_1 (by decide) ?_
  refine lv_aload_n S.1 S.2.1 d_L_band_2 rfl (lv_at hl 0 rfl) ?_
  refine lv_iload_n S.1 S.2.1 d_L_band_3 rfl (lv_at hl 1 rfl) ?_
  refine lv_iload_n S.1 S.2.1 d_L_band_4 rfl (lv_at hl 2 rfl) ?_
  refine m_catch1 (As := [.int a0, .int b0]) (rest := [.int 0, .ref a]) S htab (Or.inl rfl) hx hw (x_B_band l hlT γ M β oa cp L σ hC a0 b0 hv) (m_cwV 2 S g657 g658 g659 g41 g660 rfl rfl ⟨by decide +kernel, by decide +kernel, by decide +kernel⟩ ⟨(Nat.le_of_ble_eq_true rfl), (Nat.le_of_ble_eq_true rfl)⟩) (hw.preXV hx hC.book cl_B.1) rfl hl.1 (lv_room (Nat.le_of_ble_eq_true rfl)) d_L_band_5 ⟨(Nat.le_of_ble_eq_true rfl), (Nat.le_of_ble_eq_true rfl)⟩ rfl g277 (by decide) (by decide) (fun H q hw => ?_)
  refine lv_astore S.1 S.2.1 d_L_band_13 hl (by decide) rfl (fun ls hl => ?_)
  have hl : lv_has ls 5 [(4, .ref q), (0, .ref (bx β)), (1, .int a0), (2, .int b0), (3, .ref a)] := hl
  refine lv_iconst (v := 1) S.1 S.2.1 d_L_band_15 (by decide) ?_
  exact m_iret S hlk hr rfl hw (⟨rfl, rfl⟩) (Nat.le_of_ble_eq_true rfl) (Nat.le_of_ble_eq_true rfl) d_L_band_16
set_option maxHeartbeats 4000000 in
set_option maxRecDepth 100000 in
theorem h_clearing (l : Launch) (γ : mG) (M : mMap) (β : BK) (oa cp : Nat → Nat) (L : Nat → List Nat) (σ : St) (hC : CB γ M β oa cp L σ) (a : Nat) (fo : Nat → Int64) (ha : M a = some (ouc γ fo)) (hI : Inv0 σ) (hL : LN σ L) (w0 : Int32) (hv : rg 0 2 w0 = true) : Met l y_L_clearing w_L_clearing ({ frames := 6, cells := 0, slots := 0, locals := 138 } : Room) (mPcX γ M [.ref (bx β), .int w0, .ref a]) (mQi γ (fun r M' => r = 0 ∧ ∃ M1, (CB γ M1 β oa cp L σ ∧ frW M M1) ∧ M' = mU M1 a (ouc γ (vp_updL fo 0 (clr (aAt (sI σ) (L 1) (L 2) (srf σ) 2000) w0))))) 0 0 (mA (gz γ)) := by
  refine m_enterW (by decide) (Nat.le_of_ble_eq_true rfl) ?_
  intro p e s m below meth c ls S htab hr hlk hl hw hx
  have hl : lv_has ls 4 [(0, .ref (bx β)), (1, .int w0), (2, .ref a)] := hl
  refine lv_aload_n S.1 S.2.1 d_L_clearing_0 rfl (lv_at hl 2 rfl) ?_
  refine lv_iconst (v := 0) S.1 S.2.1 d_L_clearing_1 (by decide) ?_
  refine lv_aload_n S.1 S.2.1 d_L_clearing_2 rfl (lv_at hl 0 rfl) ?_
  refine lv_iload_n S.1 S.2.1 d_L_clearing_3 rfl (lv_at hl 1 rfl) ?_
  refine m_cl hw (va_runV (As := [.int w0]) (rest := [.int 0, .ref a]) S (c_B_clearing l γ M β oa cp L σ hC hI hL w0 hv) (m_cwV 1 S g664 g665 g666 g41 g667 rfl rfl ⟨by decide +kernel, by decide +kernel, by decide +kernel⟩ ⟨(Nat.le_of_ble_eq_true rfl), (Nat.le_of_ble_eq_true rfl)⟩) (hw.preV hC.book cl_B.1) rfl rfl hl.1 rfl (lv_room (Nat.le_of_ble_eq_true rfl)) d_L_clearing_4 ⟨(Nat.zero_le _), (Nat.zero_le _)⟩) (fun r1 M1 H locs hp hw => ?_)
  obtain ⟨rfl, hp⟩ := hp
  refine m_last (f := fo) S hw (hp.2.out ha) (by unfold vp_in; decide) d_L_clearing_7 (fun H locs hw => ?_)
  refine lv_goto (tgt := 14) S.1 S.2.1 d_L_clearing_8 rfl ?_
  refine lv_iconst (v := 0) S.1 S.2.1 d_L_clearing_14 (by decide) ?_
  exact m_iret S hlk hr rfl hw (⟨rfl, M1, hp, rfl⟩) (Nat.le_refl _) (Nat.le_refl _) d_L_clearing_15
set_option maxHeartbeats 4000000 in
set_option maxRecDepth 100000 in
theorem h_clearingA (l : Launch) (hlT : xTr l) (γ : mG) (M : mMap) (β : BK) (oa cp : Nat → Nat) (L : Nat → List Nat) (σ : St) (hC : CB γ M β oa cp L σ) (a : Nat) (w0 : Int32) (hv : rg 0 2 w0 = false) : Met l y_L_clearing w_L_clearing ({ frames := 7, cells := 1, slots := 6, locals := 102 } : Room) (mPcX γ M [.ref (bx β), .int w0, .ref a]) (mQi γ (fun r M' => r = 1 ∧ M' = M)) 1 6 (mA (gz γ)) := by
  refine m_enterW (by decide) (Nat.le_of_ble_eq_true rfl) ?_
  intro p e s m below meth c ls S htab hr hlk hl hw hx
  have hl : lv_has ls 4 [(0, .ref (bx β)), (1, .int w0), (2, .ref a)] := hl
  refine lv_aload_n S.1 S.2.1 d_L_clearing_0 rfl (lv_at hl 2 rfl) ?_
  refine lv_iconst (v := 0) S.1 S.2.1 d_L_clearing_1 (by decide) ?_
  refine lv_aload_n S.1 S.2.1 d_L_clearing_2 rfl (lv_at hl 0 rfl) ?_
  refine lv_iload_n S.1 S.2.1 d_L_clearing_3 rfl (lv_at hl 1 rfl) ?_
  refine m_catch1 (As := [.int w0]) (rest := [.int 0, .ref a]) S htab (Or.inl rfl) hx hw (x_B_clearing l hlT γ M β oa cp L σ hC w0 hv) (m_cwV 1 S g664 g665 g666 g41 g667 rfl rfl ⟨by decide +kernel, by decide +kernel, by decide +kernel⟩ ⟨(Nat.le_of_ble_eq_true rfl), (Nat.le_of_ble_eq_true rfl)⟩) (hw.preXV hx hC.book cl_B.1) rfl hl.1 (lv_room (Nat.le_of_ble_eq_true rfl)) d_L_clearing_4 ⟨(Nat.le_of_ble_eq_true rfl), (Nat.le_of_ble_eq_true rfl)⟩ rfl g277 (by decide) (by decide) (fun H q hw => ?_)
  refine lv_astore_n S.1 S.2.1 d_L_clearing_11 rfl hl (by decide) rfl (fun ls hl => ?_)
  have hl : lv_has ls 4 [(3, .ref q), (0, .ref (bx β)), (1, .int w0), (2, .ref a)] := hl
  refine lv_iconst (v := 1) S.1 S.2.1 d_L_clearing_12 (by decide) ?_
  exact m_iret S hlk hr rfl hw (⟨rfl, rfl⟩) (Nat.le_of_ble_eq_true rfl) (Nat.le_of_ble_eq_true rfl) d_L_clearing_13
set_option maxHeartbeats 4000000 in
set_option maxRecDepth 100000 in
theorem h_order (l : Launch) (γ : mG) (M : mMap) (β : BK) (oa cp : Nat → Nat) (L : Nat → List Nat) (σ : St) (hC : CB γ M β oa cp L σ) (a : Nat) (fo : Nat → Int64) (ha : M a = some (ouc γ fo)) (hI : Inv0 σ) (k : Nat) (hk : k < sn σ) (w0 : Int32) (hv : rg 0 8 w0 = true) : Met l y_L_order w_L_order ({ frames := 5, cells := 0, slots := 0, locals := 108 } : Room) (mPcX γ M [.ref (bx β), .int (nI k), .int w0, .ref a]) (mQi γ (fun r M' => r = 0 ∧ ∃ M1, (M1 = M) ∧ M' = mU M1 a (ouc γ (vp_updL fo 0 ((och (sI σ) k w0).toInt64))))) 0 0 (mA (gz γ)) := by
  refine m_enterW (by decide) (Nat.le_of_ble_eq_true rfl) ?_
  intro p e s m below meth c ls S htab hr hlk hl hw hx
  have hl : lv_has ls 5 [(0, .ref (bx β)), (1, .int (nI k)), (2, .int w0), (3, .ref a)] := hl
  refine lv_aload_n S.1 S.2.1 d_L_order_0 rfl (lv_at hl 3 rfl) ?_
  refine lv_iconst (v := 0) S.1 S.2.1 d_L_order_1 (by decide) ?_
  refine lv_aload_n S.1 S.2.1 d_L_order_2 rfl (lv_at hl 0 rfl) ?_
  refine lv_iload_n S.1 S.2.1 d_L_order_3 rfl (lv_at hl 1 rfl) ?_
  refine lv_iload_n S.1 S.2.1 d_L_order_4 rfl (lv_at hl 2 rfl) ?_
  refine m_ci hw (va_runV (As := [.int (nI k), .int w0]) (rest := [.int 0, .ref a]) S (c_B_order l γ M β oa cp L σ hC hI k hk w0 hv) (m_cwV 2 S g671 g672 g673 g41 g674 rfl rfl ⟨by decide +kernel, by decide +kernel, by decide +kernel⟩ ⟨(Nat.le_of_ble_eq_true rfl), (Nat.le_of_ble_eq_true rfl)⟩) (hw.preV hC.book cl_B.1) rfl rfl hl.1 rfl (lv_room (Nat.le_of_ble_eq_true rfl)) d_L_order_5 ⟨(Nat.zero_le _), (Nat.zero_le _)⟩) (fun r1 M1 H locs hp hw => ?_)
  obtain ⟨rfl, hp⟩ := hp
  refine lv_i2l S.1 S.2.1 d_L_order_8 rfl ?_
  refine m_last (f := fo) S hw (by rw [hp]; exact ha) (by unfold vp_in; decide) d_L_order_9 (fun H locs hw => ?_)
  refine lv_goto (tgt := 17) S.1 S.2.1 d_L_order_10 rfl ?_
  refine lv_iconst (v := 0) S.1 S.2.1 d_L_order_17 (by decide) ?_
  exact m_iret S hlk hr rfl hw (⟨rfl, M1, hp, rfl⟩) (Nat.le_refl _) (Nat.le_refl _) d_L_order_18
set_option maxHeartbeats 4000000 in
set_option maxRecDepth 100000 in
theorem h_orderJ (l : Launch) (hlT : xTr l) (γ : mG) (M : mMap) (β : BK) (oa cp : Nat → Nat) (L : Nat → List Nat) (σ : St) (hC : CB γ M β oa cp L σ) (a : Nat) (hn : sn σ ≤ 250) (j : Int32) (hj : ∀ k, k < sn σ → ¬ j = nI k) (w0 : Int32) : Met l y_L_order w_L_order ({ frames := 8, cells := 1, slots := 6, locals := 125 } : Room) (mPcX γ M [.ref (bx β), .int j, .int w0, .ref a]) (mQi γ (fun r M' => r = 1 ∧ M' = M)) 1 6 (mA (gz γ)) := by
  refine m_enterW (by decide) (Nat.le_of_ble_eq_true rfl) ?_
  intro p e s m below meth c ls S htab hr hlk hl hw hx
  have hl : lv_has ls 5 [(0, .ref (bx β)), (1, .int j), (2, .int w0), (3, .ref a)] := hl
  refine lv_aload_n S.1 S.2.1 d_L_order_0 rfl (lv_at hl 3 rfl) ?_
  refine lv_iconst (v := 0) S.1 S.2.1 d_L_order_1 (by decide) ?_
  refine lv_aload_n S.1 S.2.1 d_L_order_2 rfl (lv_at hl 0 rfl) ?_
  refine lv_iload_n S.1 S.2.1 d_L_order_3 rfl (lv_at hl 1 rfl) ?_
  refine lv_iload_n S.1 S.2.1 d_L_order_4 rfl (lv_at hl 2 rfl) ?_
  refine m_catch1 (As := [.int j, .int w0]) (rest := [.int 0, .ref a]) S htab (Or.inl rfl) hx hw (x_B_orderJ l hlT γ M β oa cp L σ hC hn j hj w0) (m_cwV 2 S g671 g672 g673 g41 g674 rfl rfl ⟨by decide +kernel, by decide +kernel, by decide +kernel⟩ ⟨(Nat.le_of_ble_eq_true rfl), (Nat.le_of_ble_eq_true rfl)⟩) (hw.preXV hx hC.book cl_B.1) rfl hl.1 (lv_room (Nat.le_of_ble_eq_true rfl)) d_L_order_5 ⟨(Nat.le_of_ble_eq_true rfl), (Nat.le_of_ble_eq_true rfl)⟩ rfl g277 (by decide) (by decide) (fun H q hw => ?_)
  refine lv_astore S.1 S.2.1 d_L_order_13 hl (by decide) rfl (fun ls hl => ?_)
  have hl : lv_has ls 5 [(4, .ref q), (0, .ref (bx β)), (1, .int j), (2, .int w0), (3, .ref a)] := hl
  refine lv_iconst (v := 1) S.1 S.2.1 d_L_order_15 (by decide) ?_
  exact m_iret S hlk hr rfl hw (⟨rfl, rfl⟩) (Nat.le_of_ble_eq_true rfl) (Nat.le_of_ble_eq_true rfl) d_L_order_16
set_option maxHeartbeats 4000000 in
set_option maxRecDepth 100000 in
theorem h_orderW (l : Launch) (hlT : xTr l) (γ : mG) (M : mMap) (β : BK) (oa cp : Nat → Nat) (L : Nat → List Nat) (σ : St) (hC : CB γ M β oa cp L σ) (a : Nat) (hn : sn σ ≤ 250) (k : Nat) (hk : k < sn σ) (w0 : Int32) (hv : rg 0 8 w0 = false) : Met l y_L_order w_L_order ({ frames := 7, cells := 1, slots := 6, locals := 108 } : Room) (mPcX γ M [.ref (bx β), .int (nI k), .int w0, .ref a]) (mQi γ (fun r M' => r = 1 ∧ M' = M)) 1 6 (mA (gz γ)) := by
  refine m_enterW (by decide) (Nat.le_of_ble_eq_true rfl) ?_
  intro p e s m below meth c ls S htab hr hlk hl hw hx
  have hl : lv_has ls 5 [(0, .ref (bx β)), (1, .int (nI k)), (2, .int w0), (3, .ref a)] := hl
  refine lv_aload_n S.1 S.2.1 d_L_order_0 rfl (lv_at hl 3 rfl) ?_
  refine lv_iconst (v := 0) S.1 S.2.1 d_L_order_1 (by decide) ?_
  refine lv_aload_n S.1 S.2.1 d_L_order_2 rfl (lv_at hl 0 rfl) ?_
  refine lv_iload_n S.1 S.2.1 d_L_order_3 rfl (lv_at hl 1 rfl) ?_
  refine lv_iload_n S.1 S.2.1 d_L_order_4 rfl (lv_at hl 2 rfl) ?_
  refine m_catch1 (As := [.int (nI k), .int w0]) (rest := [.int 0, .ref a]) S htab (Or.inl rfl) hx hw (x_B_orderW l hlT γ M β oa cp L σ hC hn k hk w0 hv) (m_cwV 2 S g671 g672 g673 g41 g674 rfl rfl ⟨by decide +kernel, by decide +kernel, by decide +kernel⟩ ⟨(Nat.le_of_ble_eq_true rfl), (Nat.le_of_ble_eq_true rfl)⟩) (hw.preXV hx hC.book cl_B.1) rfl hl.1 (lv_room (Nat.le_of_ble_eq_true rfl)) d_L_order_5 ⟨(Nat.le_of_ble_eq_true rfl), (Nat.le_of_ble_eq_true rfl)⟩ rfl g277 (by decide) (by decide) (fun H q hw => ?_)
  refine lv_astore S.1 S.2.1 d_L_order_13 hl (by decide) rfl (fun ls hl => ?_)
  have hl : lv_has ls 5 [(4, .ref q), (0, .ref (bx β)), (1, .int (nI k)), (2, .int w0), (3, .ref a)] := hl
  refine lv_iconst (v := 1) S.1 S.2.1 d_L_order_15 (by decide) ?_
  exact m_iret S hlk hr rfl hw (⟨rfl, rfl⟩) (Nat.le_of_ble_eq_true rfl) (Nat.le_of_ble_eq_true rfl) d_L_order_16
set_option maxHeartbeats 4000000 in
set_option maxRecDepth 100000 in
theorem h_depth (l : Launch) (γ : mG) (M : mMap) (β : BK) (oa cp : Nat → Nat) (L : Nat → List Nat) (σ : St) (hC : CB γ M β oa cp L σ) (a : Nat) (fo : Nat → Int64) (ha : M a = some (ouc γ fo)) (hI : Inv0 σ) (hL : LN σ L) (b0 : Int32) (hb0 : b0 = 0 ∨ b0 = 1) (p0 f0 : Int32) (hv : rg 0 2000 p0 = true) : Met l y_L_depth w_L_depth ({ frames := 4, cells := 0, slots := 0, locals := 92 } : Room) (mPcX γ M [.ref (bx β), .int b0, .int p0, .int f0, .ref a]) (mQi γ (fun r M' => r = 0 ∧ ∃ M1, (M1 = M) ∧ M' = mU M1 a (ouc γ (vp_updL fo 0 (dS (sI σ) f0 p0 (L (sj b0))))))) 0 0 (mA (gz γ)) := by
  refine m_enterW (by decide) (Nat.le_of_ble_eq_true rfl) ?_
  intro p e s m below meth c ls S htab hr hlk hl hw hx
  have hl : lv_has ls 6 [(0, .ref (bx β)), (1, .int b0), (2, .int p0), (3, .int f0), (4, .ref a)] := hl
  refine lv_aload S.1 S.2.1 d_L_depth_0 (lv_at hl 4 rfl) ?_
  refine lv_iconst (v := 0) S.1 S.2.1 d_L_depth_2 (by decide) ?_
  refine lv_aload_n S.1 S.2.1 d_L_depth_3 rfl (lv_at hl 0 rfl) ?_
  refine lv_iload_n S.1 S.2.1 d_L_depth_4 rfl (lv_at hl 1 rfl) ?_
  refine lv_iload_n S.1 S.2.1 d_L_depth_5 rfl (lv_at hl 2 rfl) ?_
  refine lv_iload_n S.1 S.2.1 d_L_depth_6 rfl (lv_at hl 3 rfl) ?_
  refine m_cl hw (va_runV (As := [.int b0, .int p0, .int f0]) (rest := [.int 0, .ref a]) S (c_B_depth l γ M β oa cp L σ hC hI hL b0 hb0 p0 f0 hv) (m_cwV 3 S g678 g679 g680 g41 g681 rfl rfl ⟨by decide +kernel, by decide +kernel, by decide +kernel⟩ ⟨(Nat.le_of_ble_eq_true rfl), (Nat.le_of_ble_eq_true rfl)⟩) (hw.preV hC.book cl_B.1) rfl rfl hl.1 rfl (lv_room (Nat.le_of_ble_eq_true rfl)) d_L_depth_7 ⟨(Nat.zero_le _), (Nat.zero_le _)⟩) (fun r1 M1 H locs hp hw => ?_)
  obtain ⟨rfl, hp⟩ := hp
  refine m_last (f := fo) S hw (by rw [hp]; exact ha) (by unfold vp_in; decide) d_L_depth_10 (fun H locs hw => ?_)
  refine lv_goto (tgt := 18) S.1 S.2.1 d_L_depth_11 rfl ?_
  refine lv_iconst (v := 0) S.1 S.2.1 d_L_depth_18 (by decide) ?_
  exact m_iret S hlk hr rfl hw (⟨rfl, M1, hp, rfl⟩) (Nat.le_refl _) (Nat.le_refl _) d_L_depth_19
set_option maxHeartbeats 4000000 in
set_option maxRecDepth 100000 in
theorem h_depthA (l : Launch) (hlT : xTr l) (γ : mG) (M : mMap) (β : BK) (oa cp : Nat → Nat) (L : Nat → List Nat) (σ : St) (hC : CB γ M β oa cp L σ) (a : Nat) (b0 p0 f0 : Int32) (hv : rg 0 2000 p0 = false) : Met l y_L_depth w_L_depth ({ frames := 7, cells := 1, slots := 6, locals := 109 } : Room) (mPcX γ M [.ref (bx β), .int b0, .int p0, .int f0, .ref a]) (mQi γ (fun r M' => r = 1 ∧ M' = M)) 1 6 (mA (gz γ)) := by
  refine m_enterW (by decide) (Nat.le_of_ble_eq_true rfl) ?_
  intro p e s m below meth c ls S htab hr hlk hl hw hx
  have hl : lv_has ls 6 [(0, .ref (bx β)), (1, .int b0), (2, .int p0), (3, .int f0), (4, .ref a)] := hl
  refine lv_aload S.1 S.2.1 d_L_depth_0 (lv_at hl 4 rfl) ?_
  refine lv_iconst (v := 0) S.1 S.2.1 d_L_depth_2 (by decide) ?_
  refine lv_aload_n S.1 S.2.1 d_L_depth_3 rfl (lv_at hl 0 rfl) ?_
  refine lv_iload_n S.1 S.2.1 d_L_depth_4 rfl (lv_at hl 1 rfl) ?_
  refine lv_iload_n S.1 S.2.1 d_L_depth_5 rfl (lv_at hl 2 rfl) ?_
  refine lv_iload_n S.1 S.2.1 d_L_depth_6 rfl (lv_at hl 3 rfl) ?_
  refine m_catch1 (As := [.int b0, .int p0, .int f0]) (rest := [.int 0, .ref a]) S htab (Or.inl rfl) hx hw (x_B_depth l hlT γ M β oa cp L σ hC b0 p0 f0 hv) (m_cwV 3 S g678 g679 g680 g41 g681 rfl rfl ⟨by decide +kernel, by decide +kernel, by decide +kernel⟩ ⟨(Nat.le_of_ble_eq_true rfl), (Nat.le_of_ble_eq_true rfl)⟩) (hw.preXV hx hC.book cl_B.1) rfl hl.1 (lv_room (Nat.le_of_ble_eq_true rfl)) d_L_depth_7 ⟨(Nat.le_of_ble_eq_true rfl), (Nat.le_of_ble_eq_true rfl)⟩ rfl g277 (by decide) (by decide) (fun H q hw => ?_)
  refine lv_astore S.1 S.2.1 d_L_depth_14 hl (by decide) rfl (fun ls hl => ?_)
  have hl : lv_has ls 6 [(5, .ref q), (0, .ref (bx β)), (1, .int b0), (2, .int p0), (3, .int f0), (4, .ref a)] := hl
  refine lv_iconst (v := 1) S.1 S.2.1 d_L_depth_16 (by decide) ?_
  exact m_iret S hlk hr rfl hw (⟨rfl, rfl⟩) (Nat.le_of_ble_eq_true rfl) (Nat.le_of_ble_eq_true rfl) d_L_depth_17
