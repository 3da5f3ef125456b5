/-! CallBook made -/
set_option maxHeartbeats 4000000 in
set_option maxRecDepth 100000 in
theorem c_B_init (l : Launch) (γ : mG) (M : mMap) (a : Nat) (ha : M a = some (.inr (6, [.null, .null, .null, .null, .null, .int 0, .int 0, .int 0, .int 0]))) : Met l y_B_init w_B_init ({ frames := 5, cells := 8, slots := 19, locals := 100 } : Room) (mPcN γ M [.ref a]) (mQv γ (fun M' => ∃ β, bx β = a ∧ CB γ M' β (fun _ => 0) (fun _ => 0) (fun _ => []) σ0 ∧ frC M M')) 8 19 (mA (gz γ)) := by
  refine m_enterN (by decide) (Nat.le_of_ble_eq_true rfl) ?_
  intro p e s m below meth c ls S hr hlk hnm hl hw
  have hl : lv_has ls 1 [(0, .ref a)] := hl
  intro hN
  refine lv_aload_n S.1 S.2.1 d_B_init_0 rfl (lv_at hl 0 rfl) ?_
  refine W.objInit S.1 S.2.1 S.2.2.2.1 (S.2.2.2.2 _ (gc g67)) (S.2.2.2.2 _ (gc g68)) (S.2.2.2.2 _ (gc g69)) rfl (by rw [S.2.2.1]; exact hl.1) rfl d_B_init_1 (Nat.le_of_ble_eq_true rfl) (Nat.le_of_ble_eq_true rfl) ?_
  refine W.eq (g2 := F0 m 4 ls []) rfl ?_
  refine lv_aload_n S.1 S.2.1 d_B_init_4 rfl (lv_at hl 0 rfl) ?_
  refine m_new (fs := [.int 0, .null, .int 0]) S hw cl_AL g70 g71 g44 (fun j hj => by rcases (show j = 0 ∨ j = 1 ∨ j = 2 by omega) with rfl | rfl | rfl <;> rfl) (Nat.le_of_ble_eq_true rfl) (Nat.le_of_ble_eq_true rfl) d_B_init_5 (fun q0 H hq0 hzq0 hw => ?_)
  obtain ⟨N1, hE1⟩ : ∃ z, z = mU M q0 (.inr (0, [.int 0, .null, .int 0])) := ⟨_, rfl⟩
  rw [← hE1] at hw
  have n_a_q0 : a ≠ q0 := m_fne ha hq0
  have F1_a : N1 a = some (.inr (6, [.null, .null, .null, .null, .null, .int 0, .int 0, .int 0, .int 0])) := by rw [hE1]; exact (mU_to n_a_q0 ha)
  have F1_q0 : N1 q0 = some (.inr (0, [.int 0, .null, .int 0])) := by rw [hE1]; exact (mU_eq _ _ _)
  have fr1 : frC M N1 := (frC.rf M).tr (by rw [hE1]; exact frC.new hq0)
  refine lv_dup S.1 S.2.1 d_B_init_8 rfl ?_
  refine m_cv hw (va_runI (As := []) (rest := [.ref q0, .ref a]) S (c_AL_init l γ N1 q0 0 0 .null F1_q0) (m_cwI 0 S g72 g73 g44 g74 rfl rfl rfl ⟨by decide +kernel, by decide +kernel, by decide +kernel⟩ ⟨(Nat.le_of_ble_eq_true rfl), (Nat.le_of_ble_eq_true rfl)⟩) hw.preS rfl rfl hl.1 rfl (lv_room (Nat.le_of_ble_eq_true rfl)) d_B_init_9 ⟨(Nat.le_of_ble_eq_true rfl), (Nat.le_of_ble_eq_true rfl)⟩) (fun A1 H locs hp hw => ?_)
  have F2_a : A1 a = some (.inr (6, [.null, .null, .null, .null, .null, .int 0, .int 0, .int 0, .int 0])) := by rw [hp]; exact (mU_to n_a_q0 F1_a)
  have F2_q0 : A1 q0 = some (.inr (0, [.int 0, .ref (ge γ), .int 0])) := by rw [hp]; exact (mU_eq _ _ _)
  have fr2 : frC M A1 := fr1.tr (by rw [hp]; exact frC.setO F1_q0 (by decide))
  refine m_putF S hw cl_B F2_a 0 (by decide) g145 (fun _ h => h) rfl hnm rfl rfl rfl (Nat.le_of_ble_eq_true rfl) d_B_init_12 (fun H locs hw => ?_)
  have hw : mW γ (mU A1 a (.inr (6, [.ref q0, .null, .null, .null, .null, .int 0, .int 0, .int 0, .int 0]))) s H locs := hw
  obtain ⟨N3, hE3⟩ : ∃ z, z = mU A1 a (.inr (6, [.ref q0, .null, .null, .null, .null, .int 0, .int 0, .int 0, .int 0])) := ⟨_, rfl⟩
  rw [← hE3] at hw
  have F3_q0 : N3 q0 = some (.inr (0, [.int 0, .ref (ge γ), .int 0])) := by rw [hE3]; exact (mU_to (n_a_q0).symm F2_q0)
  have F3_a : N3 a = some (.inr (6, [.ref q0, .null, .null, .null, .null, .int 0, .int 0, .int 0, .int 0])) := by rw [hE3]; exact (mU_eq _ _ _)
  have fr3 : frC M N3 := fr2.tr (by rw [hE3]; exact frC.setO F2_a (by decide))
  refine lv_aload_n S.1 S.2.1 d_B_init_15 rfl (lv_at hl 0 rfl) ?_
  refine m_new (fs := [.null]) S hw cl_S g96 g97 g45 (fun j hj => by rcases (show j = 0 by omega) with rfl <;> rfl) (Nat.le_of_ble_eq_true rfl) (Nat.le_of_ble_eq_true rfl) d_B_init_16 (fun q1 H hq1 hzq1 hw => ?_)
  obtain ⟨N4, hE4⟩ : ∃ z, z = mU N3 q1 (.inr (3, [.null])) := ⟨_, rfl⟩
  rw [← hE4] at hw
  have n_q0_q1 : q0 ≠ q1 := m_fne F3_q0 hq1
  have n_a_q1 : a ≠ q1 := m_fne F3_a hq1
  have F4_q0 : N4 q0 = some (.inr (0, [.int 0, .ref (ge γ), .int 0])) := by rw [hE4]; exact (mU_to n_q0_q1 F3_q0)
  have F4_a : N4 a = some (.inr (6, [.ref q0, .null, .null, .null, .null, .int 0, .int 0, .int 0, .int 0])) := by rw [hE4]; exact (mU_to n_a_q1 F3_a)
  have F4_q1 : N4 q1 = some (.inr (3, [.null])) := by rw [hE4]; exact (mU_eq _ _ _)
  have fr4 : frC M N4 := fr3.tr (by rw [hE4]; exact frC.new hq1)
  refine lv_dup S.1 S.2.1 d_B_init_19 rfl ?_
  refine m_cv hw (va_runI (As := []) (rest := [.ref q1, .ref a]) S (c_S_init l γ N4 q1 F4_q1) (m_cwI 0 S g98 g99 g45 g100 rfl rfl rfl ⟨by decide +kernel, by decide +kernel, by decide +kernel⟩ ⟨(Nat.le_of_ble_eq_true rfl), (Nat.le_of_ble_eq_true rfl)⟩) hw.preS rfl rfl hl.1 rfl (lv_room (Nat.le_of_ble_eq_true rfl)) d_B_init_20 ⟨(Nat.le_of_ble_eq_true rfl), (Nat.le_of_ble_eq_true rfl)⟩) (fun A2 H locs hp hw => ?_)
  obtain ⟨l1, hl1, hzl1, hp⟩ := hp
  have n_q0_l1 : q0 ≠ l1 := m_fne F4_q0 hl1
  have n_a_l1 : a ≠ l1 := m_fne F4_a hl1
  have n_q1_l1 : q1 ≠ l1 := m_fne F4_q1 hl1
  have F5_q0 : A2 q0 = some (.inr (0, [.int 0, .ref (ge γ), .int 0])) := by rw [hp]; exact (mU_to n_q0_q1 (mU_to n_q0_l1 F4_q0))
  have F5_a : A2 a = some (.inr (6, [.ref q0, .null, .null, .null, .null, .int 0, .int 0, .int 0, .int 0])) := by rw [hp]; exact (mU_to n_a_q1 (mU_to n_a_l1 F4_a))
  have F5_l1 : A2 l1 = some (.inr (0, [.int 0, .ref (ge γ), .int 0])) := by rw [hp]; exact (mU_to (n_q1_l1).symm (mU_eq _ _ _))
  have F5_q1 : A2 q1 = some (.inr (3, [.ref l1])) := by rw [hp]; exact (mU_eq _ _ _)
  have fr5 : frC M A2 := fr4.tr (by rw [hp]; exact (frC.new hl1).tr (frC.setO (mU_to (m_fne F4_q1 hl1) F4_q1) (by decide)))
  refine m_putF S hw cl_B F5_a 1 (by decide) g146 (fun _ h => h) rfl hnm rfl rfl rfl (Nat.le_of_ble_eq_true rfl) d_B_init_23 (fun H locs hw => ?_)
  have hw : mW γ (mU A2 a (.inr (6, [.ref q0, .ref q1, .null, .null, .null, .int 0, .int 0, .int 0, .int 0]))) s H locs := hw
  obtain ⟨N6, hE6⟩ : ∃ z, z = mU A2 a (.inr (6, [.ref q0, .ref q1, .null, .null, .null, .int 0, .int 0, .int 0, .int 0])) := ⟨_, rfl⟩
  rw [← hE6] at hw
  have F6_q0 : N6 q0 = some (.inr (0, [.int 0, .ref (ge γ), .int 0])) := by rw [hE6]; exact (mU_to (n_a_q0).symm F5_q0)
  have F6_l1 : N6 l1 = some (.inr (0, [.int 0, .ref (ge γ), .int 0])) := by rw [hE6]; exact (mU_to (n_a_l1).symm F5_l1)
  have F6_q1 : N6 q1 = some (.inr (3, [.ref l1])) := by rw [hE6]; exact (mU_to (n_a_q1).symm F5_q1)
  have F6_a : N6 a = some (.inr (6, [.ref q0, .ref q1, .null, .null, .null, .int 0, .int 0, .int 0, .int 0])) := by rw [hE6]; exact (mU_eq _ _ _)
  have fr6 : frC M N6 := fr5.tr (by rw [hE6]; exact frC.setO F5_a (by decide))
  refine lv_aload_n S.1 S.2.1 d_B_init_26 rfl (lv_at hl 0 rfl) ?_
  refine m_new (fs := [.null]) S hw cl_S g96 g97 g45 (fun j hj => by rcases (show j = 0 by omega) with rfl <;> rfl) (Nat.le_of_ble_eq_true rfl) (Nat.le_of_ble_eq_true rfl) d_B_init_27 (fun q2 H hq2 hzq2 hw => ?_)
  obtain ⟨N7, hE7⟩ : ∃ z, z = mU N6 q2 (.inr (3, [.null])) := ⟨_, rfl⟩
  rw [← hE7] at hw
  have n_q0_q2 : q0 ≠ q2 := m_fne F6_q0 hq2
  have n_l1_q2 : l1 ≠ q2 := m_fne F6_l1 hq2
  have n_q1_q2 : q1 ≠ q2 := m_fne F6_q1 hq2
  have n_a_q2 : a ≠ q2 := m_fne F6_a hq2
  have F7_q0 : N7 q0 = some (.inr (0, [.int 0, .ref (ge γ), .int 0])) := by rw [hE7]; exact (mU_to n_q0_q2 F6_q0)
  have F7_l1 : N7 l1 = some (.inr (0, [.int 0, .ref (ge γ), .int 0])) := by rw [hE7]; exact (mU_to n_l1_q2 F6_l1)
  have F7_q1 : N7 q1 = some (.inr (3, [.ref l1])) := by rw [hE7]; exact (mU_to n_q1_q2 F6_q1)
  have F7_a : N7 a = some (.inr (6, [.ref q0, .ref q1, .null, .null, .null, .int 0, .int 0, .int 0, .int 0])) := by rw [hE7]; exact (mU_to n_a_q2 F6_a)
  have F7_q2 : N7 q2 = some (.inr (3, [.null])) := by rw [hE7]; exact (mU_eq _ _ _)
  have fr7 : frC M N7 := fr6.tr (by rw [hE7]; exact frC.new hq2)
  refine lv_dup S.1 S.2.1 d_B_init_30 rfl ?_
  refine m_cv hw (va_runI (As := []) (rest := [.ref q2, .ref a]) S (c_S_init l γ N7 q2 F7_q2) (m_cwI 0 S g98 g99 g45 g100 rfl rfl rfl ⟨by decide +kernel, by decide +kernel, by decide +kernel⟩ ⟨(Nat.le_of_ble_eq_true rfl), (Nat.le_of_ble_eq_true rfl)⟩) hw.preS rfl rfl hl.1 rfl (lv_room (Nat.le_of_ble_eq_true rfl)) d_B_init_31 ⟨(Nat.le_of_ble_eq_true rfl), (Nat.le_of_ble_eq_true rfl)⟩) (fun A3 H locs hp hw => ?_)
  obtain ⟨l2, hl2, hzl2, hp⟩ := hp
  have n_q0_l2 : q0 ≠ l2 := m_fne F7_q0 hl2
  have n_l1_l2 : l1 ≠ l2 := m_fne F7_l1 hl2
  have n_q1_l2 : q1 ≠ l2 := m_fne F7_q1 hl2
  have n_a_l2 : a ≠ l2 := m_fne F7_a hl2
  have n_q2_l2 : q2 ≠ l2 := m_fne F7_q2 hl2
  have F8_q0 : A3 q0 = some (.inr (0, [.int 0, .ref (ge γ), .int 0])) := by rw [hp]; exact (mU_to n_q0_q2 (mU_to n_q0_l2 F7_q0))
  have F8_l1 : A3 l1 = some (.inr (0, [.int 0, .ref (ge γ), .int 0])) := by rw [hp]; exact (mU_to n_l1_q2 (mU_to n_l1_l2 F7_l1))
  have F8_q1 : A3 q1 = some (.inr (3, [.ref l1])) := by rw [hp]; exact (mU_to n_q1_q2 (mU_to n_q1_l2 F7_q1))
  have F8_a : A3 a = some (.inr (6, [.ref q0, .ref q1, .null, .null, .null, .int 0, .int 0, .int 0, .int 0])) := by rw [hp]; exact (mU_to n_a_q2 (mU_to n_a_l2 F7_a))
  have F8_l2 : A3 l2 = some (.inr (0, [.int 0, .ref (ge γ), .int 0])) := by rw [hp]; exact (mU_to (n_q2_l2).symm (mU_eq _ _ _))
  have F8_q2 : A3 q2 = some (.inr (3, [.ref l2])) := by rw [hp]; exact (mU_eq _ _ _)
  have fr8 : frC M A3 := fr7.tr (by rw [hp]; exact (frC.new hl2).tr (frC.setO (mU_to (m_fne F7_q2 hl2) F7_q2) (by decide)))
  refine m_putF S hw cl_B F8_a 2 (by decide) g147 (fun _ h => h) rfl hnm rfl rfl rfl (Nat.le_of_ble_eq_true rfl) d_B_init_34 (fun H locs hw => ?_)
  have hw : mW γ (mU A3 a (.inr (6, [.ref q0, .ref q1, .ref q2, .null, .null, .int 0, .int 0, .int 0, .int 0]))) s H locs := hw
  obtain ⟨N9, hE9⟩ : ∃ z, z = mU A3 a (.inr (6, [.ref q0, .ref q1, .ref q2, .null, .null, .int 0, .int 0, .int 0, .int 0])) := ⟨_, rfl⟩
  rw [← hE9] at hw
  have F9_q0 : N9 q0 = some (.inr (0, [.int 0, .ref (ge γ), .int 0])) := by rw [hE9]; exact (mU_to (n_a_q0).symm F8_q0)
  have F9_l1 : N9 l1 = some (.inr (0, [.int 0, .ref (ge γ), .int 0])) := by rw [hE9]; exact (mU_to (n_a_l1).symm F8_l1)
  have F9_q1 : N9 q1 = some (.inr (3, [.ref l1])) := by rw [hE9]; exact (mU_to (n_a_q1).symm F8_q1)
  have F9_l2 : N9 l2 = some (.inr (0, [.int 0, .ref (ge γ), .int 0])) := by rw [hE9]; exact (mU_to (n_a_l2).symm F8_l2)
  have F9_q2 : N9 q2 = some (.inr (3, [.ref l2])) := by rw [hE9]; exact (mU_to (n_a_q2).symm F8_q2)
  have F9_a : N9 a = some (.inr (6, [.ref q0, .ref q1, .ref q2, .null, .null, .int 0, .int 0, .int 0, .int 0])) := by rw [hE9]; exact (mU_eq _ _ _)
  have fr9 : frC M N9 := fr8.tr (by rw [hE9]; exact frC.setO F8_a (by decide))
  refine lv_aload_n S.1 S.2.1 d_B_init_37 rfl (lv_at hl 0 rfl) ?_
  refine m_new (fs := [.null, .long 0]) S hw cl_G g109 g110 g46 (fun j hj => by rcases (show j = 0 ∨ j = 1 by omega) with rfl | rfl <;> rfl) (Nat.le_of_ble_eq_true rfl) (Nat.le_of_ble_eq_true rfl) d_B_init_38 (fun q3 H hq3 hzq3 hw => ?_)
  obtain ⟨N10, hE10⟩ : ∃ z, z = mU N9 q3 (.inr (5, [.null, .long 0])) := ⟨_, rfl⟩
  rw [← hE10] at hw
  have n_q0_q3 : q0 ≠ q3 := m_fne F9_q0 hq3
  have n_l1_q3 : l1 ≠ q3 := m_fne F9_l1 hq3
  have n_q1_q3 : q1 ≠ q3 := m_fne F9_q1 hq3
  have n_l2_q3 : l2 ≠ q3 := m_fne F9_l2 hq3
  have n_q2_q3 : q2 ≠ q3 := m_fne F9_q2 hq3
  have n_a_q3 : a ≠ q3 := m_fne F9_a hq3
  have F10_q0 : N10 q0 = some (.inr (0, [.int 0, .ref (ge γ), .int 0])) := by rw [hE10]; exact (mU_to n_q0_q3 F9_q0)
  have F10_l1 : N10 l1 = some (.inr (0, [.int 0, .ref (ge γ), .int 0])) := by rw [hE10]; exact (mU_to n_l1_q3 F9_l1)
  have F10_q1 : N10 q1 = some (.inr (3, [.ref l1])) := by rw [hE10]; exact (mU_to n_q1_q3 F9_q1)
  have F10_l2 : N10 l2 = some (.inr (0, [.int 0, .ref (ge γ), .int 0])) := by rw [hE10]; exact (mU_to n_l2_q3 F9_l2)
  have F10_q2 : N10 q2 = some (.inr (3, [.ref l2])) := by rw [hE10]; exact (mU_to n_q2_q3 F9_q2)
  have F10_a : N10 a = some (.inr (6, [.ref q0, .ref q1, .ref q2, .null, .null, .int 0, .int 0, .int 0, .int 0])) := by rw [hE10]; exact (mU_to n_a_q3 F9_a)
  have F10_q3 : N10 q3 = some (.inr (5, [.null, .long 0])) := by rw [hE10]; exact (mU_eq _ _ _)
  have fr10 : frC M N10 := fr9.tr (by rw [hE10]; exact frC.new hq3)
  refine lv_dup S.1 S.2.1 d_B_init_41 rfl ?_
  refine m_cv hw (va_runI (As := []) (rest := [.ref q3, .ref a]) S (c_G_init l γ N10 q3 F10_q3) (m_cwI 0 S g111 g112 g46 g113 rfl rfl rfl ⟨by decide +kernel, by decide +kernel, by decide +kernel⟩ ⟨(Nat.le_of_ble_eq_true rfl), (Nat.le_of_ble_eq_true rfl)⟩) hw.preS rfl rfl hl.1 rfl (lv_room (Nat.le_of_ble_eq_true rfl)) d_B_init_42 ⟨(Nat.le_of_ble_eq_true rfl), (Nat.le_of_ble_eq_true rfl)⟩) (fun A4 H locs hp hw => ?_)
  obtain ⟨l3, hl3, hzl3, hp⟩ := hp
  have n_q0_l3 : q0 ≠ l3 := m_fne F10_q0 hl3
  have n_l1_l3 : l1 ≠ l3 := m_fne F10_l1 hl3
  have n_q1_l3 : q1 ≠ l3 := m_fne F10_q1 hl3
  have n_l2_l3 : l2 ≠ l3 := m_fne F10_l2 hl3
  have n_q2_l3 : q2 ≠ l3 := m_fne F10_q2 hl3
  have n_a_l3 : a ≠ l3 := m_fne F10_a hl3
  have n_q3_l3 : q3 ≠ l3 := m_fne F10_q3 hl3
  have F11_q0 : A4 q0 = some (.inr (0, [.int 0, .ref (ge γ), .int 0])) := by rw [hp]; exact (mU_to n_q0_q3 (mU_to n_q0_l3 F10_q0))
  have F11_l1 : A4 l1 = some (.inr (0, [.int 0, .ref (ge γ), .int 0])) := by rw [hp]; exact (mU_to n_l1_q3 (mU_to n_l1_l3 F10_l1))
  have F11_q1 : A4 q1 = some (.inr (3, [.ref l1])) := by rw [hp]; exact (mU_to n_q1_q3 (mU_to n_q1_l3 F10_q1))
  have F11_l2 : A4 l2 = some (.inr (0, [.int 0, .ref (ge γ), .int 0])) := by rw [hp]; exact (mU_to n_l2_q3 (mU_to n_l2_l3 F10_l2))
  have F11_q2 : A4 q2 = some (.inr (3, [.ref l2])) := by rw [hp]; exact (mU_to n_q2_q3 (mU_to n_q2_l3 F10_q2))
  have F11_a : A4 a = some (.inr (6, [.ref q0, .ref q1, .ref q2, .null, .null, .int 0, .int 0, .int 0, .int 0])) := by rw [hp]; exact (mU_to n_a_q3 (mU_to n_a_l3 F10_a))
  have F11_l3 : A4 l3 = some (.inr (0, [.int 0, .ref (ge γ), .int 0])) := by rw [hp]; exact (mU_to (n_q3_l3).symm (mU_eq _ _ _))
  have F11_q3 : A4 q3 = some (.inr (5, [.ref l3, .long 0])) := by rw [hp]; exact (mU_eq _ _ _)
  have fr11 : frC M A4 := fr10.tr (by rw [hp]; exact (frC.new hl3).tr (frC.setO (mU_to (m_fne F10_q3 hl3) F10_q3) (by decide)))
  refine m_putF S hw cl_B F11_a 3 (by decide) g148 (fun _ h => h) rfl hnm rfl rfl rfl (Nat.le_of_ble_eq_true rfl) d_B_init_45 (fun H locs hw => ?_)
  have hw : mW γ (mU A4 a (.inr (6, [.ref q0, .ref q1, .ref q2, .ref q3, .null, .int 0, .int 0, .int 0, .int 0]))) s H locs := hw
  obtain ⟨N12, hE12⟩ : ∃ z, z = mU A4 a (.inr (6, [.ref q0, .ref q1, .ref q2, .ref q3, .null, .int 0, .int 0, .int 0, .int 0])) := ⟨_, rfl⟩
  rw [← hE12] at hw
  have F12_q0 : N12 q0 = some (.inr (0, [.int 0, .ref (ge γ), .int 0])) := by rw [hE12]; exact (mU_to (n_a_q0).symm F11_q0)
  have F12_l1 : N12 l1 = some (.inr (0, [.int 0, .ref (ge γ), .int 0])) := by rw [hE12]; exact (mU_to (n_a_l1).symm F11_l1)
  have F12_q1 : N12 q1 = some (.inr (3, [.ref l1])) := by rw [hE12]; exact (mU_to (n_a_q1).symm F11_q1)
  have F12_l2 : N12 l2 = some (.inr (0, [.int 0, .ref (ge γ), .int 0])) := by rw [hE12]; exact (mU_to (n_a_l2).symm F11_l2)
  have F12_q2 : N12 q2 = some (.inr (3, [.ref l2])) := by rw [hE12]; exact (mU_to (n_a_q2).symm F11_q2)
  have F12_l3 : N12 l3 = some (.inr (0, [.int 0, .ref (ge γ), .int 0])) := by rw [hE12]; exact (mU_to (n_a_l3).symm F11_l3)
  have F12_q3 : N12 q3 = some (.inr (5, [.ref l3, .long 0])) := by rw [hE12]; exact (mU_to (n_a_q3).symm F11_q3)
  have F12_a : N12 a = some (.inr (6, [.ref q0, .ref q1, .ref q2, .ref q3, .null, .int 0, .int 0, .int 0, .int 0])) := by rw [hE12]; exact (mU_eq _ _ _)
  have fr12 : frC M N12 := fr11.tr (by rw [hE12]; exact frC.setO F11_a (by decide))
  refine lv_aload_n S.1 S.2.1 d_B_init_48 rfl (lv_at hl 0 rfl) ?_
  refine m_new (fs := [.int 0, .long 0, .long 0]) S hw cl_A g126 g127 g47 (fun j hj => by rcases (show j = 0 ∨ j = 1 ∨ j = 2 by omega) with rfl | rfl | rfl <;> rfl) (Nat.le_of_ble_eq_true rfl) (Nat.le_of_ble_eq_true rfl) d_B_init_49 (fun q4 H hq4 hzq4 hw => ?_)
  obtain ⟨N13, hE13⟩ : ∃ z, z = mU N12 q4 (.inr (1, [.int 0, .long 0, .long 0])) := ⟨_, rfl⟩
  rw [← hE13] at hw
  have n_q0_q4 : q0 ≠ q4 := m_fne F12_q0 hq4
  have n_l1_q4 : l1 ≠ q4 := m_fne F12_l1 hq4
  have n_q1_q4 : q1 ≠ q4 := m_fne F12_q1 hq4
  have n_l2_q4 : l2 ≠ q4 := m_fne F12_l2 hq4
  have n_q2_q4 : q2 ≠ q4 := m_fne F12_q2 hq4
  have n_l3_q4 : l3 ≠ q4 := m_fne F12_l3 hq4
  have n_q3_q4 : q3 ≠ q4 := m_fne F12_q3 hq4
  have n_a_q4 : a ≠ q4 := m_fne F12_a hq4
  have F13_q0 : N13 q0 = some (.inr (0, [.int 0, .ref (ge γ), .int 0])) := by rw [hE13]; exact (mU_to n_q0_q4 F12_q0)
  have F13_l1 : N13 l1 = some (.inr (0, [.int 0, .ref (ge γ), .int 0])) := by rw [hE13]; exact (mU_to n_l1_q4 F12_l1)
  have F13_q1 : N13 q1 = some (.inr (3, [.ref l1])) := by rw [hE13]; exact (mU_to n_q1_q4 F12_q1)
  have F13_l2 : N13 l2 = some (.inr (0, [.int 0, .ref (ge γ), .int 0])) := by rw [hE13]; exact (mU_to n_l2_q4 F12_l2)
  have F13_q2 : N13 q2 = some (.inr (3, [.ref l2])) := by rw [hE13]; exact (mU_to n_q2_q4 F12_q2)
  have F13_l3 : N13 l3 = some (.inr (0, [.int 0, .ref (ge γ), .int 0])) := by rw [hE13]; exact (mU_to n_l3_q4 F12_l3)
  have F13_q3 : N13 q3 = some (.inr (5, [.ref l3, .long 0])) := by rw [hE13]; exact (mU_to n_q3_q4 F12_q3)
  have F13_a : N13 a = some (.inr (6, [.ref q0, .ref q1, .ref q2, .ref q3, .null, .int 0, .int 0, .int 0, .int 0])) := by rw [hE13]; exact (mU_to n_a_q4 F12_a)
  have F13_q4 : N13 q4 = some (.inr (1, [.int 0, .long 0, .long 0])) := by rw [hE13]; exact (mU_eq _ _ _)
  have fr13 : frC M N13 := fr12.tr (by rw [hE13]; exact frC.new hq4)
  refine lv_dup S.1 S.2.1 d_B_init_52 rfl ?_
  refine m_cv hw (va_runIN (As := []) (rest := [.ref q4, .ref a]) S (c_A_init l γ N13 q4) (m_cwIN 0 S hN g129 g47 g130 rfl rfl rfl ⟨by decide +kernel, by decide +kernel, by decide +kernel⟩ ⟨(Nat.le_of_ble_eq_true rfl), (Nat.le_of_ble_eq_true rfl)⟩) hw.preS rfl rfl hl.1 rfl (lv_room (Nat.le_of_ble_eq_true rfl)) d_B_init_53 ⟨(Nat.le_of_ble_eq_true rfl), (Nat.le_of_ble_eq_true rfl)⟩) (fun A5 H locs hp hw => ?_)
  rw [hp] at hw
  refine m_putF S hw cl_B F13_a 4 (by decide) g149 (fun _ h => h) rfl hnm rfl rfl rfl (Nat.le_of_ble_eq_true rfl) d_B_init_56 (fun H locs hw => ?_)
  have hw : mW γ (mU N13 a (.inr (6, [.ref q0, .ref q1, .ref q2, .ref q3, .ref q4, .int 0, .int 0, .int 0, .int 0]))) s H locs := hw
  obtain ⟨N14, hE14⟩ : ∃ z, z = mU N13 a (.inr (6, [.ref q0, .ref q1, .ref q2, .ref q3, .ref q4, .int 0, .int 0, .int 0, .int 0])) := ⟨_, rfl⟩
  rw [← hE14] at hw
  have F14_q0 : N14 q0 = some (.inr (0, [.int 0, .ref (ge γ), .int 0])) := by rw [hE14]; exact (mU_to (n_a_q0).symm F13_q0)
  have F14_l1 : N14 l1 = some (.inr (0, [.int 0, .ref (ge γ), .int 0])) := by rw [hE14]; exact (mU_to (n_a_l1).symm F13_l1)
  have F14_q1 : N14 q1 = some (.inr (3, [.ref l1])) := by rw [hE14]; exact (mU_to (n_a_q1).symm F13_q1)
  have F14_l2 : N14 l2 = some (.inr (0, [.int 0, .ref (ge γ), .int 0])) := by rw [hE14]; exact (mU_to (n_a_l2).symm F13_l2)
  have F14_q2 : N14 q2 = some (.inr (3, [.ref l2])) := by rw [hE14]; exact (mU_to (n_a_q2).symm F13_q2)
  have F14_l3 : N14 l3 = some (.inr (0, [.int 0, .ref (ge γ), .int 0])) := by rw [hE14]; exact (mU_to (n_a_l3).symm F13_l3)
  have F14_q3 : N14 q3 = some (.inr (5, [.ref l3, .long 0])) := by rw [hE14]; exact (mU_to (n_a_q3).symm F13_q3)
  have F14_q4 : N14 q4 = some (.inr (1, [.int 0, .long 0, .long 0])) := by rw [hE14]; exact (mU_to (n_a_q4).symm F13_q4)
  have F14_a : N14 a = some (.inr (6, [.ref q0, .ref q1, .ref q2, .ref q3, .ref q4, .int 0, .int 0, .int 0, .int 0])) := by rw [hE14]; exact (mU_eq _ _ _)
  have fr14 : frC M N14 := fr13.tr (by rw [hE14]; exact frC.setO F13_a (by decide))
  refine lv_aload_n S.1 S.2.1 d_B_init_59 rfl (lv_at hl 0 rfl) ?_
  refine lv_iconst (v := 0) S.1 S.2.1 d_B_init_60 (by decide) ?_
  refine m_put S hw cl_B F14_a 5 (by decide) g150 (fun _ h => h) rfl rfl rfl (Nat.le_of_ble_eq_true rfl) d_B_init_61 (fun H locs hw => ?_)
  have hw : mW γ (mU N14 a (.inr (6, [.ref q0, .ref q1, .ref q2, .ref q3, .ref q4, .int 0, .int 0, .int 0, .int 0]))) s H locs := hw
  refine lv_aload_n S.1 S.2.1 d_B_init_64 rfl (lv_at hl 0 rfl) ?_
  refine lv_sipush (v := 1000) S.1 S.2.1 d_B_init_65 (by decide) ?_
  refine m_put S hw cl_B (mU_eq _ _ _) 6 (by decide) g151 (fun _ h => h) rfl rfl rfl (Nat.le_of_ble_eq_true rfl) d_B_init_68 (fun H locs hw => ?_)
  have hw : mW γ (mU (mU N14 a (.inr (6, [.ref q0, .ref q1, .ref q2, .ref q3, .ref q4, .int 0, .int 0, .int 0, .int 0]))) a (.inr (6, [.ref q0, .ref q1, .ref q2, .ref q3, .ref q4, .int 0, .int 1000, .int 0, .int 0]))) s H locs := hw
  refine lv_aload_n S.1 S.2.1 d_B_init_71 rfl (lv_at hl 0 rfl) ?_
  refine lv_iconst (v := 0) S.1 S.2.1 d_B_init_72 (by decide) ?_
  refine m_put S hw cl_B (mU_eq _ _ _) 7 (by decide) g152 (fun _ h => h) rfl rfl rfl (Nat.le_of_ble_eq_true rfl) d_B_init_73 (fun H locs hw => ?_)
  have hw : mW γ (mU (mU (mU N14 a (.inr (6, [.ref q0, .ref q1, .ref q2, .ref q3, .ref q4, .int 0, .int 0, .int 0, .int 0]))) a (.inr (6, [.ref q0, .ref q1, .ref q2, .ref q3, .ref q4, .int 0, .int 1000, .int 0, .int 0]))) a (.inr (6, [.ref q0, .ref q1, .ref q2, .ref q3, .ref q4, .int 0, .int 1000, .int 0, .int 0]))) s H locs := hw
  refine lv_aload_n S.1 S.2.1 d_B_init_76 rfl (lv_at hl 0 rfl) ?_
  refine lv_iconst (v := 0) S.1 S.2.1 d_B_init_77 (by decide) ?_
  refine m_put S hw cl_B (mU_eq _ _ _) 8 (by decide) g153 (fun _ h => h) rfl rfl rfl (Nat.le_of_ble_eq_true rfl) d_B_init_78 (fun H locs hw => ?_)
  have hw : mW γ (mU (mU (mU (mU N14 a (.inr (6, [.ref q0, .ref q1, .ref q2, .ref q3, .ref q4, .int 0, .int 0, .int 0, .int 0]))) a (.inr (6, [.ref q0, .ref q1, .ref q2, .ref q3, .ref q4, .int 0, .int 1000, .int 0, .int 0]))) a (.inr (6, [.ref q0, .ref q1, .ref q2, .ref q3, .ref q4, .int 0, .int 1000, .int 0, .int 0]))) a (.inr (6, [.ref q0, .ref q1, .ref q2, .ref q3, .ref q4, .int 0, .int 1000, .int 0, .int 0]))) s H locs := hw
  rw [mU_uu, mU_uu, mU_uu] at hw
  obtain ⟨N15, hE15⟩ : ∃ z, z = mU N14 a (.inr (6, [.ref q0, .ref q1, .ref q2, .ref q3, .ref q4, .int 0, .int 1000, .int 0, .int 0])) := ⟨_, rfl⟩
  rw [← hE15] at hw
  have F15_q0 : N15 q0 = some (.inr (0, [.int 0, .ref (ge γ), .int 0])) := by rw [hE15]; exact (mU_to (n_a_q0).symm F14_q0)
  have F15_l1 : N15 l1 = some (.inr (0, [.int 0, .ref (ge γ), .int 0])) := by rw [hE15]; exact (mU_to (n_a_l1).symm F14_l1)
  have F15_q1 : N15 q1 = some (.inr (3, [.ref l1])) := by rw [hE15]; exact (mU_to (n_a_q1).symm F14_q1)
  have F15_l2 : N15 l2 = some (.inr (0, [.int 0, .ref (ge γ), .int 0])) := by rw [hE15]; exact (mU_to (n_a_l2).symm F14_l2)
  have F15_q2 : N15 q2 = some (.inr (3, [.ref l2])) := by rw [hE15]; exact (mU_to (n_a_q2).symm F14_q2)
  have F15_l3 : N15 l3 = some (.inr (0, [.int 0, .ref (ge γ), .int 0])) := by rw [hE15]; exact (mU_to (n_a_l3).symm F14_l3)
  have F15_q3 : N15 q3 = some (.inr (5, [.ref l3, .long 0])) := by rw [hE15]; exact (mU_to (n_a_q3).symm F14_q3)
  have F15_q4 : N15 q4 = some (.inr (1, [.int 0, .long 0, .long 0])) := by rw [hE15]; exact (mU_to (n_a_q4).symm F14_q4)
  have F15_a : N15 a = some (.inr (6, [.ref q0, .ref q1, .ref q2, .ref q3, .ref q4, .int 0, .int 1000, .int 0, .int 0])) := by rw [hE15]; exact (mU_eq _ _ _)
  have fr15 : frC M N15 := fr14.tr (by rw [hE15]; exact frC.setO F14_a (by decide))
  exact m_vret S hlk hr hw (⟨β0 a q0 l1 l2 l3 q1 q2 q3 q4, rfl, CB.start F15_a F15_q0 F15_l1 F15_l2 F15_l3 F15_q1 F15_q2 F15_q3 F15_q4 n_q0_l1 n_q0_l2 n_q0_l3 n_l1_l2 n_l1_l3 n_l2_l3, fr15⟩) (Nat.le_of_ble_eq_true rfl) (Nat.le_of_ble_eq_true rfl) d_B_init_81
