/-! CallBook$TradeLog, CallBook$Trade, CallBook$Auction: made, and a trade kept -/
set_option maxHeartbeats 4000000 in
set_option maxRecDepth 100000 in
theorem c_G_init (l : Launch) (γ : mG) (M : mMap) (a : Nat) (ha : M a = some (.inr (5, [.null, .long 0]))) : Met l y_G_init w_G_init ({ frames := 4, cells := 1, slots := 3, locals := 80 } : Room) (mPc γ M [.ref a]) (mQv γ (fun M' => ∃ q, M q = none ∧ gz γ ≤ q ∧ M' = mU (mU M q (.inr (0, [.int 0, .ref (ge γ), .int 0]))) a (.inr (5, [.ref q, .long 0])))) 1 3 (mA (gz γ)) := by
  refine m_enter (by decide) (Nat.le_of_ble_eq_true rfl) ?_
  intro p e s m below meth c ls S hr hlk hnm hl hw
  have hl : lv_has ls 1 [(0, .ref a)] := hl
  refine lv_aload_n S.1 S.2.1 d_G_init_0 rfl (lv_at hl 0 rfl) ?_
  refine W.objInit S.1 S.2.1 S.2.2.2.1 (S.2.2.2.2 _ (gc g114)) (S.2.2.2.2 _ (gc g68)) (S.2.2.2.2 _ (gc g69)) rfl (by rw [S.2.2.1]; exact hl.1) rfl d_G_init_1 (Nat.le_of_ble_eq_true rfl) (Nat.le_of_ble_eq_true rfl) ?_
  refine W.eq (g2 := F0 m 4 ls []) rfl ?_
  refine lv_aload_n S.1 S.2.1 d_G_init_4 rfl (lv_at hl 0 rfl) ?_
  refine m_new (fs := [.int 0, .null, .int 0]) S hw cl_AL g115 g71 g44 (fun j hj => by rcases (show j = 0 ∨ j = 1 ∨ j = 2 by omega) with rfl | rfl | rfl <;> rfl) (Nat.le_of_ble_eq_true rfl) (Nat.le_of_ble_eq_true rfl) d_G_init_5 (fun q H hq hzq hw => ?_)
  refine lv_dup S.1 S.2.1 d_G_init_8 rfl ?_
  refine m_cv hw (va_runI (As := []) (rest := [.ref q, .ref a]) S (c_AL_init l γ (mU M q (.inr (0, [.int 0, .null, .int 0]))) q 0 0 .null (mU_eq _ _ _)) (m_cwI 0 S g116 g73 g44 g74 rfl rfl rfl ⟨by decide +kernel, by decide +kernel, by decide +kernel⟩ ⟨(Nat.le_of_ble_eq_true rfl), (Nat.le_of_ble_eq_true rfl)⟩) hw.preS rfl rfl hl.1 rfl (lv_room (Nat.le_of_ble_eq_true rfl)) d_G_init_9 ⟨(Nat.le_of_ble_eq_true rfl), (Nat.le_of_ble_eq_true rfl)⟩) (fun M1 H locs hp hw => ?_)
  rw [hp] at hw
  rw [mU_uu] at hw
  refine m_putF S hw cl_G (mU_to (m_fne ha hq) ha) 0 (by decide) g117 (fun _ h => h) rfl hnm rfl rfl rfl (Nat.le_of_ble_eq_true rfl) d_G_init_12 (fun H locs hw => ?_)
  have hw : mW γ (mU (mU M q (.inr (0, [.int 0, .ref (ge γ), .int 0]))) a (.inr (5, [.ref q, .long 0]))) s H locs := hw
  exact m_vret S hlk hr hw (⟨q, hq, hzq, rfl⟩) (Nat.le_refl _) (Nat.le_refl _) d_G_init_15
set_option maxHeartbeats 4000000 in
set_option maxRecDepth 100000 in
theorem c_A_init (l : Launch) (γ : mG) (M : mMap) (a : Nat) : Met l y_A_init w_A_init ({ frames := 1, cells := 0, slots := 0, locals := 20 } : Room) (mPc γ M [.ref a]) (mQv γ (fun M' => M' = M)) 0 0 (mA (gz γ)) := by
  refine m_enter (by decide) (Nat.le_of_ble_eq_true rfl) ?_
  intro p e s m below meth c ls S hr hlk hnm hl hw
  have hl : lv_has ls 1 [(0, .ref a)] := hl
  refine lv_aload_n S.1 S.2.1 d_A_init_0 rfl (lv_at hl 0 rfl) ?_
  refine W.objInit S.1 S.2.1 S.2.2.2.1 (S.2.2.2.2 _ (gc g131)) (S.2.2.2.2 _ (gc g68)) (S.2.2.2.2 _ (gc g69)) rfl (by rw [S.2.2.1]; exact hl.1) rfl d_A_init_1 (Nat.le_of_ble_eq_true rfl) (Nat.le_of_ble_eq_true rfl) ?_
  refine W.eq (g2 := F0 m 4 ls []) rfl ?_
  exact m_vret S hlk hr hw rfl (Nat.le_refl _) (Nat.le_refl _) d_A_init_4
set_option maxHeartbeats 4000000 in
set_option maxRecDepth 100000 in
theorem c_R_init (l : Launch) (γ : mG) (M : mMap) (a : Nat) (ha : M a = some (.inr (4, [.int 0, .int 0, .int 0, .int 0]))) (b0 s0 p0 q0 : Int32) : Met l y_R_init w_R_init ({ frames := 1, cells := 0, slots := 0, locals := 20 } : Room) (mPc γ M [.ref a, .int b0, .int s0, .int p0, .int q0]) (mQv γ (fun M' => M' = mU M a (.inr (4, [.int b0, .int s0, .int p0, .int q0])))) 0 0 (mA (gz γ)) := by
  refine m_enter (by decide) (Nat.le_of_ble_eq_true rfl) ?_
  intro p e s m below meth c ls S hr hlk hnm hl hw
  have hl : lv_has ls 5 [(0, .ref a), (1, .int b0), (2, .int s0), (3, .int p0), (4, .int q0)] := hl
  refine lv_aload_n S.1 S.2.1 d_R_init_0 rfl (lv_at hl 0 rfl) ?_
  refine W.objInit S.1 S.2.1 S.2.2.2.1 (S.2.2.2.2 _ (gc g544)) (S.2.2.2.2 _ (gc g68)) (S.2.2.2.2 _ (gc g69)) rfl (by rw [S.2.2.1]; exact hl.1) rfl d_R_init_1 (Nat.le_of_ble_eq_true rfl) (Nat.le_of_ble_eq_true rfl) ?_
  refine W.eq (g2 := F0 m 4 ls []) rfl ?_
  refine lv_aload_n S.1 S.2.1 d_R_init_4 rfl (lv_at hl 0 rfl) ?_
  refine lv_iload_n S.1 S.2.1 d_R_init_5 rfl (lv_at hl 1 rfl) ?_
  refine m_putF S hw cl_R ha 0 (by decide) g545 (fun _ h => h) rfl hnm rfl rfl rfl (Nat.le_of_ble_eq_true rfl) d_R_init_6 (fun H locs hw => ?_)
  have hw : mW γ (mU M a (.inr (4, [.int b0, .int 0, .int 0, .int 0]))) s H locs := hw
  refine lv_aload_n S.1 S.2.1 d_R_init_9 rfl (lv_at hl 0 rfl) ?_
  refine lv_iload_n S.1 S.2.1 d_R_init_10 rfl (lv_at hl 2 rfl) ?_
  refine m_putF S hw cl_R (mU_eq _ _ _) 1 (by decide) g547 (fun _ h => h) rfl hnm rfl rfl rfl (Nat.le_of_ble_eq_true rfl) d_R_init_11 (fun H locs hw => ?_)
  have hw : mW γ (mU (mU M a (.inr (4, [.int b0, .int 0, .int 0, .int 0]))) a (.inr (4, [.int b0, .int s0, .int 0, .int 0]))) s H locs := hw
  refine lv_aload_n S.1 S.2.1 d_R_init_14 rfl (lv_at hl 0 rfl) ?_
  refine lv_iload_n S.1 S.2.1 d_R_init_15 rfl (lv_at hl 3 rfl) ?_
  refine m_putF S hw cl_R (mU_eq _ _ _) 2 (by decide) g549 (fun _ h => h) rfl hnm rfl rfl rfl (Nat.le_of_ble_eq_true rfl) d_R_init_16 (fun H locs hw => ?_)
  have hw : mW γ (mU (mU (mU M a (.inr (4, [.int b0, .int 0, .int 0, .int 0]))) a (.inr (4, [.int b0, .int s0, .int 0, .int 0]))) a (.inr (4, [.int b0, .int s0, .int p0, .int 0]))) s H locs := hw
  refine lv_aload_n S.1 S.2.1 d_R_init_19 rfl (lv_at hl 0 rfl) ?_
  refine lv_iload S.1 S.2.1 d_R_init_20 (lv_at hl 4 rfl) ?_
  refine m_putF S hw cl_R (mU_eq _ _ _) 3 (by decide) g551 (fun _ h => h) rfl hnm rfl rfl rfl (Nat.le_of_ble_eq_true rfl) d_R_init_22 (fun H locs hw => ?_)
  have hw : mW γ (mU (mU (mU (mU M a (.inr (4, [.int b0, .int 0, .int 0, .int 0]))) a (.inr (4, [.int b0, .int s0, .int 0, .int 0]))) a (.inr (4, [.int b0, .int s0, .int p0, .int 0]))) a (.inr (4, [.int b0, .int s0, .int p0, .int q0]))) s H locs := hw
  exact m_vret S hlk hr hw (by rw [mU_uu, mU_uu, mU_uu]) (Nat.le_refl _) (Nat.le_refl _) d_R_init_25
theorem mEl.set4 {M : mMap} {g : Nat} {xs : List Nat} {fs0 : List Value} {e : va_E} (h : mEl M 4 xs) (hg : M g = some (.inr (5, fs0))) : mEl (mU M g e) 4 xs := by
  refine ⟨h.1, fun y hy => ?_⟩
  obtain ⟨fs, hfs⟩ := h.2 y hy
  exact ⟨fs, mU_to (m_kind hfs hg (fun z => by cases z)) hfs⟩
set_option maxHeartbeats 4000000 in
set_option maxRecDepth 100000 in
theorem c_G_keep (l : Launch) (γ : mG) (M : mMap) (g0 l0 r0 cap : Nat) (tt : Int64) (xs : List Nat) (hs : M g0 = some (.inr (5, [.ref l0, .long tt]))) (hA : AL γ M l0 r0 cap xs) (hE : mEl M 4 xs) (hlen : xs.length < 30000) (b0 s0 p0 q0 : Int32) : Met l y_G_keep w_G_keep ({ frames := 7, cells := 1 + gN cap xs.length, slots := 4 + sN cap xs.length, locals := 179 } : Room) (mPc γ M [.ref g0, .int b0, .int s0, .int p0, .int q0]) (mQv γ (fun M' => ∃ q r', M q = none ∧ gz γ ≤ q ∧ AL γ M' l0 r' (cN cap xs.length) (xs ++ [q]) ∧ alF (mU (mU M g0 (.inr (5, [.ref l0, .long (tt + q0.toInt64)]))) q (.inr (4, [.int b0, .int s0, .int p0, .int q0]))) M' l0 r0 r')) (1 + gN cap xs.length) (4 + sN cap xs.length) (mA (gz γ)) := by
  refine m_enter (by decide) (Nat.le_of_ble_eq_true rfl) ?_
  intro p e s m below meth c ls S hr hlk hnm hl hw
  have hl : lv_has ls 5 [(0, .ref g0), (1, .int b0), (2, .int s0), (3, .int p0), (4, .int q0)] := hl
  refine lv_aload_n S.1 S.2.1 d_G_keep_0 rfl (lv_at hl 0 rfl) ?_
  refine lv_dup S.1 S.2.1 d_G_keep_1 rfl ?_
  refine m_get S hw cl_G hs 1 (by decide) g119 (fun _ h => h) rfl d_G_keep_2 ?_
  refine lv_iload S.1 S.2.1 d_G_keep_5 (lv_at hl 4 rfl) ?_
  refine lv_i2l S.1 S.2.1 d_G_keep_7 rfl ?_
  refine lv_ladd S.1 S.2.1 d_G_keep_8 ?_
  refine m_put S hw cl_G hs 1 (by decide) g119 (fun _ h => h) rfl rfl rfl (Nat.le_of_ble_eq_true rfl) d_G_keep_9 (fun H locs hw => ?_)
  have hw : mW γ (mU M g0 (.inr (5, [.ref l0, .long (tt + q0.toInt64)]))) s H locs := hw
  have hA0 : AL γ (mU M g0 (.inr (5, [.ref l0, .long (tt + q0.toInt64)]))) l0 r0 cap xs := hA.setO hs (by decide)
  obtain ⟨⟨md, hl0⟩, -⟩ := id hA0
  refine lv_aload_n S.1 S.2.1 d_G_keep_12 rfl (lv_at hl 0 rfl) ?_
  refine m_get S hw cl_G (mU_eq _ _ _) 0 (by decide) g117 (fun _ h => h) rfl d_G_keep_13 ?_
  refine m_ci hw (va_runV (As := []) (rest := []) S (c_AL_size l γ (mU M g0 (.inr (5, [.ref l0, .long (tt + q0.toInt64)]))) l0 md _ _ hl0) (m_cwV 0 S g212 g186 g187 g44 g188 rfl rfl ⟨by decide +kernel, by decide +kernel, by decide +kernel⟩ ⟨(Nat.le_of_ble_eq_true rfl), (Nat.le_of_ble_eq_true rfl)⟩) (hw.preV hl0 cl_AL.1) rfl rfl hl.1 rfl (lv_room (Nat.le_of_ble_eq_true rfl)) d_G_keep_16 ⟨(Nat.zero_le _), (Nat.zero_le _)⟩) (fun r1 M1 H locs hp hw => ?_)
  obtain ⟨rfl, hM1⟩ := hp
  rw [hM1] at hw
  refine lv_ldc S.1 S.2.1 S.2.2.2.1 (S.2.2.2.2 _ (gc g539)) d_G_keep_19 ?_
  refine lv_icmp_ge (tgt := 44) S.1 S.2.1 d_G_keep_21 rfl (fun h => absurd h (show ¬ nI 32768 ≤ nI xs.length from nI_ge (by omega) (by decide))) (fun _ => ?_)
  refine lv_aload_n S.1 S.2.1 d_G_keep_24 rfl (lv_at hl 0 rfl) ?_
  refine m_get S hw cl_G (mU_eq _ _ _) 0 (by decide) g117 (fun _ h => h) rfl d_G_keep_25 ?_
  refine m_new (fs := [.int 0, .int 0, .int 0, .int 0]) S hw cl_R g214 g540 g61 (fun j hj => by rcases (show j = 0 ∨ j = 1 ∨ j = 2 ∨ j = 3 by omega) with rfl | rfl | rfl | rfl <;> rfl) (by show 0 + 1 ≤ 1 + gN cap xs.length; omega) (by show 0 + 4 ≤ 4 + sN cap xs.length; omega) d_G_keep_28 (fun q H hq hzq hw => ?_)
  refine lv_dup S.1 S.2.1 d_G_keep_31 rfl ?_
  refine lv_iload_n S.1 S.2.1 d_G_keep_32 rfl (lv_at hl 1 rfl) ?_
  refine lv_iload_n S.1 S.2.1 d_G_keep_33 rfl (lv_at hl 2 rfl) ?_
  refine lv_iload_n S.1 S.2.1 d_G_keep_34 rfl (lv_at hl 3 rfl) ?_
  refine lv_iload S.1 S.2.1 d_G_keep_35 (lv_at hl 4 rfl) ?_
  refine m_cv hw (va_runI (As := [.int b0, .int s0, .int p0, .int q0]) (rest := [.ref q, .ref l0]) S (c_R_init l γ (mU (mU M g0 (.inr (5, [.ref l0, .long (tt + q0.toInt64)]))) q (.inr (4, [.int 0, .int 0, .int 0, .int 0]))) q (mU_eq _ _ _) b0 s0 p0 q0) (m_cwI 4 S g541 g542 g61 g543 rfl rfl rfl ⟨by decide +kernel, by decide +kernel, by decide +kernel⟩ ⟨(Nat.le_of_ble_eq_true rfl), (Nat.le_of_ble_eq_true rfl)⟩) hw.preS rfl rfl hl.1 rfl (lv_room (Nat.le_of_ble_eq_true rfl)) d_G_keep_37 ⟨(by show 0 + 1 + 0 ≤ 1 + gN cap xs.length; omega), (by show 0 + 4 + 0 ≤ 4 + sN cap xs.length; omega)⟩) (fun M1 H locs hp hw => ?_)
  rw [hp] at hw
  rw [mU_uu] at hw
  have hA1 : AL γ (mU (mU M g0 (.inr (5, [.ref l0, .long (tt + q0.toInt64)]))) q (.inr (4, [.int b0, .int s0, .int p0, .int q0]))) l0 r0 cap xs := hA0.keep (mU_ne (m_fne hl0 hq)) (fun hc => by obtain ⟨f, hf⟩ := hA0.arr hc; exact mU_ne (m_fne hf hq))
  have hE1 : mEl (mU (mU M g0 (.inr (5, [.ref l0, .long (tt + q0.toInt64)]))) q (.inr (4, [.int b0, .int s0, .int p0, .int q0]))) 4 (q :: xs) := ⟨Or.inr rfl, fun x hx => (List.mem_cons.mp hx).elim (fun e => by subst e; exact ⟨_, mU_eq _ _ _⟩) (fun e => ((hE.set4 hs).new hq).2 x e)⟩
  refine m_ci hw (va_runV (As := [.ref q]) (rest := []) S (cc_add l γ (mU (mU M g0 (.inr (5, [.ref l0, .long (tt + q0.toInt64)]))) q (.inr (4, [.int b0, .int s0, .int p0, .int q0]))) l0 r0 cap xs hA1 q 4 hE1 (by omega)) (m_cwV 1 S g562 g432 g433 g44 g434 rfl rfl ⟨by decide +kernel, by decide +kernel, by decide +kernel⟩ ⟨(Nat.le_of_ble_eq_true rfl), (Nat.le_of_ble_eq_true rfl)⟩) (hw.preV (mU_to (m_fne hl0 hq) hl0) cl_AL.1) rfl rfl hl.1 rfl (lv_room (Nat.le_of_ble_eq_true rfl)) d_G_keep_40 ⟨(by show 0 + 1 + 0 + gN cap xs.length ≤ 1 + gN cap xs.length; omega), (by show 0 + 4 + 0 + sN cap xs.length ≤ 4 + sN cap xs.length; omega)⟩) (fun r1 M1 H locs hp hw => ?_)
  obtain ⟨rfl, r9, hA2, hF2⟩ := hp
  refine lv_pop S.1 S.2.1 d_G_keep_43 rfl ?_
  exact m_vret S hlk hr hw (⟨q, r9, (mU_q0 hq).2, hzq, hA2, hF2⟩) (by show 0 + 1 + 0 + gN cap xs.length ≤ 1 + gN cap xs.length; omega) (by show 0 + 4 + 0 + sN cap xs.length ≤ 4 + sN cap xs.length; omega) d_G_keep_44
