/-! ArrayList and what it calls -/
set_option maxHeartbeats 4000000 in
set_option maxRecDepth 100000 in
theorem c_AbC_init (l : Launch) (γ : mG) (M : mMap) (a : Nat) : Met l y_AbC_init w_AbC_init ({ frames := 1, cells := 0, slots := 0, locals := 20 } : Room) (mPc γ M [.ref a]) (mQv γ (fun M' => M' = M)) 0 0 (mA (gz γ)) := by
  refine m_enter (by decide) (Nat.le_of_ble_eq_true rfl) ?_
  intro p e s m below meth c ls S hr hlk hnm hl hw
  have hl : lv_has ls 1 [(0, .ref a)] := hl
  refine lv_aload_n S.1 S.2.1 d_AbC_init_0 rfl (lv_at hl 0 rfl) ?_
  refine W.objInit S.1 S.2.1 S.2.2.2.1 (S.2.2.2.2 _ (gc g81)) (S.2.2.2.2 _ (gc g68)) (S.2.2.2.2 _ (gc g69)) rfl (by rw [S.2.2.1]; exact hl.1) rfl d_AbC_init_1 (Nat.le_of_ble_eq_true rfl) (Nat.le_of_ble_eq_true rfl) ?_
  refine W.eq (g2 := F0 m 4 ls []) rfl ?_
  exact m_vret S hlk hr hw rfl (Nat.le_refl _) (Nat.le_refl _) d_AbC_init_4
set_option maxHeartbeats 4000000 in
set_option maxRecDepth 100000 in
theorem c_AbL_init (l : Launch) (γ : mG) (M : mMap) (a : Nat) (md z : Int32) (rv : Value) (ha : M a = some (.inr (0, [.int md, rv, .int z]))) : Met l y_AbL_init w_AbL_init ({ frames := 2, cells := 0, slots := 0, locals := 40 } : Room) (mPc γ M [.ref a]) (mQv γ (fun M' => M' = mU M a (.inr (0, [.int 0, rv, .int z])))) 0 0 (mA (gz γ)) := by
  refine m_enter (by decide) (Nat.le_of_ble_eq_true rfl) ?_
  intro p e s m below meth c ls S hr hlk hnm hl hw
  have hl : lv_has ls 1 [(0, .ref a)] := hl
  refine lv_aload_n S.1 S.2.1 d_AbL_init_0 rfl (lv_at hl 0 rfl) ?_
  refine m_cv hw (va_runI (As := []) (rest := []) S (c_AbC_init l γ M a) (m_cwI 0 S g78 g79 g42 g80 rfl rfl rfl ⟨by decide +kernel, by decide +kernel, by decide +kernel⟩ ⟨(Nat.le_of_ble_eq_true rfl), (Nat.le_of_ble_eq_true rfl)⟩) hw.preS rfl rfl hl.1 rfl (lv_room (Nat.le_of_ble_eq_true rfl)) d_AbL_init_1 ⟨(Nat.zero_le _), (Nat.zero_le _)⟩) (fun M1 H locs hp hw => ?_)
  rw [hp] at hw
  refine lv_aload_n S.1 S.2.1 d_AbL_init_4 rfl (lv_at hl 0 rfl) ?_
  refine lv_iconst (v := 0) S.1 S.2.1 d_AbL_init_5 (by decide) ?_
  refine m_put S hw cl_AL ha 0 (by decide) g86 (fun _ h => h) rfl rfl rfl (Nat.le_of_ble_eq_true rfl) d_AbL_init_6 (fun H locs hw => ?_)
  have hw : mW γ (mU M a (.inr (0, [.int 0, rv, .int z]))) s H locs := hw
  exact m_vret S hlk hr hw rfl (Nat.le_refl _) (Nat.le_refl _) d_AbL_init_9
set_option maxHeartbeats 4000000 in
set_option maxRecDepth 100000 in
theorem c_AL_init (l : Launch) (γ : mG) (M : mMap) (a : Nat) (md z : Int32) (rv : Value) (ha : M a = some (.inr (0, [.int md, rv, .int z]))) : Met l y_AL_init w_AL_init ({ frames := 3, cells := 0, slots := 0, locals := 60 } : Room) (mPc γ M [.ref a]) (mQv γ (fun M' => M' = mU M a (.inr (0, [.int 0, .ref (ge γ), .int z])))) 0 0 (mA (gz γ)) := by
  refine m_enter (by decide) (Nat.le_of_ble_eq_true rfl) ?_
  intro p e s m below meth c ls S hr hlk hnm hl hw
  have hl : lv_has ls 1 [(0, .ref a)] := hl
  refine lv_aload_n S.1 S.2.1 d_AL_init_0 rfl (lv_at hl 0 rfl) ?_
  refine m_cv hw (va_runI (As := []) (rest := []) S (c_AbL_init l γ M a md z rv ha) (m_cwI 0 S g75 g76 g43 g77 rfl rfl rfl ⟨by decide +kernel, by decide +kernel, by decide +kernel⟩ ⟨(Nat.le_of_ble_eq_true rfl), (Nat.le_of_ble_eq_true rfl)⟩) hw.preS rfl rfl hl.1 rfl (lv_room (Nat.le_of_ble_eq_true rfl)) d_AL_init_1 ⟨(Nat.zero_le _), (Nat.zero_le _)⟩) (fun M1 H locs hp hw => ?_)
  rw [hp] at hw
  refine lv_aload_n S.1 S.2.1 d_AL_init_4 rfl (lv_at hl 0 rfl) ?_
  refine m_gets S hw g82 d_AL_init_5 ?_
  refine m_put S hw cl_AL (mU_eq _ _ _) 1 (by decide) g84 (fun _ h => h) rfl rfl rfl (Nat.le_of_ble_eq_true rfl) d_AL_init_8 (fun H locs hw => ?_)
  have hw : mW γ (mU (mU M a (.inr (0, [.int 0, rv, .int z]))) a (.inr (0, [.int 0, .ref (ge γ), .int z]))) s H locs := hw
  exact m_vret S hlk hr hw (mU_uu _ _ _ _) (Nat.le_refl _) (Nat.le_refl _) d_AL_init_11
set_option maxHeartbeats 4000000 in
set_option maxRecDepth 100000 in
theorem c_AL_size (l : Launch) (γ : mG) (M : mMap) (a : Nat) (md z : Int32) (rv : Value) (ha : M a = some (.inr (0, [.int md, rv, .int z]))) : Met l y_AL_size w_AL_size ({ frames := 0, cells := 0, slots := 0, locals := 0 } : Room) (mPc γ M [.ref a]) (mQi γ (fun r M' => r = z ∧ M' = M)) 0 0 (mA (gz γ)) := by
  refine m_enter (by decide) (Nat.le_of_ble_eq_true rfl) ?_
  intro p e s m below meth c ls S hr hlk hnm hl hw
  have hl : lv_has ls 1 [(0, .ref a)] := hl
  refine lv_aload_n S.1 S.2.1 d_AL_size_0 rfl (lv_at hl 0 rfl) ?_
  refine m_get S hw cl_AL ha 2 (by decide) g85 (fun _ h => h) rfl d_AL_size_1 ?_
  exact m_iret S hlk hr rfl hw (⟨rfl, rfl⟩) (Nat.le_refl _) (Nat.le_refl _) d_AL_size_4
set_option maxHeartbeats 4000000 in
set_option maxRecDepth 100000 in
theorem c_AL_isEmpty (l : Launch) (γ : mG) (M : mMap) (a : Nat) (md z : Int32) (rv : Value) (ha : M a = some (.inr (0, [.int md, rv, .int z]))) : Met l y_AL_isEmpty w_AL_isEmpty ({ frames := 0, cells := 0, slots := 0, locals := 0 } : Room) (mPc γ M [.ref a]) (mQi γ (fun r M' => r = b2i (decide (z = 0)) ∧ M' = M)) 0 0 (mA (gz γ)) := by
  refine m_enter (by decide) (Nat.le_of_ble_eq_true rfl) ?_
  intro p e s m below meth c ls S hr hlk hnm hl hw
  have hl : lv_has ls 1 [(0, .ref a)] := hl
  refine lv_aload_n S.1 S.2.1 d_AL_isEmpty_0 rfl (lv_at hl 0 rfl) ?_
  refine m_get S hw cl_AL ha 2 (by decide) g85 (fun _ h => h) rfl d_AL_isEmpty_1 ?_
  refine lv_if_ne (tgt := 11) S.1 S.2.1 d_AL_isEmpty_4 rfl (fun h4 => ?_) (fun h4 => ?_)
  · refine lv_iconst (v := 0) S.1 S.2.1 d_AL_isEmpty_11 (by decide) ?_
    exact m_iret S hlk hr rfl hw (by simp [b2i, h4]) (Nat.le_refl _) (Nat.le_refl _) d_AL_isEmpty_12
  · refine lv_iconst (v := 1) S.1 S.2.1 d_AL_isEmpty_7 (by decide) ?_
    refine lv_goto (tgt := 12) S.1 S.2.1 d_AL_isEmpty_8 rfl ?_
    exact m_iret S hlk hr rfl hw (by simp [b2i, h4]) (Nat.le_refl _) (Nat.le_refl _) d_AL_isEmpty_12
set_option maxHeartbeats 4000000 in
set_option maxRecDepth 100000 in
theorem c_Pc_checkIndex (l : Launch) (γ : mG) (M : mMap) (j n : Int32) (h0 : ¬ j < 0) (h1 : j < n) : Met l y_Pc_checkIndex w_Pc_checkIndex ({ frames := 0, cells := 0, slots := 0, locals := 0 } : Room) (mPc γ M [.int j, .int n, .null]) (mQi γ (fun r M' => r = j ∧ M' = M)) 0 0 (mA (gz γ)) := by
  refine m_enter (by decide) (Nat.le_of_ble_eq_true rfl) ?_
  intro p e s m below meth c ls S hr hlk hnm hl hw
  have hl : lv_has ls 3 [(0, .int j), (1, .int n), (2, .null)] := hl
  refine lv_iload_n S.1 S.2.1 d_Pc_checkIndex_0 rfl (lv_at hl 0 rfl) ?_
  refine lv_if_lt (tgt := 9) S.1 S.2.1 d_Pc_checkIndex_1 rfl (fun h => absurd h h0) (fun _ => ?_)
  refine lv_iload_n S.1 S.2.1 d_Pc_checkIndex_4 rfl (lv_at hl 0 rfl) ?_
  refine lv_iload_n S.1 S.2.1 d_Pc_checkIndex_5 rfl (lv_at hl 1 rfl) ?_
  refine lv_icmp_lt (tgt := 16) S.1 S.2.1 d_Pc_checkIndex_6 rfl (fun _ => ?_) (fun h => absurd h1 h)
  refine lv_iload_n S.1 S.2.1 d_Pc_checkIndex_16 rfl (lv_at hl 0 rfl) ?_
  exact m_iret S hlk hr rfl hw (⟨rfl, rfl⟩) (Nat.le_refl _) (Nat.le_refl _) d_Pc_checkIndex_17
set_option maxHeartbeats 4000000 in
set_option maxRecDepth 100000 in
theorem c_Ob_checkIndex (l : Launch) (γ : mG) (M : mMap) (j n : Int32) (h0 : ¬ j < 0) (h1 : j < n) : Met l y_Ob_checkIndex w_Ob_checkIndex ({ frames := 1, cells := 0, slots := 0, locals := 22 } : Room) (mPc γ M [.int j, .int n]) (mQi γ (fun r M' => r = j ∧ M' = M)) 0 0 (mA (gz γ)) := by
  refine m_enter (by decide) (Nat.le_of_ble_eq_true rfl) ?_
  intro p e s m below meth c ls S hr hlk hnm hl hw
  have hl : lv_has ls 2 [(0, .int j), (1, .int n)] := hl
  refine lv_iload_n S.1 S.2.1 d_Ob_checkIndex_0 rfl (lv_at hl 0 rfl) ?_
  refine lv_iload_n S.1 S.2.1 d_Ob_checkIndex_1 rfl (lv_at hl 1 rfl) ?_
  refine lv_null S.1 S.2.1 d_Ob_checkIndex_2 ?_
  refine m_ci hw (va_runS (As := [.int j, .int n, .null]) (rest := []) S (c_Pc_checkIndex l γ M j n h0 h1) (m_cwS 3 S g196 g197 g60 g198 rfl rfl ⟨by decide +kernel, by decide +kernel, by decide +kernel⟩ ⟨(Nat.le_of_ble_eq_true rfl), (Nat.le_of_ble_eq_true rfl)⟩) hw.preS rfl rfl hl.1 rfl (lv_room (Nat.le_of_ble_eq_true rfl)) d_Ob_checkIndex_3 ⟨(Nat.zero_le _), (Nat.zero_le _)⟩) (fun r1 M1 H locs hp hw => ?_)
  obtain ⟨rfl, hM1⟩ := hp
  rw [hM1] at hw
  exact m_iret S hlk hr rfl hw (⟨rfl, rfl⟩) (Nat.le_refl _) (Nat.le_refl _) d_Ob_checkIndex_6
set_option maxHeartbeats 4000000 in
set_option maxRecDepth 100000 in
theorem c_AL_elementData (l : Launch) (γ : mG) (M : mMap) (a : Nat) (md z : Int32) (rr n : Nat) (f : Nat → Option Nat) (ha : M a = some (.inr (0, [.int md, .ref rr, .int z]))) (hr0 : M rr = some (.inl (gA γ 3, n, .inr (.inr (.inr (.inr f)))))) (k : Nat) (hk : k < n) (hn : n < 2 ^ 31) : Met l y_AL_elementData w_AL_elementData ({ frames := 0, cells := 0, slots := 0, locals := 0 } : Room) (mPc γ M [.ref a, .int (nI k)]) (mQq γ (fun r M' => r = f k ∧ M' = M)) 0 0 (mA (gz γ)) := by
  refine m_enter (by decide) (Nat.le_of_ble_eq_true rfl) ?_
  intro p e s m below meth c ls S hr hlk hnm hl hw
  have hl : lv_has ls 2 [(0, .ref a), (1, .int (nI k))] := hl
  refine lv_aload_n S.1 S.2.1 d_AL_elementData_0 rfl (lv_at hl 0 rfl) ?_
  refine m_get S hw cl_AL ha 1 (by decide) g84 (fun _ h => h) rfl d_AL_elementData_1 ?_
  refine lv_iload_n S.1 S.2.1 d_AL_elementData_4 rfl (lv_at hl 1 rfl) ?_
  refine m_aald S hw hr0 (vp_in_nI hk hn) d_AL_elementData_5 ?_
  exact m_aret (r := (f (nI k : Int32).toNatClampNeg)) S hlk hr (Or.inl ⟨_, rfl⟩) hw (⟨by rw [nI_clamp (by omega)], rfl⟩) (Nat.le_refl _) (Nat.le_refl _) d_AL_elementData_6
set_option maxHeartbeats 4000000 in
set_option maxRecDepth 100000 in
theorem c_AL_get (l : Launch) (γ : mG) (M : mMap) (a rr cap : Nat) (xs : List Nat) (hA : AL γ M a rr cap xs) (k : Nat) (hk : k < xs.length) : Met l y_AL_get w_AL_get ({ frames := 2, cells := 0, slots := 0, locals := 43 } : Room) (mPc γ M [.ref a, .int (nI k)]) (mQq γ (fun r M' => r = xs[k]? ∧ M' = M)) 0 0 (mA (gz γ)) := by
  refine m_enter (by decide) (Nat.le_of_ble_eq_true rfl) ?_
  intro p e s m below meth c ls S hr hlk hnm hl hw
  have hl : lv_has ls 2 [(0, .ref a), (1, .int (nI k))] := hl
  obtain ⟨md, f, ha, hr0, hct, hle, hcap, h10⟩ := hA.pos hk
  refine lv_iload_n S.1 S.2.1 d_AL_get_0 rfl (lv_at hl 1 rfl) ?_
  refine lv_aload_n S.1 S.2.1 d_AL_get_1 rfl (lv_at hl 0 rfl) ?_
  refine m_get S hw cl_AL ha 2 (by decide) g85 (fun _ h => h) rfl d_AL_get_2 ?_
  refine m_ci hw (va_runS (As := [.int (nI k), .int (nI xs.length)]) (rest := []) S (c_Ob_checkIndex l γ M (nI k) (nI xs.length) (nI_pos (by omega)) (nI_lt hk (by omega))) (m_cwS 2 S g193 g194 g59 g195 rfl rfl ⟨by decide +kernel, by decide +kernel, by decide +kernel⟩ ⟨(Nat.le_of_ble_eq_true rfl), (Nat.le_of_ble_eq_true rfl)⟩) hw.preS rfl rfl hl.1 rfl (lv_room (Nat.le_of_ble_eq_true rfl)) d_AL_get_5 ⟨(Nat.zero_le _), (Nat.zero_le _)⟩) (fun r1 M1 H locs hp hw => ?_)
  obtain ⟨rfl, hM1⟩ := hp
  rw [hM1] at hw
  refine lv_pop S.1 S.2.1 d_AL_get_8 rfl ?_
  refine lv_aload_n S.1 S.2.1 d_AL_get_9 rfl (lv_at hl 0 rfl) ?_
  refine lv_iload_n S.1 S.2.1 d_AL_get_10 rfl (lv_at hl 1 rfl) ?_
  refine m_cq hw (va_runV (As := [.int (nI k)]) (rest := []) S (c_AL_elementData l γ M a md _ rr cap f ha hr0 k (by omega) (by omega)) (m_cwV 1 S g199 g200 g201 g44 g202 rfl rfl ⟨by decide +kernel, by decide +kernel, by decide +kernel⟩ ⟨(Nat.le_of_ble_eq_true rfl), (Nat.le_of_ble_eq_true rfl)⟩) (hw.preV ha cl_AL.1) rfl rfl hl.1 rfl (lv_room (Nat.le_of_ble_eq_true rfl)) d_AL_get_11 ⟨(Nat.zero_le _), (Nat.zero_le _)⟩) (fun r1 M1 H locs hp hw => ?_)
  obtain ⟨rfl, hM1⟩ := hp
  rw [hM1] at hw
  exact m_aret (r := (f k)) S hlk hr (Or.inl ⟨_, rfl⟩) hw (⟨hct k hk, rfl⟩) (Nat.le_refl _) (Nat.le_refl _) d_AL_get_14
