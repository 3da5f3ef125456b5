/-! ArrayList: remove(int) -/
set_option maxHeartbeats 4000000 in
set_option maxRecDepth 100000 in
theorem c_AL_fastRemoveM (l : Launch) (γ : mG) (M : mMap) (a : Nat) (md : Int32) (rr n k : Nat) (f : Nat → Option Nat) (ha : M a = some (.inr (0, [.int md, .ref rr, .int (nI (k + 1))]))) (hr0 : M rr = some (.inl (gA γ 3, n, .inr (.inr (.inr (.inr f)))))) (ci : Nat) (xs : List Nat) (hE : mEl M ci xs) (hct : ct f xs) (hxs : xs.length = k + 1) (hk : k < n) (hn : n ≤ 100000) (i0 : Nat) (hi : i0 < k) : Met l y_AL_fastRemove w_AL_fastRemove ({ frames := 1, cells := 0, slots := 0, locals := 48 } : Room) (mPc γ M [.ref a, .ref rr, .int (nI i0)]) (mQv γ (fun M' => M' = mU (mU (mU (mU M a (.inr (0, [.int (md + 1), .ref rr, .int (nI (k + 1))]))) rr (.inl (gA γ 3, n, .inr (.inr (.inr (.inr (va_cpy f f (i0 + 1) i0 (k - i0)))))))) a (.inr (0, [.int (md + 1), .ref rr, .int (nI k)]))) rr (.inl (gA γ 3, n, .inr (.inr (.inr (.inr (va_up (va_cpy f f (i0 + 1) i0 (k - i0)) k none)))))))) 0 0 (mA (gz γ)) := by
  refine m_enter (by decide) (Nat.le_of_ble_eq_true rfl) ?_
  intro p e s m below meth c ls S hr hlk hnm hl hw
  have hl : lv_has ls 4 [(0, .ref a), (1, .ref rr), (2, .int (nI i0))] := hl
  refine lv_aload_n S.1 S.2.1 d_AL_fastRemove_0 rfl (lv_at hl 0 rfl) ?_
  refine lv_dup S.1 S.2.1 d_AL_fastRemove_1 rfl ?_
  refine m_get S hw cl_AL ha 0 (by decide) g87 (fun x h => u_same (S.2.2.2.2 _ (gc g88)) x h) rfl d_AL_fastRemove_2 ?_
  refine lv_iconst (v := 1) S.1 S.2.1 d_AL_fastRemove_5 (by decide) ?_
  refine lv_iadd S.1 S.2.1 d_AL_fastRemove_6 ?_
  refine m_put S hw cl_AL ha 0 (by decide) g87 (fun x h => u_same (S.2.2.2.2 _ (gc g88)) x h) rfl rfl rfl (Nat.le_of_ble_eq_true rfl) d_AL_fastRemove_7 (fun H locs hw => ?_)
  have hw : mW γ (mU M a (.inr (0, [.int (md + 1), .ref rr, .int (nI (k + 1))]))) s H locs := hw
  refine lv_aload_n S.1 S.2.1 d_AL_fastRemove_10 rfl (lv_at hl 0 rfl) ?_
  refine m_get S hw cl_AL (mU_eq _ _ _) 2 (by decide) g85 (fun _ h => h) rfl d_AL_fastRemove_11 ?_
  refine lv_iconst (v := 1) S.1 S.2.1 d_AL_fastRemove_14 (by decide) ?_
  refine lv_isub S.1 S.2.1 d_AL_fastRemove_15 ?_
  refine W.eq (g2 := F0 m 16 ls [.int (nI k)]) (by rw [nI_pred]) ?_
  refine lv_dup S.1 S.2.1 d_AL_fastRemove_16 rfl ?_
  refine lv_istore_n S.1 S.2.1 d_AL_fastRemove_17 rfl hl (by decide) rfl (fun ls hl => ?_)
  have hl : lv_has ls 4 [(3, .int (nI k)), (0, .ref a), (1, .ref rr), (2, .int (nI i0))] := hl
  refine lv_iload_n S.1 S.2.1 d_AL_fastRemove_18 rfl (lv_at hl 3 rfl) ?_
  refine lv_icmp_le (tgt := 34) S.1 S.2.1 d_AL_fastRemove_19 rfl (fun h => absurd h (show ¬ nI k ≤ nI i0 from nI_ge hi (by omega))) (fun _ => ?_)
  refine lv_aload_n S.1 S.2.1 d_AL_fastRemove_22 rfl (lv_at hl 2 rfl) ?_
  refine lv_iload_n S.1 S.2.1 d_AL_fastRemove_23 rfl (lv_at hl 3 rfl) ?_
  refine lv_iconst (v := 1) S.1 S.2.1 d_AL_fastRemove_24 (by decide) ?_
  refine lv_iadd S.1 S.2.1 d_AL_fastRemove_25 ?_
  refine lv_aload_n S.1 S.2.1 d_AL_fastRemove_26 rfl (lv_at hl 2 rfl) ?_
  refine lv_iload_n S.1 S.2.1 d_AL_fastRemove_27 rfl (lv_at hl 3 rfl) ?_
  refine lv_iload_n S.1 S.2.1 d_AL_fastRemove_28 rfl (lv_at hl 0 rfl) ?_
  refine lv_iload_n S.1 S.2.1 d_AL_fastRemove_29 rfl (lv_at hl 3 rfl) ?_
  refine lv_isub S.1 S.2.1 d_AL_fastRemove_30 ?_
  refine m_copy S hw hl.1 g509 (mU_to (m_kind hr0 ha (fun z => by cases z)) hr0) (mU_to (m_kind hr0 ha (fun z => by cases z)) hr0) (hE.lst ha) (sp' := (i0 + 1)) (dp' := i0) (n' := (k - i0)) (nI_1 i0) rfl (pk_sub (by omega)) (by omega) (by omega) (by omega) (by omega) (by omega) (fun j hj y hy => List.mem_of_getElem? ((hct (i0 + 1 + j) (by omega)).symm.trans hy)) (Nat.le_of_ble_eq_true rfl) (Nat.le_of_ble_eq_true rfl) d_AL_fastRemove_31 (fun H locs hw => ?_)
  refine lv_aload_n S.1 S.2.1 d_AL_fastRemove_34 rfl (lv_at hl 2 rfl) ?_
  refine lv_aload_n S.1 S.2.1 d_AL_fastRemove_35 rfl (lv_at hl 1 rfl) ?_
  refine lv_iload_n S.1 S.2.1 d_AL_fastRemove_36 rfl (lv_at hl 0 rfl) ?_
  refine lv_dup_x1 S.1 S.2.1 d_AL_fastRemove_37 rfl rfl ?_
  refine m_put S hw cl_AL (mU_to (m_kind hr0 ha (fun z => by cases z)).symm (mU_eq _ _ _)) 2 (by decide) g85 (fun _ h => h) rfl rfl rfl (Nat.le_of_ble_eq_true rfl) d_AL_fastRemove_38 (fun H locs hw => ?_)
  have hw : mW γ (mU (mU (mU M a (.inr (0, [.int (md + 1), .ref rr, .int (nI (k + 1))]))) rr (.inl (gA γ 3, n, .inr (.inr (.inr (.inr (va_cpy f f (i0 + 1) i0 (k - i0)))))))) a (.inr (0, [.int (md + 1), .ref rr, .int (nI k)]))) s H locs := hw
  refine lv_null S.1 S.2.1 d_AL_fastRemove_41 ?_
  refine m_aastN S hw (mU_to (m_kind hr0 ha (fun z => by cases z)) (mU_eq _ _ _)) (vp_in_nI hk (by omega)) d_AL_fastRemove_42 (fun H locs hw => ?_)
  exact m_vret S hlk hr hw (by rw [nI_clamp (by omega)]) (Nat.le_refl _) (Nat.le_refl _) d_AL_fastRemove_43
set_option maxHeartbeats 4000000 in
set_option maxRecDepth 100000 in
theorem c_AL_fastRemoveL (l : Launch) (γ : mG) (M : mMap) (a : Nat) (md : Int32) (rr n k : Nat) (f : Nat → Option Nat) (ha : M a = some (.inr (0, [.int md, .ref rr, .int (nI (k + 1))]))) (hr0 : M rr = some (.inl (gA γ 3, n, .inr (.inr (.inr (.inr f)))))) (ci : Nat) (xs : List Nat) (hE : mEl M ci xs) (hct : ct f xs) (hxs : xs.length = k + 1) (hk : k < n) (hn : n ≤ 100000) (i0 : Nat) (hi : i0 = k) : Met l y_AL_fastRemove w_AL_fastRemove ({ frames := 1, cells := 0, slots := 0, locals := 48 } : Room) (mPc γ M [.ref a, .ref rr, .int (nI i0)]) (mQv γ (fun M' => M' = mU (mU (mU M a (.inr (0, [.int (md + 1), .ref rr, .int (nI (k + 1))]))) a (.inr (0, [.int (md + 1), .ref rr, .int (nI k)]))) rr (.inl (gA γ 3, n, .inr (.inr (.inr (.inr (va_up f k none)))))))) 0 0 (mA (gz γ)) := by
  refine m_enter (by decide) (Nat.le_of_ble_eq_true rfl) ?_
  intro p e s m below meth c ls S hr hlk hnm hl hw
  have hl : lv_has ls 4 [(0, .ref a), (1, .ref rr), (2, .int (nI i0))] := hl
  refine lv_aload_n S.1 S.2.1 d_AL_fastRemove_0 rfl (lv_at hl 0 rfl) ?_
  refine lv_dup S.1 S.2.1 d_AL_fastRemove_1 rfl ?_
  refine m_get S hw cl_AL ha 0 (by decide) g87 (fun x h => u_same (S.2.2.2.2 _ (gc g88)) x h) rfl d_AL_fastRemove_2 ?_
  refine lv_iconst (v := 1) S.1 S.2.1 d_AL_fastRemove_5 (by decide) ?_
  refine lv_iadd S.1 S.2.1 d_AL_fastRemove_6 ?_
  refine m_put S hw cl_AL ha 0 (by decide) g87 (fun x h => u_same (S.2.2.2.2 _ (gc g88)) x h) rfl rfl rfl (Nat.le_of_ble_eq_true rfl) d_AL_fastRemove_7 (fun H locs hw => ?_)
  have hw : mW γ (mU M a (.inr (0, [.int (md + 1), .ref rr, .int (nI (k + 1))]))) s H locs := hw
  refine lv_aload_n S.1 S.2.1 d_AL_fastRemove_10 rfl (lv_at hl 0 rfl) ?_
  refine m_get S hw cl_AL (mU_eq _ _ _) 2 (by decide) g85 (fun _ h => h) rfl d_AL_fastRemove_11 ?_
  refine lv_iconst (v := 1) S.1 S.2.1 d_AL_fastRemove_14 (by decide) ?_
  refine lv_isub S.1 S.2.1 d_AL_fastRemove_15 ?_
  refine W.eq (g2 := F0 m 16 ls [.int (nI k)]) (by rw [nI_pred]) ?_
  refine lv_dup S.1 S.2.1 d_AL_fastRemove_16 rfl ?_
  refine lv_istore_n S.1 S.2.1 d_AL_fastRemove_17 rfl hl (by decide) rfl (fun ls hl => ?_)
  have hl : lv_has ls 4 [(3, .int (nI k)), (0, .ref a), (1, .ref rr), (2, .int (nI i0))] := hl
  refine lv_iload_n S.1 S.2.1 d_AL_fastRemove_18 rfl (lv_at hl 3 rfl) ?_
  refine lv_icmp_le (tgt := 34) S.1 S.2.1 d_AL_fastRemove_19 rfl (fun _ => ?_) (fun h => absurd (show nI k ≤ nI i0 from nI_le (by omega) (by omega)) h)
  refine lv_aload_n S.1 S.2.1 d_AL_fastRemove_34 rfl (lv_at hl 2 rfl) ?_
  refine lv_aload_n S.1 S.2.1 d_AL_fastRemove_35 rfl (lv_at hl 1 rfl) ?_
  refine lv_iload_n S.1 S.2.1 d_AL_fastRemove_36 rfl (lv_at hl 0 rfl) ?_
  refine lv_dup_x1 S.1 S.2.1 d_AL_fastRemove_37 rfl rfl ?_
  refine m_put S hw cl_AL (mU_eq _ _ _) 2 (by decide) g85 (fun _ h => h) rfl rfl rfl (Nat.le_of_ble_eq_true rfl) d_AL_fastRemove_38 (fun H locs hw => ?_)
  have hw : mW γ (mU (mU M a (.inr (0, [.int (md + 1), .ref rr, .int (nI (k + 1))]))) a (.inr (0, [.int (md + 1), .ref rr, .int (nI k)]))) s H locs := hw
  refine lv_null S.1 S.2.1 d_AL_fastRemove_41 ?_
  refine m_aastN S hw (mU_to (m_kind hr0 ha (fun z => by cases z)) (mU_to (m_kind hr0 ha (fun z => by cases z)) hr0)) (vp_in_nI hk (by omega)) d_AL_fastRemove_42 (fun H locs hw => ?_)
  exact m_vret S hlk hr hw (by rw [nI_clamp (by omega)]) (Nat.le_refl _) (Nat.le_refl _) d_AL_fastRemove_43
set_option maxHeartbeats 4000000 in
set_option maxRecDepth 100000 in
theorem c_AL_removeM (l : Launch) (γ : mG) (M : mMap) (a : Nat) (md : Int32) (rr n k : Nat) (f : Nat → Option Nat) (ha : M a = some (.inr (0, [.int md, .ref rr, .int (nI (k + 1))]))) (hr0 : M rr = some (.inl (gA γ 3, n, .inr (.inr (.inr (.inr f)))))) (ci : Nat) (xs : List Nat) (hE : mEl M ci xs) (hct : ct f xs) (hxs : xs.length = k + 1) (hk : k < n) (hn : n ≤ 100000) (i0 : Nat) (hi : i0 < k) (x0 : Nat) (hx0 : f i0 = some x0) : Met l y_AL_remove w_AL_remove ({ frames := 2, cells := 0, slots := 0, locals := 71 } : Room) (mPc γ M [.ref a, .int (nI i0)]) (mQq γ (fun r M' => r = some x0 ∧ M' = mU (mU (mU (mU M a (.inr (0, [.int (md + 1), .ref rr, .int (nI (k + 1))]))) rr (.inl (gA γ 3, n, .inr (.inr (.inr (.inr (va_cpy f f (i0 + 1) i0 (k - i0)))))))) a (.inr (0, [.int (md + 1), .ref rr, .int (nI k)]))) rr (.inl (gA γ 3, n, .inr (.inr (.inr (.inr (va_up (va_cpy f f (i0 + 1) i0 (k - i0)) k none)))))))) 0 0 (mA (gz γ)) := by
  refine m_enter (by decide) (Nat.le_of_ble_eq_true rfl) ?_
  intro p e s m below meth c ls S hr hlk hnm hl hw
  have hl : lv_has ls 4 [(0, .ref a), (1, .int (nI i0))] := hl
  refine lv_iload_n S.1 S.2.1 d_AL_remove_0 rfl (lv_at hl 1 rfl) ?_
  refine lv_aload_n S.1 S.2.1 d_AL_remove_1 rfl (lv_at hl 0 rfl) ?_
  refine m_get S hw cl_AL ha 2 (by decide) g85 (fun _ h => h) rfl d_AL_remove_2 ?_
  refine m_ci hw (va_runS (As := [.int (nI i0), .int (nI (k + 1))]) (rest := []) S (c_Ob_checkIndex l γ M (nI i0) (nI (k + 1)) (nI_pos (by omega)) (nI_lt (by omega) (by omega))) (m_cwS 2 S g193 g194 g59 g195 rfl rfl ⟨by decide +kernel, by decide +kernel, by decide +kernel⟩ ⟨(Nat.le_of_ble_eq_true rfl), (Nat.le_of_ble_eq_true rfl)⟩) hw.preS rfl rfl hl.1 rfl (lv_room (Nat.le_of_ble_eq_true rfl)) d_AL_remove_5 ⟨(Nat.zero_le _), (Nat.zero_le _)⟩) (fun r1 M1 H locs hp hw => ?_)
  obtain ⟨rfl, hM1⟩ := hp
  rw [hM1] at hw
  refine lv_pop S.1 S.2.1 d_AL_remove_8 rfl ?_
  refine lv_aload_n S.1 S.2.1 d_AL_remove_9 rfl (lv_at hl 0 rfl) ?_
  refine m_get S hw cl_AL ha 1 (by decide) g84 (fun _ h => h) rfl d_AL_remove_10 ?_
  refine lv_astore_n S.1 S.2.1 d_AL_remove_13 rfl hl (by decide) rfl (fun ls hl => ?_)
  have hl : lv_has ls 4 [(2, .ref rr), (0, .ref a), (1, .int (nI i0))] := hl
  refine lv_aload_n S.1 S.2.1 d_AL_remove_14 rfl (lv_at hl 0 rfl) ?_
  refine lv_iload_n S.1 S.2.1 d_AL_remove_15 rfl (lv_at hl 2 rfl) ?_
  refine m_aald S hw hr0 (vp_in_nI (by omega) (by omega)) d_AL_remove_16 ?_
  refine W.eq (g2 := F0 m 17 ls [.ref x0]) (by rw [nI_clamp (by omega), hx0]; rfl) ?_
  refine lv_astore_n S.1 S.2.1 d_AL_remove_17 rfl hl (by decide) rfl (fun ls hl => ?_)
  have hl : lv_has ls 4 [(3, .ref x0), (2, .ref rr), (0, .ref a), (1, .int (nI i0))] := hl
  refine lv_aload_n S.1 S.2.1 d_AL_remove_18 rfl (lv_at hl 2 rfl) ?_
  refine lv_aload_n S.1 S.2.1 d_AL_remove_19 rfl (lv_at hl 1 rfl) ?_
  refine lv_iload_n S.1 S.2.1 d_AL_remove_20 rfl (lv_at hl 3 rfl) ?_
  refine m_cv hw (va_runV (As := [.ref rr, .int (nI i0)]) (rest := []) S (c_AL_fastRemoveM l γ M a md rr n k f ha hr0 ci xs hE hct hxs hk hn i0 hi) (m_cwV 2 S g575 g577 g17 g44 g578 rfl rfl ⟨by decide +kernel, by decide +kernel, by decide +kernel⟩ ⟨(Nat.le_of_ble_eq_true rfl), (Nat.le_of_ble_eq_true rfl)⟩) (hw.preV ha cl_AL.1) rfl rfl hl.1 rfl (lv_room (Nat.le_of_ble_eq_true rfl)) d_AL_remove_21 ⟨(Nat.zero_le _), (Nat.zero_le _)⟩) (fun M1 H locs hp hw => ?_)
  rw [hp] at hw
  refine lv_aload_n S.1 S.2.1 d_AL_remove_24 rfl (lv_at hl 0 rfl) ?_
  exact m_aret (r := (some x0)) S hlk hr (Or.inl ⟨_, rfl⟩) hw (⟨rfl, rfl⟩) (Nat.le_refl _) (Nat.le_refl _) d_AL_remove_25
set_option maxHeartbeats 4000000 in
set_option maxRecDepth 100000 in
theorem c_AL_removeL (l : Launch) (γ : mG) (M : mMap) (a : Nat) (md : Int32) (rr n k : Nat) (f : Nat → Option Nat) (ha : M a = some (.inr (0, [.int md, .ref rr, .int (nI (k + 1))]))) (hr0 : M rr = some (.inl (gA γ 3, n, .inr (.inr (.inr (.inr f)))))) (ci : Nat) (xs : List Nat) (hE : mEl M ci xs) (hct : ct f xs) (hxs : xs.length = k + 1) (hk : k < n) (hn : n ≤ 100000) (i0 : Nat) (hi : i0 = k) (x0 : Nat) (hx0 : f i0 = some x0) : Met l y_AL_remove w_AL_remove ({ frames := 2, cells := 0, slots := 0, locals := 71 } : Room) (mPc γ M [.ref a, .int (nI i0)]) (mQq γ (fun r M' => r = some x0 ∧ M' = mU (mU (mU M a (.inr (0, [.int (md + 1), .ref rr, .int (nI (k + 1))]))) a (.inr (0, [.int (md + 1), .ref rr, .int (nI k)]))) rr (.inl (gA γ 3, n, .inr (.inr (.inr (.inr (va_up f k none)))))))) 0 0 (mA (gz γ)) := by
  refine m_enter (by decide) (Nat.le_of_ble_eq_true rfl) ?_
  intro p e s m below meth c ls S hr hlk hnm hl hw
  have hl : lv_has ls 4 [(0, .ref a), (1, .int (nI i0))] := hl
  refine lv_iload_n S.1 S.2.1 d_AL_remove_0 rfl (lv_at hl 1 rfl) ?_
  refine lv_aload_n S.1 S.2.1 d_AL_remove_1 rfl (lv_at hl 0 rfl) ?_
  refine m_get S hw cl_AL ha 2 (by decide) g85 (fun _ h => h) rfl d_AL_remove_2 ?_
  refine m_ci hw (va_runS (As := [.int (nI i0), .int (nI (k + 1))]) (rest := []) S (c_Ob_checkIndex l γ M (nI i0) (nI (k + 1)) (nI_pos (by omega)) (nI_lt (by omega) (by omega))) (m_cwS 2 S g193 g194 g59 g195 rfl rfl ⟨by decide +kernel, by decide +kernel, by decide +kernel⟩ ⟨(Nat.le_of_ble_eq_true rfl), (Nat.le_of_ble_eq_true rfl)⟩) hw.preS rfl rfl hl.1 rfl (lv_room (Nat.le_of_ble_eq_true rfl)) d_AL_remove_5 ⟨(Nat.zero_le _), (Nat.zero_le _)⟩) (fun r1 M1 H locs hp hw => ?_)
  obtain ⟨rfl, hM1⟩ := hp
  rw [hM1] at hw
  refine lv_pop S.1 S.2.1 d_AL_remove_8 rfl ?_
  refine lv_aload_n S.1 S.2.1 d_AL_remove_9 rfl (lv_at hl 0 rfl) ?_
  refine m_get S hw cl_AL ha 1 (by decide) g84 (fun _ h => h) rfl d_AL_remove_10 ?_
  refine lv_astore_n S.1 S.2.1 d_AL_remove_13 rfl hl (by decide) rfl (fun ls hl => ?_)
  have hl : lv_has ls 4 [(2, .ref rr), (0, .ref a), (1, .int (nI i0))] := hl
  refine lv_aload_n S.1 S.2.1 d_AL_remove_14 rfl (lv_at hl 0 rfl) ?_
  refine lv_iload_n S.1 S.2.1 d_AL_remove_15 rfl (lv_at hl 2 rfl) ?_
  refine m_aald S hw hr0 (vp_in_nI (by omega) (by omega)) d_AL_remove_16 ?_
  refine W.eq (g2 := F0 m 17 ls [.ref x0]) (by rw [nI_clamp (by omega), hx0]; rfl) ?_
  refine lv_astore_n S.1 S.2.1 d_AL_remove_17 rfl hl (by decide) rfl (fun ls hl => ?_)
  have hl : lv_has ls 4 [(3, .ref x0), (2, .ref rr), (0, .ref a), (1, .int (nI i0))] := hl
  refine lv_aload_n S.1 S.2.1 d_AL_remove_18 rfl (lv_at hl 2 rfl) ?_
  refine lv_aload_n S.1 S.2.1 d_AL_remove_19 rfl (lv_at hl 1 rfl) ?_
  refine lv_iload_n S.1 S.2.1 d_AL_remove_20 rfl (lv_at hl 3 rfl) ?_
  refine m_cv hw (va_runV (As := [.ref rr, .int (nI i0)]) (rest := []) S (c_AL_fastRemoveL l γ M a md rr n k f ha hr0 ci xs hE hct hxs hk hn i0 hi) (m_cwV 2 S g575 g577 g17 g44 g578 rfl rfl ⟨by decide +kernel, by decide +kernel, by decide +kernel⟩ ⟨(Nat.le_of_ble_eq_true rfl), (Nat.le_of_ble_eq_true rfl)⟩) (hw.preV ha cl_AL.1) rfl rfl hl.1 rfl (lv_room (Nat.le_of_ble_eq_true rfl)) d_AL_remove_21 ⟨(Nat.zero_le _), (Nat.zero_le _)⟩) (fun M1 H locs hp hw => ?_)
  rw [hp] at hw
  refine lv_aload_n S.1 S.2.1 d_AL_remove_24 rfl (lv_at hl 0 rfl) ?_
  exact m_aret (r := (some x0)) S hlk hr (Or.inl ⟨_, rfl⟩) hw (⟨rfl, rfl⟩) (Nat.le_refl _) (Nat.le_refl _) d_AL_remove_25
