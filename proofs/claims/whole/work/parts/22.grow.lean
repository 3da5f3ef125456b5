/-! ArrayList: growing, adding, removing -/
set_option maxHeartbeats 4000000 in
set_option maxRecDepth 100000 in
theorem c_As_newLength (l : Launch) (γ : mG) (M : mMap) (o0 g0 p0 v0 : Int32) (hv : o0 + (if g0 < p0 then p0 else g0) = v0) (h0 : ¬ v0 ≤ 0) (h1 : ¬ 2147483639 < v0) : Met l y_As_newLength w_As_newLength ({ frames := 1, cells := 0, slots := 0, locals := 18 } : Room) (mPc γ M [.int o0, .int g0, .int p0]) (mQi γ (fun r M' => r = v0 ∧ M' = M)) 0 0 (mA (gz γ)) := by
  refine m_enter (by decide) (Nat.le_of_ble_eq_true rfl) ?_
  intro p e s m below meth c ls S hr hlk hnm hl hw
  have hl : lv_has ls 4 [(0, .int o0), (1, .int g0), (2, .int p0)] := hl
  refine lv_iload_n S.1 S.2.1 d_As_newLength_0 rfl (lv_at hl 0 rfl) ?_
  refine lv_iload_n S.1 S.2.1 d_As_newLength_1 rfl (lv_at hl 1 rfl) ?_
  refine lv_iload_n S.1 S.2.1 d_As_newLength_2 rfl (lv_at hl 2 rfl) ?_
  refine va_mmax S.1 S.2.1 (S.2.2.1.trans hl.1.symm) S.2.2.2.1 (S.2.2.2.2 _ (gc g450)) (S.2.2.2.2 _ (gc g451)) (S.2.2.2.2 _ (gc g56)) (S.2.2.2.2 _ (gc g452)) (Nat.le_of_ble_eq_true rfl) (Nat.le_of_ble_eq_true rfl) (Nat.zero_le _) (Nat.zero_le _) d_As_newLength_3 ?_
  refine lv_iadd S.1 S.2.1 d_As_newLength_6 ?_
  refine W.eq (g2 := F0 m 7 ls [.int v0]) (by rw [hv]) ?_
  refine lv_istore_n S.1 S.2.1 d_As_newLength_7 rfl hl (by decide) rfl (fun ls hl => ?_)
  have hl : lv_has ls 4 [(3, .int v0), (0, .int o0), (1, .int g0), (2, .int p0)] := hl
  refine lv_iconst (v := 0) S.1 S.2.1 d_As_newLength_8 (by decide) ?_
  refine lv_iload_n S.1 S.2.1 d_As_newLength_9 rfl (lv_at hl 0 rfl) ?_
  refine lv_icmp_ge (tgt := 21) S.1 S.2.1 d_As_newLength_10 rfl (fun h => absurd h h0) (fun _ => ?_)
  refine lv_iload_n S.1 S.2.1 d_As_newLength_13 rfl (lv_at hl 0 rfl) ?_
  refine lv_ldc S.1 S.2.1 S.2.2.2.1 (S.2.2.2.2 _ (gc g453)) d_As_newLength_14 ?_
  refine lv_icmp_gt (tgt := 21) S.1 S.2.1 d_As_newLength_16 rfl (fun h => absurd h h1) (fun _ => ?_)
  refine lv_iload_n S.1 S.2.1 d_As_newLength_19 rfl (lv_at hl 0 rfl) ?_
  exact m_iret S hlk hr rfl hw (⟨rfl, rfl⟩) (Nat.le_refl _) (Nat.le_refl _) d_As_newLength_20
set_option maxHeartbeats 4000000 in
set_option maxRecDepth 100000 in
theorem c_Ar_copyOf2 (l : Launch) (γ : mG) (M : mMap) (rr n n' : Nat) (f : Nat → Option Nat) (hr0 : M rr = some (.inl (gA γ 3, n, .inr (.inr (.inr (.inr f)))))) (ci : Nat) (xs : List Nat) (hE : mEl M ci xs) (hct : ct f xs) (hxs : xs.length = n) (hn : n ≤ n') (hn' : n' ≤ 100000) : Met l y_Ar_copyOf2 w_Ar_copyOf2 ({ frames := 1, cells := 1, slots := n', locals := 48 } : Room) (mPc γ M [.ref rr, .int (nI n'), .ref (gm γ)]) (mQq γ (fun r M' => ∃ q, r = some q ∧ M q = none ∧ M' = mU M q (.inl (gA γ 3, n', .inr (.inr (.inr (.inr (va_cpy f (fun _ => none) 0 0 n)))))))) 1 n' (mA (gz γ)) := by
  refine m_enter (by decide) (Nat.le_of_ble_eq_true rfl) ?_
  intro p e s m below meth c ls S hr hlk hnm hl hw
  have hl : lv_has ls 4 [(0, .ref rr), (1, .int (nI n')), (2, .ref (gm γ))] := hl
  refine lv_aload_n S.1 S.2.1 d_Ar_copyOf2_0 rfl (lv_at hl 2 rfl) ?_
  refine m_ldcM S hw g477 d_Ar_copyOf2_1 ?_
  refine lv_acmp_ne (rx := (some (gm γ))) (ry := (some (gm γ))) (tgt := 13) S.1 S.2.1 d_Ar_copyOf2_3 rfl (fun h => absurd rfl h) (fun _ => ?_)
  refine lv_iload_n S.1 S.2.1 d_Ar_copyOf2_6 rfl (lv_at hl 1 rfl) ?_
  refine m_newq (N' := n') S hw g479 (nI_pos (by omega)) (nI_clamp (by omega)) (by omega) (Nat.le_refl _) (Nat.le_of_eq (Nat.zero_add _)) d_Ar_copyOf2_7 (fun q H hq hz hw => ?_)
  refine lv_goto (tgt := 24) S.1 S.2.1 d_Ar_copyOf2_10 rfl ?_
  refine lv_astore_n S.1 S.2.1 d_Ar_copyOf2_24 rfl hl (by decide) rfl (fun ls hl => ?_)
  have hl : lv_has ls 4 [(3, .ref q), (0, .ref rr), (1, .int (nI n')), (2, .ref (gm γ))] := hl
  refine lv_aload_n S.1 S.2.1 d_Ar_copyOf2_25 rfl (lv_at hl 1 rfl) ?_
  refine lv_iconst (v := 0) S.1 S.2.1 d_Ar_copyOf2_26 (by decide) ?_
  refine lv_aload_n S.1 S.2.1 d_Ar_copyOf2_27 rfl (lv_at hl 0 rfl) ?_
  refine lv_iconst (v := 0) S.1 S.2.1 d_Ar_copyOf2_28 (by decide) ?_
  refine lv_aload_n S.1 S.2.1 d_Ar_copyOf2_29 rfl (lv_at hl 1 rfl) ?_
  refine m_alen S hw 3 (mU_to (m_fne hr0 hq) hr0) rfl rfl d_Ar_copyOf2_30 ?_
  refine lv_iload_n S.1 S.2.1 d_Ar_copyOf2_31 rfl (lv_at hl 2 rfl) ?_
  refine va_mmin S.1 S.2.1 (S.2.2.1.trans hl.1.symm) S.2.2.2.1 (S.2.2.2.2 _ (gc g480)) (S.2.2.2.2 _ (gc g241)) (S.2.2.2.2 _ (gc g56)) (S.2.2.2.2 _ (gc g242)) (Nat.le_of_ble_eq_true rfl) (Nat.le_of_ble_eq_true rfl) (Nat.le_refl _) (Nat.le_of_eq (Nat.zero_add _)) d_Ar_copyOf2_32 ?_
  refine m_copy S hw hl.1 g481 (mU_to (m_fne hr0 hq) hr0) (mU_eq _ _ _) (hE.new hq) (sp' := 0) (dp' := 0) (n' := n) rfl rfl (if_neg (nI_nlt (by omega) (by omega))) (by omega) (by omega) (by omega) (by omega) (by omega) (fun k hk y hy => ct_mem hct (by omega) hk (by rw [Nat.zero_add] at hy; exact hy)) (Nat.le_of_ble_eq_true rfl) (Nat.le_of_ble_eq_true rfl) d_Ar_copyOf2_35 (fun H locs hw => ?_)
  refine lv_aload_n S.1 S.2.1 d_Ar_copyOf2_38 rfl (lv_at hl 0 rfl) ?_
  exact m_aret (r := (some q)) S hlk hr (Or.inr ⟨_, rfl⟩) hw (⟨q, rfl, hq, by rw [mU_uu]⟩) (Nat.le_refl _) (Nat.le_of_eq (Nat.zero_add _)) d_Ar_copyOf2_39
set_option maxHeartbeats 4000000 in
set_option maxRecDepth 100000 in
theorem c_Ar_copyOf (l : Launch) (γ : mG) (M : mMap) (rr n n' : Nat) (f : Nat → Option Nat) (hr0 : M rr = some (.inl (gA γ 3, n, .inr (.inr (.inr (.inr f)))))) (ci : Nat) (xs : List Nat) (hE : mEl M ci xs) (hct : ct f xs) (hxs : xs.length = n) (hn : n ≤ n') (hn' : n' ≤ 100000) : Met l y_Ar_copyOf w_Ar_copyOf ({ frames := 2, cells := 1, slots := n', locals := 71 } : Room) (mPc γ M [.ref rr, .int (nI n')]) (mQq γ (fun r M' => ∃ q, r = some q ∧ M q = none ∧ M' = mU M q (.inl (gA γ 3, n', .inr (.inr (.inr (.inr (va_cpy f (fun _ => none) 0 0 n)))))))) 1 n' (mA (gz γ)) := by
  refine m_enter (by decide) (Nat.le_of_ble_eq_true rfl) ?_
  intro p e s m below meth c ls S hr hlk hnm hl hw
  have hl : lv_has ls 2 [(0, .ref rr), (1, .int (nI n'))] := hl
  refine lv_aload_n S.1 S.2.1 d_Ar_copyOf_0 rfl (lv_at hl 0 rfl) ?_
  refine lv_iload_n S.1 S.2.1 d_Ar_copyOf_1 rfl (lv_at hl 1 rfl) ?_
  refine lv_aload_n S.1 S.2.1 d_Ar_copyOf_2 rfl (lv_at hl 0 rfl) ?_
  refine m_getC S hw hl.1 hr0 g460 (Nat.le_of_ble_eq_true rfl) (Nat.le_of_ble_eq_true rfl) d_Ar_copyOf_3 ?_
  refine m_cq hw (va_runS (As := [.ref rr, .int (nI n'), .ref (gm γ)]) (rest := []) S (c_Ar_copyOf2 l γ M rr n n' f hr0 ci xs hE hct hxs hn hn') (m_cwS 3 S g474 g475 g57 g476 rfl rfl ⟨by decide +kernel, by decide +kernel, by decide +kernel⟩ ⟨(Nat.le_of_ble_eq_true rfl), (Nat.le_of_ble_eq_true rfl)⟩) hw.preS rfl rfl hl.1 rfl (lv_room (Nat.le_of_ble_eq_true rfl)) d_Ar_copyOf_6 ⟨(Nat.le_of_eq (Nat.zero_add _)), (Nat.le_of_eq (Nat.zero_add _))⟩) (fun r1 M1 H locs hp hw => ?_)
  obtain ⟨q, rfl, hq, hM1⟩ := hp
  rw [hM1] at hw
  exact m_aret (r := (some q)) S hlk hr (Or.inr ⟨_, rfl⟩) hw (⟨q, rfl, hq, rfl⟩) (Nat.le_of_eq (Nat.zero_add _)) (Nat.le_of_eq (Nat.zero_add _)) d_Ar_copyOf_9
set_option maxHeartbeats 4000000 in
set_option maxRecDepth 100000 in
theorem c_AL_grow2E (l : Launch) (γ : mG) (M : mMap) (a : Nat) (md : Int32) (ha : M a = some (.inr (0, [.int md, .ref (ge γ), .int 0]))) : Met l y_AL_grow2 w_AL_grow2 ({ frames := 1, cells := 1, slots := 10, locals := 18 } : Room) (mPc γ M [.ref a, .int 1]) (mQq γ (fun r M' => ∃ q, r = some q ∧ M q = none ∧ M' = mU (mU M q (.inl (gA γ 3, 10, .inr (.inr (.inr (.inr (fun _ => none))))))) a (.inr (0, [.int md, .ref q, .int 0])))) 1 10 (mA (gz γ)) := by
  refine m_enter (by decide) (Nat.le_of_ble_eq_true rfl) ?_
  intro p e s m below meth c ls S hr hlk hnm hl hw
  have hl : lv_has ls 4 [(0, .ref a), (1, .int 1)] := hl
  refine lv_aload_n S.1 S.2.1 d_AL_grow2_0 rfl (lv_at hl 0 rfl) ?_
  refine m_get S hw cl_AL ha 1 (by decide) g84 (fun _ h => h) rfl d_AL_grow2_1 ?_
  refine m_elen S hw d_AL_grow2_4 ?_
  refine lv_istore_n S.1 S.2.1 d_AL_grow2_5 rfl hl (by decide) rfl (fun ls hl => ?_)
  have hl : lv_has ls 4 [(2, .int 0), (0, .ref a), (1, .int 1)] := hl
  refine lv_iload_n S.1 S.2.1 d_AL_grow2_6 rfl (lv_at hl 0 rfl) ?_
  refine lv_if_gt (tgt := 20) S.1 S.2.1 d_AL_grow2_7 rfl (fun h => absurd h (by decide)) (fun _ => ?_)
  refine lv_aload_n S.1 S.2.1 d_AL_grow2_10 rfl (lv_at hl 1 rfl) ?_
  refine m_get S hw cl_AL ha 1 (by decide) g84 (fun _ h => h) rfl d_AL_grow2_11 ?_
  refine m_gets S hw g82 d_AL_grow2_14 ?_
  refine lv_acmp_eq (rx := (some (ge γ))) (ry := (some (ge γ))) (tgt := 45) S.1 S.2.1 d_AL_grow2_17 rfl (fun _ => ?_) (fun h => absurd rfl h)
  refine lv_aload_n S.1 S.2.1 d_AL_grow2_45 rfl (lv_at hl 1 rfl) ?_
  refine lv_bipush (v := 10) S.1 S.2.1 d_AL_grow2_46 (by decide) ?_
  refine lv_iload_n S.1 S.2.1 d_AL_grow2_48 rfl (lv_at hl 2 rfl) ?_
  refine va_mmax S.1 S.2.1 (S.2.2.1.trans hl.1.symm) S.2.2.2.1 (S.2.2.2.2 _ (gc g484)) (S.2.2.2.2 _ (gc g451)) (S.2.2.2.2 _ (gc g56)) (S.2.2.2.2 _ (gc g452)) (Nat.le_of_ble_eq_true rfl) (Nat.le_of_ble_eq_true rfl) (Nat.zero_le _) (Nat.zero_le _) d_AL_grow2_49 ?_
  refine m_newq (N' := 10) S hw g485 (by decide) (by decide) (by omega) (Nat.le_refl _) (Nat.le_of_eq (Nat.zero_add _)) d_AL_grow2_52 (fun q H hq hz hw => ?_)
  refine lv_dup_x1 S.1 S.2.1 d_AL_grow2_55 rfl rfl ?_
  refine m_put S hw cl_AL (mU_to (m_fne ha hq) ha) 1 (by decide) g84 (fun _ h => h) rfl rfl rfl (Nat.le_of_ble_eq_true rfl) d_AL_grow2_56 (fun H locs hw => ?_)
  have hw : mW γ (mU (mU M q (.inl (gA γ 3, 10, .inr (.inr (.inr (.inr (fun _ => none))))))) a (.inr (0, [.int md, .ref q, .int 0]))) s H locs := hw
  exact m_aret (r := (some q)) S hlk hr (Or.inr ⟨_, rfl⟩) hw (⟨q, rfl, hq, rfl⟩) (Nat.le_refl _) (Nat.le_refl _) d_AL_grow2_59
set_option maxHeartbeats 4000000 in
set_option maxRecDepth 100000 in
theorem c_AL_growE (l : Launch) (γ : mG) (M : mMap) (a : Nat) (md : Int32) (ha : M a = some (.inr (0, [.int md, .ref (ge γ), .int 0]))) : Met l y_AL_grow w_AL_grow ({ frames := 2, cells := 1, slots := 10, locals := 41 } : Room) (mPc γ M [.ref a]) (mQq γ (fun r M' => ∃ q, r = some q ∧ M q = none ∧ M' = mU (mU M q (.inl (gA γ 3, 10, .inr (.inr (.inr (.inr (fun _ => none))))))) a (.inr (0, [.int md, .ref q, .int 0])))) 1 10 (mA (gz γ)) := by
  refine m_enter (by decide) (Nat.le_of_ble_eq_true rfl) ?_
  intro p e s m below meth c ls S hr hlk hnm hl hw
  have hl : lv_has ls 1 [(0, .ref a)] := hl
  refine lv_aload_n S.1 S.2.1 d_AL_grow_0 rfl (lv_at hl 0 rfl) ?_
  refine lv_aload_n S.1 S.2.1 d_AL_grow_1 rfl (lv_at hl 0 rfl) ?_
  refine m_get S hw cl_AL ha 2 (by decide) g85 (fun _ h => h) rfl d_AL_grow_2 ?_
  refine lv_iconst (v := 1) S.1 S.2.1 d_AL_grow_5 (by decide) ?_
  refine lv_iadd S.1 S.2.1 d_AL_grow_6 ?_
  refine W.eq (g2 := F0 m 7 ls [.int 1, .ref a]) (by rfl) ?_
  refine m_cq hw (va_runV (As := [.int 1]) (rest := []) S (c_AL_grow2E l γ M a md ha) (m_cwV 1 S g443 g445 g7 g44 g446 rfl rfl ⟨by decide +kernel, by decide +kernel, by decide +kernel⟩ ⟨(Nat.le_of_ble_eq_true rfl), (Nat.le_of_ble_eq_true rfl)⟩) (hw.preV ha cl_AL.1) rfl rfl hl.1 rfl (lv_room (Nat.le_of_ble_eq_true rfl)) d_AL_grow_7 ⟨(Nat.le_of_eq (Nat.zero_add _)), (Nat.le_of_eq (Nat.zero_add _))⟩) (fun r1 M1 H locs hp hw => ?_)
  obtain ⟨q, rfl, hq, hM1⟩ := hp
  rw [hM1] at hw
  exact m_aret (r := (some q)) S hlk hr (Or.inr ⟨_, rfl⟩) hw (⟨q, rfl, hq, rfl⟩) (Nat.le_of_eq (Nat.zero_add _)) (Nat.le_of_eq (Nat.zero_add _)) d_AL_grow_10
set_option maxHeartbeats 4000000 in
set_option maxRecDepth 100000 in
theorem c_AL_grow2F (l : Launch) (γ : mG) (M : mMap) (a : Nat) (md : Int32) (rr n : Nat) (f : Nat → Option Nat) (ha : M a = some (.inr (0, [.int md, .ref rr, .int (nI n)]))) (hr0 : M rr = some (.inl (gA γ 3, n, .inr (.inr (.inr (.inr f)))))) (ci : Nat) (xs : List Nat) (hE : mEl M ci xs) (hct : ct f xs) (hxs : xs.length = n) (h2 : 2 ≤ n) (hn : n ≤ 60000) : Met l y_AL_grow2 w_AL_grow2 ({ frames := 3, cells := 1, slots := (n + n / 2), locals := 92 } : Room) (mPc γ M [.ref a, .int (nI (n + 1))]) (mQq γ (fun r M' => ∃ q, r = some q ∧ M q = none ∧ M' = mU (mU M q (.inl (gA γ 3, (n + n / 2), .inr (.inr (.inr (.inr (va_cpy f (fun _ => none) 0 0 n))))))) a (.inr (0, [.int md, .ref q, .int (nI n)])))) 1 (n + n / 2) (mA (gz γ)) := by
  refine m_enter (by decide) (Nat.le_of_ble_eq_true rfl) ?_
  intro p e s m below meth c ls S hr hlk hnm hl hw
  have hl : lv_has ls 4 [(0, .ref a), (1, .int (nI (n + 1)))] := hl
  refine lv_aload_n S.1 S.2.1 d_AL_grow2_0 rfl (lv_at hl 0 rfl) ?_
  refine m_get S hw cl_AL ha 1 (by decide) g84 (fun _ h => h) rfl d_AL_grow2_1 ?_
  refine m_alen S hw 3 hr0 rfl rfl d_AL_grow2_4 ?_
  refine lv_istore_n S.1 S.2.1 d_AL_grow2_5 rfl hl (by decide) rfl (fun ls hl => ?_)
  have hl : lv_has ls 4 [(2, .int (Int32.ofNat n)), (0, .ref a), (1, .int (nI (n + 1)))] := hl
  refine lv_iload_n S.1 S.2.1 d_AL_grow2_6 rfl (lv_at hl 0 rfl) ?_
  refine lv_if_gt (tgt := 20) S.1 S.2.1 d_AL_grow2_7 rfl (fun _ => ?_) (fun h => absurd (nI_lt (a := 0) (b := n) (by omega) (by omega)) h)
  refine lv_iload_n S.1 S.2.1 d_AL_grow2_20 rfl (lv_at hl 0 rfl) ?_
  refine lv_iload_n S.1 S.2.1 d_AL_grow2_21 rfl (lv_at hl 2 rfl) ?_
  refine lv_iload_n S.1 S.2.1 d_AL_grow2_22 rfl (lv_at hl 0 rfl) ?_
  refine lv_isub S.1 S.2.1 d_AL_grow2_23 ?_
  refine lv_iload_n S.1 S.2.1 d_AL_grow2_24 rfl (lv_at hl 0 rfl) ?_
  refine lv_iconst (v := 1) S.1 S.2.1 d_AL_grow2_25 (by decide) ?_
  refine lv_ishr S.1 S.2.1 d_AL_grow2_26 ?_
  refine m_ci hw (va_runS (As := [.int (Int32.ofNat n), .int ((nI (n + 1)) - (Int32.ofNat n)), .int ((Int32.ofNat n) >>> (1 &&& 31))]) (rest := []) S (c_As_newLength l γ M (Int32.ofNat n) (nI (n + 1) - Int32.ofNat n) (Int32.ofNat n >>> ((1 : Int32) &&& 31)) (nI (n + n / 2)) (grow_len h2 hn) (nI_nle (by omega) (by omega)) (show ¬ nI 2147483639 < nI (n + n / 2) from nI_nlt (by omega) (by decide))) (m_cwS 3 S g447 g448 g55 g449 rfl rfl ⟨by decide +kernel, by decide +kernel, by decide +kernel⟩ ⟨(Nat.le_of_ble_eq_true rfl), (Nat.le_of_ble_eq_true rfl)⟩) hw.preS rfl rfl hl.1 rfl (lv_room (Nat.le_of_ble_eq_true rfl)) d_AL_grow2_27 ⟨(Nat.zero_le _), (Nat.zero_le _)⟩) (fun r1 M1 H locs hp hw => ?_)
  obtain ⟨rfl, hM1⟩ := hp
  rw [hM1] at hw
  refine lv_istore_n S.1 S.2.1 d_AL_grow2_30 rfl hl (by decide) rfl (fun ls hl => ?_)
  have hl : lv_has ls 4 [(3, .int (nI (n + n / 2))), (2, .int (Int32.ofNat n)), (0, .ref a), (1, .int (nI (n + 1)))] := hl
  refine lv_aload_n S.1 S.2.1 d_AL_grow2_31 rfl (lv_at hl 2 rfl) ?_
  refine lv_aload_n S.1 S.2.1 d_AL_grow2_32 rfl (lv_at hl 2 rfl) ?_
  refine m_get S hw cl_AL ha 1 (by decide) g84 (fun _ h => h) rfl d_AL_grow2_33 ?_
  refine lv_iload_n S.1 S.2.1 d_AL_grow2_36 rfl (lv_at hl 0 rfl) ?_
  refine m_cq hw (va_runS (As := [.ref rr, .int (nI (n + n / 2))]) (rest := [.ref a]) S (c_Ar_copyOf l γ M rr n (n + n / 2) f hr0 ci xs hE hct hxs (by omega) (by omega)) (m_cwS 2 S g457 g458 g57 g459 rfl rfl ⟨by decide +kernel, by decide +kernel, by decide +kernel⟩ ⟨(Nat.le_of_ble_eq_true rfl), (Nat.le_of_ble_eq_true rfl)⟩) hw.preS rfl rfl hl.1 rfl (lv_room (Nat.le_of_ble_eq_true rfl)) d_AL_grow2_37 ⟨(Nat.le_of_eq (Nat.zero_add _)), (by show 0 + 0 + (n + n / 2) ≤ n + n / 2; omega)⟩) (fun r1 M1 H locs hp hw => ?_)
  obtain ⟨q, rfl, hq, hM1⟩ := hp
  rw [hM1] at hw
  refine lv_dup_x1 S.1 S.2.1 d_AL_grow2_40 rfl rfl ?_
  refine m_put S hw cl_AL (mU_to (m_fne ha hq) ha) 1 (by decide) g84 (fun _ h => h) rfl rfl rfl (Nat.le_of_ble_eq_true rfl) d_AL_grow2_41 (fun H locs hw => ?_)
  have hw : mW γ (mU (mU M q (.inl (gA γ 3, (n + n / 2), .inr (.inr (.inr (.inr (va_cpy f (fun _ => none) 0 0 n))))))) a (.inr (0, [.int md, .ref q, .int (nI n)]))) s H locs := hw
  exact m_aret (r := (some q)) S hlk hr (Or.inr ⟨_, rfl⟩) hw (⟨q, rfl, hq, rfl⟩) (Nat.le_of_eq (Nat.zero_add _)) (by show 0 + 0 + (n + n / 2) ≤ n + n / 2; omega) d_AL_grow2_44
set_option maxHeartbeats 4000000 in
set_option maxRecDepth 100000 in
theorem c_AL_growF (l : Launch) (γ : mG) (M : mMap) (a : Nat) (md : Int32) (rr n : Nat) (f : Nat → Option Nat) (ha : M a = some (.inr (0, [.int md, .ref rr, .int (nI n)]))) (hr0 : M rr = some (.inl (gA γ 3, n, .inr (.inr (.inr (.inr f)))))) (ci : Nat) (xs : List Nat) (hE : mEl M ci xs) (hct : ct f xs) (hxs : xs.length = n) (h2 : 2 ≤ n) (hn : n ≤ 60000) : Met l y_AL_grow w_AL_grow ({ frames := 4, cells := 1, slots := (n + n / 2), locals := 115 } : Room) (mPc γ M [.ref a]) (mQq γ (fun r M' => ∃ q, r = some q ∧ M q = none ∧ M' = mU (mU M q (.inl (gA γ 3, (n + n / 2), .inr (.inr (.inr (.inr (va_cpy f (fun _ => none) 0 0 n))))))) a (.inr (0, [.int md, .ref q, .int (nI n)])))) 1 (n + n / 2) (mA (gz γ)) := by
  refine m_enter (by decide) (Nat.le_of_ble_eq_true rfl) ?_
  intro p e s m below meth c ls S hr hlk hnm hl hw
  have hl : lv_has ls 1 [(0, .ref a)] := hl
  refine lv_aload_n S.1 S.2.1 d_AL_grow_0 rfl (lv_at hl 0 rfl) ?_
  refine lv_aload_n S.1 S.2.1 d_AL_grow_1 rfl (lv_at hl 0 rfl) ?_
  refine m_get S hw cl_AL ha 2 (by decide) g85 (fun _ h => h) rfl d_AL_grow_2 ?_
  refine lv_iconst (v := 1) S.1 S.2.1 d_AL_grow_5 (by decide) ?_
  refine lv_iadd S.1 S.2.1 d_AL_grow_6 ?_
  refine W.eq (g2 := F0 m 7 ls [.int (nI (n + 1)), .ref a]) (by rw [nI_1]) ?_
  refine m_cq hw (va_runV (As := [.int (nI (n + 1))]) (rest := []) S (c_AL_grow2F l γ M a md rr n f ha hr0 ci xs hE hct hxs h2 hn) (m_cwV 1 S g443 g445 g7 g44 g446 rfl rfl ⟨by decide +kernel, by decide +kernel, by decide +kernel⟩ ⟨(Nat.le_of_ble_eq_true rfl), (Nat.le_of_ble_eq_true rfl)⟩) (hw.preV ha cl_AL.1) rfl rfl hl.1 rfl (lv_room (Nat.le_of_ble_eq_true rfl)) d_AL_grow_7 ⟨(Nat.le_of_eq (Nat.zero_add _)), (Nat.le_of_eq (Nat.zero_add _))⟩) (fun r1 M1 H locs hp hw => ?_)
  obtain ⟨q, rfl, hq, hM1⟩ := hp
  rw [hM1] at hw
  exact m_aret (r := (some q)) S hlk hr (Or.inr ⟨_, rfl⟩) hw (⟨q, rfl, hq, rfl⟩) (Nat.le_of_eq (Nat.zero_add _)) (Nat.le_of_eq (Nat.zero_add _)) d_AL_grow_10
