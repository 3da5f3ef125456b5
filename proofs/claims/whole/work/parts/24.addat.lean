/-! ArrayList: add(int, E), remove(int) -/
set_option maxHeartbeats 4000000 in
set_option maxRecDepth 100000 in
theorem c_AL_rangeCheckForAdd (l : Launch) (γ : mG) (M : mMap) (a : Nat) (md z : Int32) (rr : Nat) (ha : M a = some (.inr (0, [.int md, .ref rr, .int z]))) (j : Int32) (h0 : 0 ≤ j) (h1 : ¬ z < j) : Met l y_AL_rangeCheckForAdd w_AL_rangeCheckForAdd ({ frames := 0, cells := 0, slots := 0, locals := 0 } : Room) (mPc γ M [.ref a, .int j]) (mQv γ (fun M' => M' = M)) 0 0 (mA (gz γ)) := by
  refine m_enter (by decide) (Nat.le_of_ble_eq_true rfl) ?_
  intro p e s m below meth c ls S hr hlk hnm hl hw
  have hl : lv_has ls 2 [(0, .ref a), (1, .int j)] := hl
  refine lv_iload_n S.1 S.2.1 d_AL_rangeCheckForAdd_0 rfl (lv_at hl 1 rfl) ?_
  refine lv_aload_n S.1 S.2.1 d_AL_rangeCheckForAdd_1 rfl (lv_at hl 0 rfl) ?_
  refine m_get S hw cl_AL ha 2 (by decide) g85 (fun _ h => h) rfl d_AL_rangeCheckForAdd_2 ?_
  refine lv_icmp_gt (tgt := 12) S.1 S.2.1 d_AL_rangeCheckForAdd_5 rfl (fun h => absurd h h1) (fun _ => ?_)
  refine lv_iload_n S.1 S.2.1 d_AL_rangeCheckForAdd_8 rfl (lv_at hl 1 rfl) ?_
  refine lv_if_ge (tgt := 25) S.1 S.2.1 d_AL_rangeCheckForAdd_9 rfl (fun _ => ?_) (fun h => absurd h0 h)
  exact m_vret S hlk hr hw rfl (Nat.le_refl _) (Nat.le_refl _) d_AL_rangeCheckForAdd_25
set_option maxHeartbeats 4000000 in
set_option maxRecDepth 100000 in
theorem c_AL_addAtR (l : Launch) (γ : mG) (M : mMap) (a : Nat) (md : Int32) (rr n k : Nat) (f : Nat → Option Nat) (ha : M a = some (.inr (0, [.int md, .ref rr, .int (nI k)]))) (hr0 : M rr = some (.inl (gA γ 3, n, .inr (.inr (.inr (.inr f)))))) (hk : k < n) (hn : n ≤ 100000) (v ci : Nat) (xs : List Nat) (hV : mEl M ci (v :: xs)) (hct : ct f xs) (hxs : xs.length = k) (i0 : Nat) (hi : i0 ≤ k) : Met l y_AL_add3 w_AL_add3 ({ frames := 5, cells := 0, slots := 0, locals := 135 } : Room) (mPc γ M [.ref a, .int (nI i0), .ref v]) (mQv γ (fun M' => M' = mU (mU (mU M a (.inr (0, [.int (md + 1), .ref rr, .int (nI k)]))) rr (.inl (gA γ 3, n, .inr (.inr (.inr (.inr (va_up (va_cpy f f i0 (i0 + 1) (k - i0)) i0 (some v)))))))) a (.inr (0, [.int (md + 1), .ref rr, .int (nI (k + 1))])))) 0 0 (mA (gz γ)) := by
  refine m_enter (by decide) (Nat.le_of_ble_eq_true rfl) ?_
  intro p e s m below meth c ls S hr hlk hnm hl hw
  have hl : lv_has ls 5 [(0, .ref a), (1, .int (nI i0)), (2, .ref v)] := hl
  have hE : mEl M ci xs := hV.sub (fun x h => List.mem_cons_of_mem _ h)
  have hv : v ∈ v :: xs := List.mem_cons_self
  refine lv_aload_n S.1 S.2.1 d_AL_add3_0 rfl (lv_at hl 0 rfl) ?_
  refine lv_iload_n S.1 S.2.1 d_AL_add3_1 rfl (lv_at hl 1 rfl) ?_
  refine m_cv hw (va_runV (As := [.int (nI i0)]) (rest := []) S (c_AL_rangeCheckForAdd l γ M a md _ _ ha (nI i0) (nI_pos' (by omega)) (nI_nlt hi (by omega))) (m_cwV 1 S g505 g507 g10 g44 g508 rfl rfl ⟨by decide +kernel, by decide +kernel, by decide +kernel⟩ ⟨(Nat.le_of_ble_eq_true rfl), (Nat.le_of_ble_eq_true rfl)⟩) (hw.preV ha cl_AL.1) rfl rfl hl.1 rfl (lv_room (Nat.le_of_ble_eq_true rfl)) d_AL_add3_2 ⟨(Nat.zero_le _), (Nat.zero_le _)⟩) (fun M1 H locs hp hw => ?_)
  rw [hp] at hw
  refine lv_aload_n S.1 S.2.1 d_AL_add3_5 rfl (lv_at hl 0 rfl) ?_
  refine lv_dup S.1 S.2.1 d_AL_add3_6 rfl ?_
  refine m_get S hw cl_AL ha 0 (by decide) g87 (fun x h => u_same (S.2.2.2.2 _ (gc g88)) x h) rfl d_AL_add3_7 ?_
  refine lv_iconst (v := 1) S.1 S.2.1 d_AL_add3_10 (by decide) ?_
  refine lv_iadd S.1 S.2.1 d_AL_add3_11 ?_
  refine m_put S hw cl_AL ha 0 (by decide) g87 (fun x h => u_same (S.2.2.2.2 _ (gc g88)) x h) rfl rfl rfl (Nat.le_of_ble_eq_true rfl) d_AL_add3_12 (fun H locs hw => ?_)
  have hw : mW γ (mU M a (.inr (0, [.int (md + 1), .ref rr, .int (nI k)]))) s H locs := hw
  refine lv_aload_n S.1 S.2.1 d_AL_add3_15 rfl (lv_at hl 0 rfl) ?_
  refine m_get S hw cl_AL (mU_eq _ _ _) 2 (by decide) g85 (fun _ h => h) rfl d_AL_add3_16 ?_
  refine lv_dup S.1 S.2.1 d_AL_add3_19 rfl ?_
  refine lv_istore_n S.1 S.2.1 d_AL_add3_20 rfl hl (by decide) rfl (fun ls hl => ?_)
  have hl : lv_has ls 5 [(3, .int (nI k)), (0, .ref a), (1, .int (nI i0)), (2, .ref v)] := hl
  refine lv_aload_n S.1 S.2.1 d_AL_add3_21 rfl (lv_at hl 1 rfl) ?_
  refine m_get S hw cl_AL (mU_eq _ _ _) 1 (by decide) g84 (fun _ h => h) rfl d_AL_add3_22 ?_
  refine lv_dup S.1 S.2.1 d_AL_add3_25 rfl ?_
  refine lv_astore S.1 S.2.1 d_AL_add3_26 hl (by decide) rfl (fun ls hl => ?_)
  have hl : lv_has ls 5 [(4, .ref rr), (3, .int (nI k)), (0, .ref a), (1, .int (nI i0)), (2, .ref v)] := hl
  refine m_alen S hw 3 (mU_to (m_kind hr0 ha (fun z => by cases z)) hr0) rfl rfl d_AL_add3_28 ?_
  refine lv_icmp_ne (tgt := 38) S.1 S.2.1 d_AL_add3_29 rfl (fun _ => ?_) (fun h => absurd h (show ¬ (nI k = Int32.ofNat n) from fun z => absurd ((nI_eq (a := k) (b := n) (by omega) (by omega)).mp z) (by omega)))
  refine lv_aload S.1 S.2.1 d_AL_add3_38 (lv_at hl 0 rfl) ?_
  refine lv_iload_n S.1 S.2.1 d_AL_add3_40 rfl (lv_at hl 3 rfl) ?_
  refine lv_aload S.1 S.2.1 d_AL_add3_41 (lv_at hl 0 rfl) ?_
  refine lv_iload_n S.1 S.2.1 d_AL_add3_43 rfl (lv_at hl 3 rfl) ?_
  refine lv_iconst (v := 1) S.1 S.2.1 d_AL_add3_44 (by decide) ?_
  refine lv_iadd S.1 S.2.1 d_AL_add3_45 ?_
  refine lv_iload_n S.1 S.2.1 d_AL_add3_46 rfl (lv_at hl 1 rfl) ?_
  refine lv_iload_n S.1 S.2.1 d_AL_add3_47 rfl (lv_at hl 3 rfl) ?_
  refine lv_isub S.1 S.2.1 d_AL_add3_48 ?_
  refine m_copy S hw hl.1 g509 (mU_to (m_kind hr0 ha (fun z => by cases z)) hr0) (mU_to (m_kind hr0 ha (fun z => by cases z)) hr0) (hE.lst ha) (sp' := i0) (dp' := (i0 + 1)) (n' := (k - i0)) rfl (nI_1 i0) (pk_sub hi) (by omega) (by omega) (by omega) (by omega) (by omega) (fun j hj y hy => List.mem_of_getElem? ((hct (i0 + j) (by omega)).symm.trans hy)) (Nat.le_of_ble_eq_true rfl) (Nat.le_of_ble_eq_true rfl) d_AL_add3_49 (fun H locs hw => ?_)
  refine lv_aload S.1 S.2.1 d_AL_add3_52 (lv_at hl 0 rfl) ?_
  refine lv_iload_n S.1 S.2.1 d_AL_add3_54 rfl (lv_at hl 3 rfl) ?_
  refine lv_aload_n S.1 S.2.1 d_AL_add3_55 rfl (lv_at hl 4 rfl) ?_
  refine m_aastX S hw (mU_eq _ _ _) ((hV.lst ha).arr (mU_to (m_kind hr0 ha (fun z => by cases z)) hr0)) hv (vp_in_nI (by omega) (by omega)) d_AL_add3_56 (fun H locs hw => ?_)
  refine lv_aload_n S.1 S.2.1 d_AL_add3_57 rfl (lv_at hl 2 rfl) ?_
  refine lv_iload_n S.1 S.2.1 d_AL_add3_58 rfl (lv_at hl 1 rfl) ?_
  refine lv_iconst (v := 1) S.1 S.2.1 d_AL_add3_59 (by decide) ?_
  refine lv_iadd S.1 S.2.1 d_AL_add3_60 ?_
  refine m_put S hw cl_AL (mU_to (m_kind hr0 ha (fun z => by cases z)).symm (mU_to (m_kind hr0 ha (fun z => by cases z)).symm (mU_eq _ _ _))) 2 (by decide) g85 (fun _ h => h) rfl rfl rfl (Nat.le_of_ble_eq_true rfl) d_AL_add3_61 (fun H locs hw => ?_)
  have hw : mW γ (mU (mU (mU (mU M a (.inr (0, [.int (md + 1), .ref rr, .int (nI k)]))) rr (.inl (gA γ 3, n, .inr (.inr (.inr (.inr (va_cpy f f i0 (i0 + 1) (k - i0)))))))) rr (.inl (gA γ 3, n, .inr (.inr (.inr (.inr (va_up (va_cpy f f i0 (i0 + 1) (k - i0)) (nI i0 : Int32).toNatClampNeg (some v)))))))) a (.inr (0, [.int (md + 1), .ref rr, .int ((nI k) + 1)]))) s H locs := hw
  exact m_vret S hlk hr hw (by rw [nI_clamp (by omega), nI_1, mU_uu]) (Nat.le_refl _) (Nat.le_refl _) d_AL_add3_64
set_option maxHeartbeats 4000000 in
set_option maxRecDepth 100000 in
theorem c_AL_addAtE (l : Launch) (γ : mG) (M : mMap) (a : Nat) (md : Int32) (ha : M a = some (.inr (0, [.int md, .ref (ge γ), .int (nI 0)]))) (v ci : Nat) (xs : List Nat) (hV : mEl M ci (v :: xs)) (hxs : xs.length = 0) (i0 : Nat) (hi : i0 ≤ 0) : Met l y_AL_add3 w_AL_add3 ({ frames := 5, cells := 1, slots := 10, locals := 135 } : Room) (mPc γ M [.ref a, .int (nI i0), .ref v]) (mQv γ (fun M' => ∃ q, q ≠ a ∧ M q = none ∧ M' = mU (mU (mU (mU (mU M a (.inr (0, [.int (md + 1), .ref (ge γ), .int (nI 0)]))) q (.inl (gA γ 3, 10, .inr (.inr (.inr (.inr (fun _ => none))))))) a (.inr (0, [.int (md + 1), .ref q, .int (nI 0)]))) q (.inl (gA γ 3, 10, .inr (.inr (.inr (.inr (va_up (va_cpy (fun _ => none) (fun _ => none) i0 (i0 + 1) (0 - i0)) i0 (some v)))))))) a (.inr (0, [.int (md + 1), .ref q, .int (nI (0 + 1))])))) 1 10 (mA (gz γ)) := by
  refine m_enter (by decide) (Nat.le_of_ble_eq_true rfl) ?_
  intro p e s m below meth c ls S hr hlk hnm hl hw
  have hl : lv_has ls 5 [(0, .ref a), (1, .int (nI i0)), (2, .ref v)] := hl
  have hE : mEl M ci xs := hV.sub (fun x h => List.mem_cons_of_mem _ h)
  have hv : v ∈ v :: xs := List.mem_cons_self
  refine lv_aload_n S.1 S.2.1 d_AL_add3_0 rfl (lv_at hl 0 rfl) ?_
  refine lv_iload_n S.1 S.2.1 d_AL_add3_1 rfl (lv_at hl 1 rfl) ?_
  refine m_cv hw (va_runV (As := [.int (nI i0)]) (rest := []) S (c_AL_rangeCheckForAdd l γ M a md _ _ ha (nI i0) (nI_pos' (by omega)) (nI_nlt hi (by omega))) (m_cwV 1 S g505 g507 g10 g44 g508 rfl rfl ⟨by decide +kernel, by decide +kernel, by decide +kernel⟩ ⟨(Nat.le_of_ble_eq_true rfl), (Nat.le_of_ble_eq_true rfl)⟩) (hw.preV ha cl_AL.1) rfl rfl hl.1 rfl (lv_room (Nat.le_of_ble_eq_true rfl)) d_AL_add3_2 ⟨(Nat.zero_le _), (Nat.zero_le _)⟩) (fun M1 H locs hp hw => ?_)
  rw [hp] at hw
  refine lv_aload_n S.1 S.2.1 d_AL_add3_5 rfl (lv_at hl 0 rfl) ?_
  refine lv_dup S.1 S.2.1 d_AL_add3_6 rfl ?_
  refine m_get S hw cl_AL ha 0 (by decide) g87 (fun x h => u_same (S.2.2.2.2 _ (gc g88)) x h) rfl d_AL_add3_7 ?_
  refine lv_iconst (v := 1) S.1 S.2.1 d_AL_add3_10 (by decide) ?_
  refine lv_iadd S.1 S.2.1 d_AL_add3_11 ?_
  refine m_put S hw cl_AL ha 0 (by decide) g87 (fun x h => u_same (S.2.2.2.2 _ (gc g88)) x h) rfl rfl rfl (Nat.le_of_ble_eq_true rfl) d_AL_add3_12 (fun H locs hw => ?_)
  have hw : mW γ (mU M a (.inr (0, [.int (md + 1), .ref (ge γ), .int (nI 0)]))) s H locs := hw
  refine lv_aload_n S.1 S.2.1 d_AL_add3_15 rfl (lv_at hl 0 rfl) ?_
  refine m_get S hw cl_AL (mU_eq _ _ _) 2 (by decide) g85 (fun _ h => h) rfl d_AL_add3_16 ?_
  refine lv_dup S.1 S.2.1 d_AL_add3_19 rfl ?_
  refine lv_istore_n S.1 S.2.1 d_AL_add3_20 rfl hl (by decide) rfl (fun ls hl => ?_)
  have hl : lv_has ls 5 [(3, .int (nI 0)), (0, .ref a), (1, .int (nI i0)), (2, .ref v)] := hl
  refine lv_aload_n S.1 S.2.1 d_AL_add3_21 rfl (lv_at hl 1 rfl) ?_
  refine m_get S hw cl_AL (mU_eq _ _ _) 1 (by decide) g84 (fun _ h => h) rfl d_AL_add3_22 ?_
  refine lv_dup S.1 S.2.1 d_AL_add3_25 rfl ?_
  refine lv_astore S.1 S.2.1 d_AL_add3_26 hl (by decide) rfl (fun ls hl => ?_)
  have hl : lv_has ls 5 [(4, .ref (ge γ)), (3, .int (nI 0)), (0, .ref a), (1, .int (nI i0)), (2, .ref v)] := hl
  refine m_elen S hw d_AL_add3_28 ?_
  refine lv_icmp_ne (tgt := 38) S.1 S.2.1 d_AL_add3_29 rfl (fun h => absurd rfl h) (fun _ => ?_)
  refine lv_aload_n S.1 S.2.1 d_AL_add3_32 rfl (lv_at hl 2 rfl) ?_
  refine m_cq hw (va_runV (As := []) (rest := []) S (c_AL_growE l γ (mU M a (.inr (0, [.int (md + 1), .ref (ge γ), .int (nI 0)]))) a (md + 1) (mU_eq _ _ _)) (m_cwV 0 S g439 g441 g6 g44 g442 rfl rfl ⟨by decide +kernel, by decide +kernel, by decide +kernel⟩ ⟨(Nat.le_of_ble_eq_true rfl), (Nat.le_of_ble_eq_true rfl)⟩) (hw.preV (mU_eq _ _ _) cl_AL.1) rfl rfl hl.1 rfl (lv_room (Nat.le_of_ble_eq_true rfl)) d_AL_add3_33 ⟨(by show 0 + 0 + 1 ≤ 1; omega), (by show 0 + 0 + 10 ≤ 10; omega)⟩) (fun r1 M1 H locs hp hw => ?_)
  obtain ⟨q, rfl, hq, hM1⟩ := hp
  rw [hM1] at hw
  refine lv_astore S.1 S.2.1 d_AL_add3_36 hl (by decide) rfl (fun ls hl => ?_)
  have hl : lv_has ls 5 [(4, .ref q), (3, .int (nI 0)), (0, .ref a), (1, .int (nI i0)), (2, .ref v)] := hl
  refine lv_aload S.1 S.2.1 d_AL_add3_38 (lv_at hl 0 rfl) ?_
  refine lv_iload_n S.1 S.2.1 d_AL_add3_40 rfl (lv_at hl 3 rfl) ?_
  refine lv_aload S.1 S.2.1 d_AL_add3_41 (lv_at hl 0 rfl) ?_
  refine lv_iload_n S.1 S.2.1 d_AL_add3_43 rfl (lv_at hl 3 rfl) ?_
  refine lv_iconst (v := 1) S.1 S.2.1 d_AL_add3_44 (by decide) ?_
  refine lv_iadd S.1 S.2.1 d_AL_add3_45 ?_
  refine lv_iload_n S.1 S.2.1 d_AL_add3_46 rfl (lv_at hl 1 rfl) ?_
  refine lv_iload_n S.1 S.2.1 d_AL_add3_47 rfl (lv_at hl 3 rfl) ?_
  refine lv_isub S.1 S.2.1 d_AL_add3_48 ?_
  refine m_copy S hw hl.1 g509 (mU_to (m_fne (mU_eq _ _ _) hq).symm (mU_eq _ _ _)) (mU_to (m_fne (mU_eq _ _ _) hq).symm (mU_eq _ _ _)) (((hE.lst ha).new hq).lst (mU_to (m_fne (mU_eq _ _ _) hq) (mU_eq _ _ _))) (sp' := i0) (dp' := (i0 + 1)) (n' := (0 - i0)) rfl (nI_1 i0) (pk_sub hi) (by omega) (by omega) (by omega) (by omega) (by omega) (fun j hj y hy => List.mem_of_getElem? (((show ct (fun _ => none) xs from fun j hj => absurd hj (by omega)) (i0 + j) (by omega)).symm.trans hy)) (Nat.le_of_ble_eq_true rfl) (Nat.le_of_ble_eq_true rfl) d_AL_add3_49 (fun H locs hw => ?_)
  refine lv_aload S.1 S.2.1 d_AL_add3_52 (lv_at hl 0 rfl) ?_
  refine lv_iload_n S.1 S.2.1 d_AL_add3_54 rfl (lv_at hl 3 rfl) ?_
  refine lv_aload_n S.1 S.2.1 d_AL_add3_55 rfl (lv_at hl 4 rfl) ?_
  refine m_aastX S hw (mU_eq _ _ _) ((((hV.lst ha).new hq).lst (mU_to (m_fne (mU_eq _ _ _) hq) (mU_eq _ _ _))).arr (mU_to (m_fne (mU_eq _ _ _) hq).symm (mU_eq _ _ _))) hv (vp_in_nI (by omega) (by omega)) d_AL_add3_56 (fun H locs hw => ?_)
  refine lv_aload_n S.1 S.2.1 d_AL_add3_57 rfl (lv_at hl 2 rfl) ?_
  refine lv_iload_n S.1 S.2.1 d_AL_add3_58 rfl (lv_at hl 1 rfl) ?_
  refine lv_iconst (v := 1) S.1 S.2.1 d_AL_add3_59 (by decide) ?_
  refine lv_iadd S.1 S.2.1 d_AL_add3_60 ?_
  refine m_put S hw cl_AL (mU_to (m_fne (mU_eq _ _ _) hq) (mU_to (m_fne (mU_eq _ _ _) hq) (mU_eq _ _ _))) 2 (by decide) g85 (fun _ h => h) rfl rfl rfl (Nat.le_of_ble_eq_true rfl) d_AL_add3_61 (fun H locs hw => ?_)
  have hw : mW γ (mU (mU (mU (mU (mU (mU M a (.inr (0, [.int (md + 1), .ref (ge γ), .int (nI 0)]))) q (.inl (gA γ 3, 10, .inr (.inr (.inr (.inr (fun _ => none))))))) a (.inr (0, [.int (md + 1), .ref q, .int (nI 0)]))) q (.inl (gA γ 3, 10, .inr (.inr (.inr (.inr (va_cpy (fun _ => none) (fun _ => none) i0 (i0 + 1) (0 - i0)))))))) q (.inl (gA γ 3, 10, .inr (.inr (.inr (.inr (va_up (va_cpy (fun _ => none) (fun _ => none) i0 (i0 + 1) (0 - i0)) (nI i0 : Int32).toNatClampNeg (some v)))))))) a (.inr (0, [.int (md + 1), .ref q, .int ((nI 0) + 1)]))) s H locs := hw
  exact m_vret S hlk hr hw (⟨q, (mU_q0 hq).1, (mU_q0 hq).2, by rw [nI_clamp (by omega), nI_1, mU_uu]⟩) (by show 0 + 0 + 1 ≤ 1; omega) (by show 0 + 0 + 10 ≤ 10; omega) d_AL_add3_64
set_option maxHeartbeats 4000000 in
set_option maxRecDepth 100000 in
theorem c_AL_addAtF (l : Launch) (γ : mG) (M : mMap) (a : Nat) (md : Int32) (rr n : Nat) (f : Nat → Option Nat) (ha : M a = some (.inr (0, [.int md, .ref rr, .int (nI n)]))) (hr0 : M rr = some (.inl (gA γ 3, n, .inr (.inr (.inr (.inr f)))))) (v ci : Nat) (xs : List Nat) (hV : mEl M ci (v :: xs)) (hct : ct f xs) (hxs : xs.length = n) (h2 : 2 ≤ n) (hn : n ≤ 60000) (i0 : Nat) (hi : i0 ≤ n) : Met l y_AL_add3 w_AL_add3 ({ frames := 5, cells := 1, slots := (n + n / 2), locals := 135 } : Room) (mPc γ M [.ref a, .int (nI i0), .ref v]) (mQv γ (fun M' => ∃ q, q ≠ a ∧ M q = none ∧ M' = mU (mU (mU (mU (mU M a (.inr (0, [.int (md + 1), .ref rr, .int (nI n)]))) q (.inl (gA γ 3, (n + n / 2), .inr (.inr (.inr (.inr (va_cpy f (fun _ => none) 0 0 n))))))) a (.inr (0, [.int (md + 1), .ref q, .int (nI n)]))) q (.inl (gA γ 3, (n + n / 2), .inr (.inr (.inr (.inr (va_up (va_cpy (va_cpy f (fun _ => none) 0 0 n) (va_cpy f (fun _ => none) 0 0 n) i0 (i0 + 1) (n - i0)) i0 (some v)))))))) a (.inr (0, [.int (md + 1), .ref q, .int (nI (n + 1))])))) 1 (n + n / 2) (mA (gz γ)) := by
  refine m_enter (by decide) (Nat.le_of_ble_eq_true rfl) ?_
  intro p e s m below meth c ls S hr hlk hnm hl hw
  have hl : lv_has ls 5 [(0, .ref a), (1, .int (nI i0)), (2, .ref v)] := hl
  have hE : mEl M ci xs := hV.sub (fun x h => List.mem_cons_of_mem _ h)
  have hv : v ∈ v :: xs := List.mem_cons_self
  refine lv_aload_n S.1 S.2.1 d_AL_add3_0 rfl (lv_at hl 0 rfl) ?_
  refine lv_iload_n S.1 S.2.1 d_AL_add3_1 rfl (lv_at hl 1 rfl) ?_
  refine m_cv hw (va_runV (As := [.int (nI i0)]) (rest := []) S (c_AL_rangeCheckForAdd l γ M a md _ _ ha (nI i0) (nI_pos' (by omega)) (nI_nlt hi (by omega))) (m_cwV 1 S g505 g507 g10 g44 g508 rfl rfl ⟨by decide +kernel, by decide +kernel, by decide +kernel⟩ ⟨(Nat.le_of_ble_eq_true rfl), (Nat.le_of_ble_eq_true rfl)⟩) (hw.preV ha cl_AL.1) rfl rfl hl.1 rfl (lv_room (Nat.le_of_ble_eq_true rfl)) d_AL_add3_2 ⟨(Nat.zero_le _), (Nat.zero_le _)⟩) (fun M1 H locs hp hw => ?_)
  rw [hp] at hw
  refine lv_aload_n S.1 S.2.1 d_AL_add3_5 rfl (lv_at hl 0 rfl) ?_
  refine lv_dup S.1 S.2.1 d_AL_add3_6 rfl ?_
  refine m_get S hw cl_AL ha 0 (by decide) g87 (fun x h => u_same (S.2.2.2.2 _ (gc g88)) x h) rfl d_AL_add3_7 ?_
  refine lv_iconst (v := 1) S.1 S.2.1 d_AL_add3_10 (by decide) ?_
  refine lv_iadd S.1 S.2.1 d_AL_add3_11 ?_
  refine m_put S hw cl_AL ha 0 (by decide) g87 (fun x h => u_same (S.2.2.2.2 _ (gc g88)) x h) rfl rfl rfl (Nat.le_of_ble_eq_true rfl) d_AL_add3_12 (fun H locs hw => ?_)
  have hw : mW γ (mU M a (.inr (0, [.int (md + 1), .ref rr, .int (nI n)]))) s H locs := hw
  refine lv_aload_n S.1 S.2.1 d_AL_add3_15 rfl (lv_at hl 0 rfl) ?_
  refine m_get S hw cl_AL (mU_eq _ _ _) 2 (by decide) g85 (fun _ h => h) rfl d_AL_add3_16 ?_
  refine lv_dup S.1 S.2.1 d_AL_add3_19 rfl ?_
  refine lv_istore_n S.1 S.2.1 d_AL_add3_20 rfl hl (by decide) rfl (fun ls hl => ?_)
  have hl : lv_has ls 5 [(3, .int (nI n)), (0, .ref a), (1, .int (nI i0)), (2, .ref v)] := hl
  refine lv_aload_n S.1 S.2.1 d_AL_add3_21 rfl (lv_at hl 1 rfl) ?_
  refine m_get S hw cl_AL (mU_eq _ _ _) 1 (by decide) g84 (fun _ h => h) rfl d_AL_add3_22 ?_
  refine lv_dup S.1 S.2.1 d_AL_add3_25 rfl ?_
  refine lv_astore S.1 S.2.1 d_AL_add3_26 hl (by decide) rfl (fun ls hl => ?_)
  have hl : lv_has ls 5 [(4, .ref rr), (3, .int (nI n)), (0, .ref a), (1, .int (nI i0)), (2, .ref v)] := hl
  refine m_alen S hw 3 (mU_to (m_kind hr0 ha (fun z => by cases z)) hr0) rfl rfl d_AL_add3_28 ?_
  refine lv_icmp_ne (tgt := 38) S.1 S.2.1 d_AL_add3_29 rfl (fun h => absurd rfl h) (fun _ => ?_)
  refine lv_aload_n S.1 S.2.1 d_AL_add3_32 rfl (lv_at hl 2 rfl) ?_
  refine m_cq hw (va_runV (As := []) (rest := []) S (c_AL_growF l γ (mU M a (.inr (0, [.int (md + 1), .ref rr, .int (nI n)]))) a (md + 1) rr n f (mU_eq _ _ _) (mU_to (m_kind hr0 ha (fun z => by cases z)) hr0) ci xs (hE.lst ha) hct hxs h2 hn) (m_cwV 0 S g439 g441 g6 g44 g442 rfl rfl ⟨by decide +kernel, by decide +kernel, by decide +kernel⟩ ⟨(Nat.le_of_ble_eq_true rfl), (Nat.le_of_ble_eq_true rfl)⟩) (hw.preV (mU_eq _ _ _) cl_AL.1) rfl rfl hl.1 rfl (lv_room (Nat.le_of_ble_eq_true rfl)) d_AL_add3_33 ⟨(by show 0 + 0 + 1 ≤ 1; omega), (by show 0 + 0 + (n + n / 2) ≤ (n + n / 2); omega)⟩) (fun r1 M1 H locs hp hw => ?_)
  obtain ⟨q, rfl, hq, hM1⟩ := hp
  rw [hM1] at hw
  refine lv_astore S.1 S.2.1 d_AL_add3_36 hl (by decide) rfl (fun ls hl => ?_)
  have hl : lv_has ls 5 [(4, .ref q), (3, .int (nI n)), (0, .ref a), (1, .int (nI i0)), (2, .ref v)] := hl
  refine lv_aload S.1 S.2.1 d_AL_add3_38 (lv_at hl 0 rfl) ?_
  refine lv_iload_n S.1 S.2.1 d_AL_add3_40 rfl (lv_at hl 3 rfl) ?_
  refine lv_aload S.1 S.2.1 d_AL_add3_41 (lv_at hl 0 rfl) ?_
  refine lv_iload_n S.1 S.2.1 d_AL_add3_43 rfl (lv_at hl 3 rfl) ?_
  refine lv_iconst (v := 1) S.1 S.2.1 d_AL_add3_44 (by decide) ?_
  refine lv_iadd S.1 S.2.1 d_AL_add3_45 ?_
  refine lv_iload_n S.1 S.2.1 d_AL_add3_46 rfl (lv_at hl 1 rfl) ?_
  refine lv_iload_n S.1 S.2.1 d_AL_add3_47 rfl (lv_at hl 3 rfl) ?_
  refine lv_isub S.1 S.2.1 d_AL_add3_48 ?_
  refine m_copy S hw hl.1 g509 (mU_to (m_fne (mU_eq _ _ _) hq).symm (mU_eq _ _ _)) (mU_to (m_fne (mU_eq _ _ _) hq).symm (mU_eq _ _ _)) (((hE.lst ha).new hq).lst (mU_to (m_fne (mU_eq _ _ _) hq) (mU_eq _ _ _))) (sp' := i0) (dp' := (i0 + 1)) (n' := (n - i0)) rfl (nI_1 i0) (pk_sub hi) (by omega) (by omega) (by omega) (by omega) (by omega) (fun j hj y hy => List.mem_of_getElem? (((ct_grow (g := fun _ => none) hct (Nat.le_of_eq hxs)) (i0 + j) (by omega)).symm.trans hy)) (Nat.le_of_ble_eq_true rfl) (Nat.le_of_ble_eq_true rfl) d_AL_add3_49 (fun H locs hw => ?_)
  refine lv_aload S.1 S.2.1 d_AL_add3_52 (lv_at hl 0 rfl) ?_
  refine lv_iload_n S.1 S.2.1 d_AL_add3_54 rfl (lv_at hl 3 rfl) ?_
  refine lv_aload_n S.1 S.2.1 d_AL_add3_55 rfl (lv_at hl 4 rfl) ?_
  refine m_aastX S hw (mU_eq _ _ _) ((((hV.lst ha).new hq).lst (mU_to (m_fne (mU_eq _ _ _) hq) (mU_eq _ _ _))).arr (mU_to (m_fne (mU_eq _ _ _) hq).symm (mU_eq _ _ _))) hv (vp_in_nI (by omega) (by omega)) d_AL_add3_56 (fun H locs hw => ?_)
  refine lv_aload_n S.1 S.2.1 d_AL_add3_57 rfl (lv_at hl 2 rfl) ?_
  refine lv_iload_n S.1 S.2.1 d_AL_add3_58 rfl (lv_at hl 1 rfl) ?_
  refine lv_iconst (v := 1) S.1 S.2.1 d_AL_add3_59 (by decide) ?_
  refine lv_iadd S.1 S.2.1 d_AL_add3_60 ?_
  refine m_put S hw cl_AL (mU_to (m_fne (mU_eq _ _ _) hq) (mU_to (m_fne (mU_eq _ _ _) hq) (mU_eq _ _ _))) 2 (by decide) g85 (fun _ h => h) rfl rfl rfl (Nat.le_of_ble_eq_true rfl) d_AL_add3_61 (fun H locs hw => ?_)
  have hw : mW γ (mU (mU (mU (mU (mU (mU M a (.inr (0, [.int (md + 1), .ref rr, .int (nI n)]))) q (.inl (gA γ 3, (n + n / 2), .inr (.inr (.inr (.inr (va_cpy f (fun _ => none) 0 0 n))))))) a (.inr (0, [.int (md + 1), .ref q, .int (nI n)]))) q (.inl (gA γ 3, (n + n / 2), .inr (.inr (.inr (.inr (va_cpy (va_cpy f (fun _ => none) 0 0 n) (va_cpy f (fun _ => none) 0 0 n) i0 (i0 + 1) (n - i0)))))))) q (.inl (gA γ 3, (n + n / 2), .inr (.inr (.inr (.inr (va_up (va_cpy (va_cpy f (fun _ => none) 0 0 n) (va_cpy f (fun _ => none) 0 0 n) i0 (i0 + 1) (n - i0)) (nI i0 : Int32).toNatClampNeg (some v)))))))) a (.inr (0, [.int (md + 1), .ref q, .int ((nI n) + 1)]))) s H locs := hw
  exact m_vret S hlk hr hw (⟨q, (mU_q0 hq).1, (mU_q0 hq).2, by rw [nI_clamp (by omega), nI_1, mU_uu]⟩) (by show 0 + 0 + 1 ≤ 1; omega) (by show 0 + 0 + (n + n / 2) ≤ (n + n / 2); omega) d_AL_add3_64
