/-! ArrayList: adding, removing -/
set_option maxHeartbeats 4000000 in
set_option maxRecDepth 100000 in
theorem c_AL_add2R (l : Launch) (γ : mG) (M : mMap) (a : Nat) (md : Int32) (rr n k : Nat) (f : Nat → Option Nat) (ha : M a = some (.inr (0, [.int md, .ref rr, .int (nI k)]))) (hr0 : M rr = some (.inl (gA γ 3, n, .inr (.inr (.inr (.inr f)))))) (hk : k < n) (hn : n < 2 ^ 31) (v ci : Nat) (ys : List Nat) (hV : mEl M ci ys) (hv : v ∈ ys) : Met l y_AL_add2 w_AL_add2 ({ frames := 0, cells := 0, slots := 0, locals := 0 } : Room) (mPc γ M [.ref a, .ref v, .ref rr, .int (nI k)]) (mQv γ (fun M' => M' = mU (mU M rr (.inl (gA γ 3, n, .inr (.inr (.inr (.inr (va_up f k (some v)))))))) a (.inr (0, [.int md, .ref rr, .int (nI (k + 1))])))) 0 0 (mA (gz γ)) := by
  refine m_enter (by decide) (Nat.le_of_ble_eq_true rfl) ?_
  intro p e s m below meth c ls S hr hlk hnm hl hw
  have hl : lv_has ls 4 [(0, .ref a), (1, .ref v), (2, .ref rr), (3, .int (nI k))] := hl
  refine lv_iload_n S.1 S.2.1 d_AL_add2_0 rfl (lv_at hl 3 rfl) ?_
  refine lv_aload_n S.1 S.2.1 d_AL_add2_1 rfl (lv_at hl 2 rfl) ?_
  refine m_alen S hw 3 hr0 rfl rfl d_AL_add2_2 ?_
  refine lv_icmp_ne (tgt := 11) S.1 S.2.1 d_AL_add2_3 rfl (fun _ => ?_) (fun h => absurd h (show ¬ (nI k = Int32.ofNat n) from fun z => absurd ((nI_eq (a := k) (b := n) (by omega) (by omega)).mp z) (by omega)))
  refine lv_aload_n S.1 S.2.1 d_AL_add2_11 rfl (lv_at hl 2 rfl) ?_
  refine lv_iload_n S.1 S.2.1 d_AL_add2_12 rfl (lv_at hl 3 rfl) ?_
  refine lv_aload_n S.1 S.2.1 d_AL_add2_13 rfl (lv_at hl 1 rfl) ?_
  refine m_aastX S hw hr0 hV hv (vp_in_nI hk hn) d_AL_add2_14 (fun H locs hw => ?_)
  refine lv_aload_n S.1 S.2.1 d_AL_add2_15 rfl (lv_at hl 0 rfl) ?_
  refine lv_iload_n S.1 S.2.1 d_AL_add2_16 rfl (lv_at hl 3 rfl) ?_
  refine lv_iconst (v := 1) S.1 S.2.1 d_AL_add2_17 (by decide) ?_
  refine lv_iadd S.1 S.2.1 d_AL_add2_18 ?_
  refine m_put S hw cl_AL (mU_to (m_kind ha hr0 (fun z => by cases z)) ha) 2 (by decide) g85 (fun _ h => h) rfl rfl rfl (Nat.le_of_ble_eq_true rfl) d_AL_add2_19 (fun H locs hw => ?_)
  have hw : mW γ (mU (mU M rr (.inl (gA γ 3, n, .inr (.inr (.inr (.inr (va_up f (nI k : Int32).toNatClampNeg (some v)))))))) a (.inr (0, [.int md, .ref rr, .int ((nI k) + 1)]))) s H locs := hw
  exact m_vret S hlk hr hw (by rw [nI_clamp (by omega), nI_1]) (Nat.le_refl _) (Nat.le_refl _) d_AL_add2_22
set_option maxHeartbeats 4000000 in
set_option maxRecDepth 100000 in
theorem c_AL_add2E (l : Launch) (γ : mG) (M : mMap) (a : Nat) (md : Int32) (ha : M a = some (.inr (0, [.int md, .ref (ge γ), .int 0]))) (v ci : Nat) (ys : List Nat) (hV : mEl M ci ys) (hv : v ∈ ys) : Met l y_AL_add2 w_AL_add2 ({ frames := 3, cells := 1, slots := 10, locals := 61 } : Room) (mPc γ M [.ref a, .ref v, .ref (ge γ), .int 0]) (mQv γ (fun M' => ∃ q, M q = none ∧ M' = mU (mU (mU (mU M q (.inl (gA γ 3, 10, .inr (.inr (.inr (.inr (fun _ => none))))))) a (.inr (0, [.int md, .ref q, .int 0]))) q (.inl (gA γ 3, 10, .inr (.inr (.inr (.inr (va_up (fun _ => none) 0 (some v)))))))) a (.inr (0, [.int md, .ref q, .int (nI 1)])))) 1 10 (mA (gz γ)) := by
  refine m_enter (by decide) (Nat.le_of_ble_eq_true rfl) ?_
  intro p e s m below meth c ls S hr hlk hnm hl hw
  have hl : lv_has ls 4 [(0, .ref a), (1, .ref v), (2, .ref (ge γ)), (3, .int 0)] := hl
  refine lv_iload_n S.1 S.2.1 d_AL_add2_0 rfl (lv_at hl 3 rfl) ?_
  refine lv_aload_n S.1 S.2.1 d_AL_add2_1 rfl (lv_at hl 2 rfl) ?_
  refine m_elen S hw d_AL_add2_2 ?_
  refine lv_icmp_ne (tgt := 11) S.1 S.2.1 d_AL_add2_3 rfl (fun h => absurd rfl h) (fun _ => ?_)
  refine lv_aload_n S.1 S.2.1 d_AL_add2_6 rfl (lv_at hl 0 rfl) ?_
  refine m_cq hw (va_runV (As := []) (rest := []) S (c_AL_growE l γ M a md ha) (m_cwV 0 S g439 g441 g6 g44 g442 rfl rfl ⟨by decide +kernel, by decide +kernel, by decide +kernel⟩ ⟨(Nat.le_of_ble_eq_true rfl), (Nat.le_of_ble_eq_true rfl)⟩) (hw.preV ha cl_AL.1) rfl rfl hl.1 rfl (lv_room (Nat.le_of_ble_eq_true rfl)) d_AL_add2_7 ⟨(Nat.le_of_eq (Nat.zero_add _)), (Nat.le_of_eq (Nat.zero_add _))⟩) (fun r1 M1 H locs hp hw => ?_)
  obtain ⟨q, rfl, hq, hM1⟩ := hp
  rw [hM1] at hw
  refine lv_astore_n S.1 S.2.1 d_AL_add2_10 rfl hl (by decide) rfl (fun ls hl => ?_)
  have hl : lv_has ls 4 [(2, .ref q), (0, .ref a), (1, .ref v), (3, .int 0)] := hl
  refine lv_aload_n S.1 S.2.1 d_AL_add2_11 rfl (lv_at hl 0 rfl) ?_
  refine lv_iload_n S.1 S.2.1 d_AL_add2_12 rfl (lv_at hl 3 rfl) ?_
  refine lv_aload_n S.1 S.2.1 d_AL_add2_13 rfl (lv_at hl 2 rfl) ?_
  refine m_aastX S hw (mU_to (m_fne ha hq).symm (mU_eq _ _ _)) ((hV.new hq).lst (mU_to (m_fne ha hq) ha)) hv (vp_in_nI (n := 0) (by omega) (by decide)) d_AL_add2_14 (fun H locs hw => ?_)
  refine lv_aload_n S.1 S.2.1 d_AL_add2_15 rfl (lv_at hl 1 rfl) ?_
  refine lv_iload_n S.1 S.2.1 d_AL_add2_16 rfl (lv_at hl 3 rfl) ?_
  refine lv_iconst (v := 1) S.1 S.2.1 d_AL_add2_17 (by decide) ?_
  refine lv_iadd S.1 S.2.1 d_AL_add2_18 ?_
  refine m_put S hw cl_AL (mU_to (m_fne ha hq) (mU_eq _ _ _)) 2 (by decide) g85 (fun _ h => h) rfl rfl rfl (Nat.le_of_ble_eq_true rfl) d_AL_add2_19 (fun H locs hw => ?_)
  have hw : mW γ (mU (mU (mU (mU M q (.inl (gA γ 3, 10, .inr (.inr (.inr (.inr (fun _ => none))))))) a (.inr (0, [.int md, .ref q, .int 0]))) q (.inl (gA γ 3, 10, .inr (.inr (.inr (.inr (va_up (fun _ => none) (0 : Int32).toNatClampNeg (some v)))))))) a (.inr (0, [.int md, .ref q, .int (0 + 1)]))) s H locs := hw
  exact m_vret S hlk hr hw (⟨q, hq, by rw [show (0 : Int32).toNatClampNeg = 0 from rfl, show (0 : Int32) + 1 = nI 1 from rfl]⟩) (Nat.le_of_eq (Nat.zero_add _)) (Nat.le_of_eq (Nat.zero_add _)) d_AL_add2_22
set_option maxHeartbeats 4000000 in
set_option maxRecDepth 100000 in
theorem c_AL_add2F (l : Launch) (γ : mG) (M : mMap) (a : Nat) (md : Int32) (rr n : Nat) (f : Nat → Option Nat) (ha : M a = some (.inr (0, [.int md, .ref rr, .int (nI n)]))) (hr0 : M rr = some (.inl (gA γ 3, n, .inr (.inr (.inr (.inr f)))))) (ci : Nat) (xs : List Nat) (hE : mEl M ci xs) (hct : ct f xs) (hxs : xs.length = n) (h2 : 2 ≤ n) (hn : n ≤ 60000) (v : Nat) (ys : List Nat) (hV : mEl M ci ys) (hv : v ∈ ys) : Met l y_AL_add2 w_AL_add2 ({ frames := 5, cells := 1, slots := (n + n / 2), locals := 135 } : Room) (mPc γ M [.ref a, .ref v, .ref rr, .int (nI n)]) (mQv γ (fun M' => ∃ q, M q = none ∧ M' = mU (mU (mU (mU M q (.inl (gA γ 3, (n + n / 2), .inr (.inr (.inr (.inr (va_cpy f (fun _ => none) 0 0 n))))))) a (.inr (0, [.int md, .ref q, .int (nI n)]))) q (.inl (gA γ 3, (n + n / 2), .inr (.inr (.inr (.inr (va_up (va_cpy f (fun _ => none) 0 0 n) n (some v)))))))) a (.inr (0, [.int md, .ref q, .int (nI (n + 1))])))) 1 (n + n / 2) (mA (gz γ)) := by
  refine m_enter (by decide) (Nat.le_of_ble_eq_true rfl) ?_
  intro p e s m below meth c ls S hr hlk hnm hl hw
  have hl : lv_has ls 4 [(0, .ref a), (1, .ref v), (2, .ref rr), (3, .int (nI n))] := hl
  refine lv_iload_n S.1 S.2.1 d_AL_add2_0 rfl (lv_at hl 3 rfl) ?_
  refine lv_aload_n S.1 S.2.1 d_AL_add2_1 rfl (lv_at hl 2 rfl) ?_
  refine m_alen S hw 3 hr0 rfl rfl d_AL_add2_2 ?_
  refine lv_icmp_ne (tgt := 11) S.1 S.2.1 d_AL_add2_3 rfl (fun h => absurd rfl h) (fun _ => ?_)
  refine lv_aload_n S.1 S.2.1 d_AL_add2_6 rfl (lv_at hl 0 rfl) ?_
  refine m_cq hw (va_runV (As := []) (rest := []) S (c_AL_growF l γ M a md rr n f ha hr0 ci xs hE hct hxs h2 hn) (m_cwV 0 S g439 g441 g6 g44 g442 rfl rfl ⟨by decide +kernel, by decide +kernel, by decide +kernel⟩ ⟨(Nat.le_of_ble_eq_true rfl), (Nat.le_of_ble_eq_true rfl)⟩) (hw.preV ha cl_AL.1) rfl rfl hl.1 rfl (lv_room (Nat.le_of_ble_eq_true rfl)) d_AL_add2_7 ⟨(Nat.le_of_eq (Nat.zero_add _)), (Nat.le_of_eq (Nat.zero_add _))⟩) (fun r1 M1 H locs hp hw => ?_)
  obtain ⟨q, rfl, hq, hM1⟩ := hp
  rw [hM1] at hw
  refine lv_astore_n S.1 S.2.1 d_AL_add2_10 rfl hl (by decide) rfl (fun ls hl => ?_)
  have hl : lv_has ls 4 [(2, .ref q), (0, .ref a), (1, .ref v), (3, .int (nI n))] := hl
  refine lv_aload_n S.1 S.2.1 d_AL_add2_11 rfl (lv_at hl 0 rfl) ?_
  refine lv_iload_n S.1 S.2.1 d_AL_add2_12 rfl (lv_at hl 3 rfl) ?_
  refine lv_aload_n S.1 S.2.1 d_AL_add2_13 rfl (lv_at hl 2 rfl) ?_
  refine m_aastX S hw (mU_to (m_fne ha hq).symm (mU_eq _ _ _)) ((hV.new hq).lst (mU_to (m_fne ha hq) ha)) hv (vp_in_nI (by omega) (by omega)) d_AL_add2_14 (fun H locs hw => ?_)
  refine lv_aload_n S.1 S.2.1 d_AL_add2_15 rfl (lv_at hl 1 rfl) ?_
  refine lv_iload_n S.1 S.2.1 d_AL_add2_16 rfl (lv_at hl 3 rfl) ?_
  refine lv_iconst (v := 1) S.1 S.2.1 d_AL_add2_17 (by decide) ?_
  refine lv_iadd S.1 S.2.1 d_AL_add2_18 ?_
  refine m_put S hw cl_AL (mU_to (m_fne ha hq) (mU_eq _ _ _)) 2 (by decide) g85 (fun _ h => h) rfl rfl rfl (Nat.le_of_ble_eq_true rfl) d_AL_add2_19 (fun H locs hw => ?_)
  have hw : mW γ (mU (mU (mU (mU M q (.inl (gA γ 3, (n + n / 2), .inr (.inr (.inr (.inr (va_cpy f (fun _ => none) 0 0 n))))))) a (.inr (0, [.int md, .ref q, .int (nI n)]))) q (.inl (gA γ 3, (n + n / 2), .inr (.inr (.inr (.inr (va_up (va_cpy f (fun _ => none) 0 0 n) (nI n : Int32).toNatClampNeg (some v)))))))) a (.inr (0, [.int md, .ref q, .int ((nI n) + 1)]))) s H locs := hw
  exact m_vret S hlk hr hw (⟨q, hq, by rw [nI_clamp (by omega), nI_1]⟩) (Nat.le_of_eq (Nat.zero_add _)) (Nat.le_of_eq (Nat.zero_add _)) d_AL_add2_22
set_option maxHeartbeats 4000000 in
set_option maxRecDepth 100000 in
theorem c_AL_addR (l : Launch) (γ : mG) (M : mMap) (a : Nat) (md : Int32) (rr n k : Nat) (f : Nat → Option Nat) (ha : M a = some (.inr (0, [.int md, .ref rr, .int (nI k)]))) (hr0 : M rr = some (.inl (gA γ 3, n, .inr (.inr (.inr (.inr f)))))) (hk : k < n) (hn : n < 2 ^ 31) (v ci : Nat) (ys : List Nat) (hV : mEl M ci ys) (hv : v ∈ ys) : Met l y_AL_add w_AL_add ({ frames := 6, cells := 0, slots := 0, locals := 158 } : Room) (mPc γ M [.ref a, .ref v]) (mQi γ (fun r M' => r = 1 ∧ M' = mU (mU (mU M a (.inr (0, [.int (md + 1), .ref rr, .int (nI k)]))) rr (.inl (gA γ 3, n, .inr (.inr (.inr (.inr (va_up f k (some v)))))))) a (.inr (0, [.int (md + 1), .ref rr, .int (nI (k + 1))])))) 0 0 (mA (gz γ)) := by
  refine m_enter (by decide) (Nat.le_of_ble_eq_true rfl) ?_
  intro p e s m below meth c ls S hr hlk hnm hl hw
  have hl : lv_has ls 2 [(0, .ref a), (1, .ref v)] := hl
  refine lv_aload_n S.1 S.2.1 d_AL_add_0 rfl (lv_at hl 0 rfl) ?_
  refine lv_dup S.1 S.2.1 d_AL_add_1 rfl ?_
  refine m_get S hw cl_AL ha 0 (by decide) g87 (fun x h => u_same (S.2.2.2.2 _ (gc g88)) x h) rfl d_AL_add_2 ?_
  refine lv_iconst (v := 1) S.1 S.2.1 d_AL_add_5 (by decide) ?_
  refine lv_iadd S.1 S.2.1 d_AL_add_6 ?_
  refine m_put S hw cl_AL ha 0 (by decide) g87 (fun x h => u_same (S.2.2.2.2 _ (gc g88)) x h) rfl rfl rfl (Nat.le_of_ble_eq_true rfl) d_AL_add_7 (fun H locs hw => ?_)
  have hw : mW γ (mU M a (.inr (0, [.int (md + 1), .ref rr, .int (nI k)]))) s H locs := hw
  refine lv_aload_n S.1 S.2.1 d_AL_add_10 rfl (lv_at hl 0 rfl) ?_
  refine lv_aload_n S.1 S.2.1 d_AL_add_11 rfl (lv_at hl 1 rfl) ?_
  refine lv_aload_n S.1 S.2.1 d_AL_add_12 rfl (lv_at hl 0 rfl) ?_
  refine m_get S hw cl_AL (mU_eq _ _ _) 1 (by decide) g84 (fun _ h => h) rfl d_AL_add_13 ?_
  refine lv_aload_n S.1 S.2.1 d_AL_add_16 rfl (lv_at hl 0 rfl) ?_
  refine m_get S hw cl_AL (mU_eq _ _ _) 2 (by decide) g85 (fun _ h => h) rfl d_AL_add_17 ?_
  refine m_cv hw (va_runV (As := [.ref v, .ref rr, .int (nI k)]) (rest := []) S (c_AL_add2R l γ (mU M a (.inr (0, [.int (md + 1), .ref rr, .int (nI k)]))) a (md + 1) rr n k f (mU_eq _ _ _) (mU_to (m_kind hr0 ha (fun z => by cases z)) hr0) hk hn v ci ys (hV.lst ha) hv) (m_cwV 3 S g435 g437 g5 g44 g438 rfl rfl ⟨by decide +kernel, by decide +kernel, by decide +kernel⟩ ⟨(Nat.le_of_ble_eq_true rfl), (Nat.le_of_ble_eq_true rfl)⟩) (hw.preV (mU_eq _ _ _) cl_AL.1) rfl rfl hl.1 rfl (lv_room (Nat.le_of_ble_eq_true rfl)) d_AL_add_20 ⟨(Nat.zero_le _), (Nat.zero_le _)⟩) (fun M1 H locs hp hw => ?_)
  have hM1 := hp
  rw [hM1] at hw
  refine lv_iconst (v := 1) S.1 S.2.1 d_AL_add_23 (by decide) ?_
  exact m_iret S hlk hr rfl hw (⟨rfl, rfl⟩) (Nat.le_refl _) (Nat.le_refl _) d_AL_add_24
set_option maxHeartbeats 4000000 in
set_option maxRecDepth 100000 in
theorem c_AL_addE (l : Launch) (γ : mG) (M : mMap) (a : Nat) (md : Int32) (ha : M a = some (.inr (0, [.int md, .ref (ge γ), .int 0]))) (v ci : Nat) (ys : List Nat) (hV : mEl M ci ys) (hv : v ∈ ys) : Met l y_AL_add w_AL_add ({ frames := 6, cells := 1, slots := 10, locals := 158 } : Room) (mPc γ M [.ref a, .ref v]) (mQi γ (fun r M' => r = 1 ∧ ∃ q, q ≠ a ∧ M q = none ∧ M' = mU (mU (mU (mU (mU M a (.inr (0, [.int (md + 1), .ref (ge γ), .int 0]))) q (.inl (gA γ 3, 10, .inr (.inr (.inr (.inr (fun _ => none))))))) a (.inr (0, [.int (md + 1), .ref q, .int 0]))) q (.inl (gA γ 3, 10, .inr (.inr (.inr (.inr (va_up (fun _ => none) 0 (some v)))))))) a (.inr (0, [.int (md + 1), .ref q, .int (nI 1)])))) 1 10 (mA (gz γ)) := by
  refine m_enter (by decide) (Nat.le_of_ble_eq_true rfl) ?_
  intro p e s m below meth c ls S hr hlk hnm hl hw
  have hl : lv_has ls 2 [(0, .ref a), (1, .ref v)] := hl
  refine lv_aload_n S.1 S.2.1 d_AL_add_0 rfl (lv_at hl 0 rfl) ?_
  refine lv_dup S.1 S.2.1 d_AL_add_1 rfl ?_
  refine m_get S hw cl_AL ha 0 (by decide) g87 (fun x h => u_same (S.2.2.2.2 _ (gc g88)) x h) rfl d_AL_add_2 ?_
  refine lv_iconst (v := 1) S.1 S.2.1 d_AL_add_5 (by decide) ?_
  refine lv_iadd S.1 S.2.1 d_AL_add_6 ?_
  refine m_put S hw cl_AL ha 0 (by decide) g87 (fun x h => u_same (S.2.2.2.2 _ (gc g88)) x h) rfl rfl rfl (Nat.le_of_ble_eq_true rfl) d_AL_add_7 (fun H locs hw => ?_)
  have hw : mW γ (mU M a (.inr (0, [.int (md + 1), .ref (ge γ), .int 0]))) s H locs := hw
  refine lv_aload_n S.1 S.2.1 d_AL_add_10 rfl (lv_at hl 0 rfl) ?_
  refine lv_aload_n S.1 S.2.1 d_AL_add_11 rfl (lv_at hl 1 rfl) ?_
  refine lv_aload_n S.1 S.2.1 d_AL_add_12 rfl (lv_at hl 0 rfl) ?_
  refine m_get S hw cl_AL (mU_eq _ _ _) 1 (by decide) g84 (fun _ h => h) rfl d_AL_add_13 ?_
  refine lv_aload_n S.1 S.2.1 d_AL_add_16 rfl (lv_at hl 0 rfl) ?_
  refine m_get S hw cl_AL (mU_eq _ _ _) 2 (by decide) g85 (fun _ h => h) rfl d_AL_add_17 ?_
  refine m_cv hw (va_runV (As := [.ref v, .ref (ge γ), .int 0]) (rest := []) S (c_AL_add2E l γ (mU M a (.inr (0, [.int (md + 1), .ref (ge γ), .int 0]))) a (md + 1) (mU_eq _ _ _) v ci ys (hV.lst ha) hv) (m_cwV 3 S g435 g437 g5 g44 g438 rfl rfl ⟨by decide +kernel, by decide +kernel, by decide +kernel⟩ ⟨(Nat.le_of_ble_eq_true rfl), (Nat.le_of_ble_eq_true rfl)⟩) (hw.preV (mU_eq _ _ _) cl_AL.1) rfl rfl hl.1 rfl (lv_room (Nat.le_of_ble_eq_true rfl)) d_AL_add_20 ⟨(Nat.le_of_eq (Nat.zero_add _)), (Nat.le_of_eq (Nat.zero_add _))⟩) (fun M1 H locs hp hw => ?_)
  obtain ⟨q, hq, hM1⟩ := hp
  rw [hM1] at hw
  refine lv_iconst (v := 1) S.1 S.2.1 d_AL_add_23 (by decide) ?_
  exact m_iret S hlk hr rfl hw (⟨rfl, q, (mU_q0 hq).1, (mU_q0 hq).2, rfl⟩) (Nat.le_of_eq (Nat.zero_add _)) (Nat.le_of_eq (Nat.zero_add _)) d_AL_add_24
set_option maxHeartbeats 4000000 in
set_option maxRecDepth 100000 in
theorem c_AL_addF (l : Launch) (γ : mG) (M : mMap) (a : Nat) (md : Int32) (rr n : Nat) (f : Nat → Option Nat) (ha : M a = some (.inr (0, [.int md, .ref rr, .int (nI n)]))) (hr0 : M rr = some (.inl (gA γ 3, n, .inr (.inr (.inr (.inr f)))))) (ci : Nat) (xs : List Nat) (hE : mEl M ci xs) (hct : ct f xs) (hxs : xs.length = n) (h2 : 2 ≤ n) (hn : n ≤ 60000) (v : Nat) (ys : List Nat) (hV : mEl M ci ys) (hv : v ∈ ys) : Met l y_AL_add w_AL_add ({ frames := 6, cells := 1, slots := (n + n / 2), locals := 158 } : Room) (mPc γ M [.ref a, .ref v]) (mQi γ (fun r M' => r = 1 ∧ ∃ q, q ≠ a ∧ M q = none ∧ M' = mU (mU (mU (mU (mU M a (.inr (0, [.int (md + 1), .ref rr, .int (nI n)]))) q (.inl (gA γ 3, (n + n / 2), .inr (.inr (.inr (.inr (va_cpy f (fun _ => none) 0 0 n))))))) a (.inr (0, [.int (md + 1), .ref q, .int (nI n)]))) q (.inl (gA γ 3, (n + n / 2), .inr (.inr (.inr (.inr (va_up (va_cpy f (fun _ => none) 0 0 n) n (some v)))))))) a (.inr (0, [.int (md + 1), .ref q, .int (nI (n + 1))])))) 1 (n + n / 2) (mA (gz γ)) := by
  refine m_enter (by decide) (Nat.le_of_ble_eq_true rfl) ?_
  intro p e s m below meth c ls S hr hlk hnm hl hw
  have hl : lv_has ls 2 [(0, .ref a), (1, .ref v)] := hl
  refine lv_aload_n S.1 S.2.1 d_AL_add_0 rfl (lv_at hl 0 rfl) ?_
  refine lv_dup S.1 S.2.1 d_AL_add_1 rfl ?_
  refine m_get S hw cl_AL ha 0 (by decide) g87 (fun x h => u_same (S.2.2.2.2 _ (gc g88)) x h) rfl d_AL_add_2 ?_
  refine lv_iconst (v := 1) S.1 S.2.1 d_AL_add_5 (by decide) ?_
  refine lv_iadd S.1 S.2.1 d_AL_add_6 ?_
  refine m_put S hw cl_AL ha 0 (by decide) g87 (fun x h => u_same (S.2.2.2.2 _ (gc g88)) x h) rfl rfl rfl (Nat.le_of_ble_eq_true rfl) d_AL_add_7 (fun H locs hw => ?_)
  have hw : mW γ (mU M a (.inr (0, [.int (md + 1), .ref rr, .int (nI n)]))) s H locs := hw
  refine lv_aload_n S.1 S.2.1 d_AL_add_10 rfl (lv_at hl 0 rfl) ?_
  refine lv_aload_n S.1 S.2.1 d_AL_add_11 rfl (lv_at hl 1 rfl) ?_
  refine lv_aload_n S.1 S.2.1 d_AL_add_12 rfl (lv_at hl 0 rfl) ?_
  refine m_get S hw cl_AL (mU_eq _ _ _) 1 (by decide) g84 (fun _ h => h) rfl d_AL_add_13 ?_
  refine lv_aload_n S.1 S.2.1 d_AL_add_16 rfl (lv_at hl 0 rfl) ?_
  refine m_get S hw cl_AL (mU_eq _ _ _) 2 (by decide) g85 (fun _ h => h) rfl d_AL_add_17 ?_
  refine m_cv hw (va_runV (As := [.ref v, .ref rr, .int (nI n)]) (rest := []) S (c_AL_add2F l γ (mU M a (.inr (0, [.int (md + 1), .ref rr, .int (nI n)]))) a (md + 1) rr n f (mU_eq _ _ _) (mU_to (m_kind hr0 ha (fun z => by cases z)) hr0) ci xs (hE.lst ha) hct hxs h2 hn v ys (hV.lst ha) hv) (m_cwV 3 S g435 g437 g5 g44 g438 rfl rfl ⟨by decide +kernel, by decide +kernel, by decide +kernel⟩ ⟨(Nat.le_of_ble_eq_true rfl), (Nat.le_of_ble_eq_true rfl)⟩) (hw.preV (mU_eq _ _ _) cl_AL.1) rfl rfl hl.1 rfl (lv_room (Nat.le_of_ble_eq_true rfl)) d_AL_add_20 ⟨(Nat.le_of_eq (Nat.zero_add _)), (Nat.le_of_eq (Nat.zero_add _))⟩) (fun M1 H locs hp hw => ?_)
  obtain ⟨q, hq, hM1⟩ := hp
  rw [hM1] at hw
  refine lv_iconst (v := 1) S.1 S.2.1 d_AL_add_23 (by decide) ?_
  exact m_iret S hlk hr rfl hw (⟨rfl, q, (mU_q0 hq).1, (mU_q0 hq).2, rfl⟩) (Nat.le_of_eq (Nat.zero_add _)) (Nat.le_of_eq (Nat.zero_add _)) d_AL_add_24
