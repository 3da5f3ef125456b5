/-! CallBook$Order made; CallBook.place, in order -/
set_option maxHeartbeats 4000000 in
set_option maxRecDepth 100000 in
theorem c_O_init (l : Launch) (γ : mG) (M : mMap) (a : Nat) (ha : M a = some (.inr (2, [.int 0, .int 0, .int 0, .int 0, .int 0, .int 0, .int 0, .int 0, .int 0, .int 0]))) (n0 w0 b0 k0 f0 : Int32) (hb0 : b0 = 0 ∨ b0 = 1) : Met l y_O_init w_O_init ({ frames := 1, cells := 0, slots := 0, locals := 20 } : Room) (mPc γ M [.ref a, .int n0, .int w0, .int b0, .int k0, .int f0]) (mQv γ (fun M' => M' = mU M a (.inr (2, [.int n0, .int w0, .int b0, .int k0, .int f0, .int 0, .int 0, .int 0, .int (-1), .int 0])))) 0 0 (mA (gz γ)) := by
  refine m_enter (by decide) (Nat.le_of_ble_eq_true rfl) ?_
  intro p e s m below meth c ls S hr hlk hnm hl hw
  have hl : lv_has ls 6 [(0, .ref a), (1, .int n0), (2, .int w0), (3, .int b0), (4, .int k0), (5, .int f0)] := hl
  refine lv_aload_n S.1 S.2.1 d_O_init_0 rfl (lv_at hl 0 rfl) ?_
  refine W.objInit S.1 S.2.1 S.2.2.2.1 (S.2.2.2.2 _ (gc g383)) (S.2.2.2.2 _ (gc g68)) (S.2.2.2.2 _ (gc g69)) rfl (by rw [S.2.2.1]; exact hl.1) rfl d_O_init_1 (Nat.le_of_ble_eq_true rfl) (Nat.le_of_ble_eq_true rfl) ?_
  refine W.eq (g2 := F0 m 4 ls []) rfl ?_
  refine lv_aload_n S.1 S.2.1 d_O_init_4 rfl (lv_at hl 0 rfl) ?_
  refine lv_iload_n S.1 S.2.1 d_O_init_5 rfl (lv_at hl 1 rfl) ?_
  refine m_putF S hw cl_O ha 0 (by decide) g384 (fun _ h => h) rfl hnm rfl rfl rfl (Nat.le_of_ble_eq_true rfl) d_O_init_6 (fun H locs hw => ?_)
  have hw : mW γ (mU M a (.inr (2, [.int n0, .int 0, .int 0, .int 0, .int 0, .int 0, .int 0, .int 0, .int 0, .int 0]))) s H locs := hw
  refine lv_aload_n S.1 S.2.1 d_O_init_9 rfl (lv_at hl 0 rfl) ?_
  refine lv_iload_n S.1 S.2.1 d_O_init_10 rfl (lv_at hl 2 rfl) ?_
  refine m_putF S hw cl_O (mU_eq _ _ _) 1 (by decide) g386 (fun _ h => h) rfl hnm rfl rfl rfl (Nat.le_of_ble_eq_true rfl) d_O_init_11 (fun H locs hw => ?_)
  have hw : mW γ (mU (mU M a (.inr (2, [.int n0, .int 0, .int 0, .int 0, .int 0, .int 0, .int 0, .int 0, .int 0, .int 0]))) a (.inr (2, [.int n0, .int w0, .int 0, .int 0, .int 0, .int 0, .int 0, .int 0, .int 0, .int 0]))) s H locs := hw
  refine lv_aload_n S.1 S.2.1 d_O_init_14 rfl (lv_at hl 0 rfl) ?_
  refine lv_iload_n S.1 S.2.1 d_O_init_15 rfl (lv_at hl 3 rfl) ?_
  refine m_putF S hw cl_O (mU_eq _ _ _) 2 (by decide) g388 (fun _ h => h) rfl hnm rfl (nar_b hb0) (show fits .boolean (.int b0) = true by rcases hb0 with e | e <;> subst e <;> rfl) (Nat.le_of_ble_eq_true rfl) d_O_init_16 (fun H locs hw => ?_)
  have hw : mW γ (mU (mU (mU M a (.inr (2, [.int n0, .int 0, .int 0, .int 0, .int 0, .int 0, .int 0, .int 0, .int 0, .int 0]))) a (.inr (2, [.int n0, .int w0, .int 0, .int 0, .int 0, .int 0, .int 0, .int 0, .int 0, .int 0]))) a (.inr (2, [.int n0, .int w0, .int b0, .int 0, .int 0, .int 0, .int 0, .int 0, .int 0, .int 0]))) s H locs := hw
  refine lv_aload_n S.1 S.2.1 d_O_init_19 rfl (lv_at hl 0 rfl) ?_
  refine lv_iload S.1 S.2.1 d_O_init_20 (lv_at hl 4 rfl) ?_
  refine m_putF S hw cl_O (mU_eq _ _ _) 3 (by decide) g390 (fun _ h => h) rfl hnm rfl rfl rfl (Nat.le_of_ble_eq_true rfl) d_O_init_22 (fun H locs hw => ?_)
  have hw : mW γ (mU (mU (mU (mU M a (.inr (2, [.int n0, .int 0, .int 0, .int 0, .int 0, .int 0, .int 0, .int 0, .int 0, .int 0]))) a (.inr (2, [.int n0, .int w0, .int 0, .int 0, .int 0, .int 0, .int 0, .int 0, .int 0, .int 0]))) a (.inr (2, [.int n0, .int w0, .int b0, .int 0, .int 0, .int 0, .int 0, .int 0, .int 0, .int 0]))) a (.inr (2, [.int n0, .int w0, .int b0, .int k0, .int 0, .int 0, .int 0, .int 0, .int 0, .int 0]))) s H locs := hw
  refine lv_aload_n S.1 S.2.1 d_O_init_25 rfl (lv_at hl 0 rfl) ?_
  refine lv_iload S.1 S.2.1 d_O_init_26 (lv_at hl 5 rfl) ?_
  refine m_putF S hw cl_O (mU_eq _ _ _) 4 (by decide) g392 (fun _ h => h) rfl hnm rfl rfl rfl (Nat.le_of_ble_eq_true rfl) d_O_init_28 (fun H locs hw => ?_)
  have hw : mW γ (mU (mU (mU (mU (mU M a (.inr (2, [.int n0, .int 0, .int 0, .int 0, .int 0, .int 0, .int 0, .int 0, .int 0, .int 0]))) a (.inr (2, [.int n0, .int w0, .int 0, .int 0, .int 0, .int 0, .int 0, .int 0, .int 0, .int 0]))) a (.inr (2, [.int n0, .int w0, .int b0, .int 0, .int 0, .int 0, .int 0, .int 0, .int 0, .int 0]))) a (.inr (2, [.int n0, .int w0, .int b0, .int k0, .int 0, .int 0, .int 0, .int 0, .int 0, .int 0]))) a (.inr (2, [.int n0, .int w0, .int b0, .int k0, .int f0, .int 0, .int 0, .int 0, .int 0, .int 0]))) s H locs := hw
  refine lv_aload_n S.1 S.2.1 d_O_init_31 rfl (lv_at hl 0 rfl) ?_
  refine lv_iconst (v := (-1)) S.1 S.2.1 d_O_init_32 (by decide) ?_
  refine m_put S hw cl_O (mU_eq _ _ _) 8 (by decide) g401 (fun _ h => h) rfl rfl rfl (Nat.le_of_ble_eq_true rfl) d_O_init_33 (fun H locs hw => ?_)
  have hw : mW γ (mU (mU (mU (mU (mU (mU M a (.inr (2, [.int n0, .int 0, .int 0, .int 0, .int 0, .int 0, .int 0, .int 0, .int 0, .int 0]))) a (.inr (2, [.int n0, .int w0, .int 0, .int 0, .int 0, .int 0, .int 0, .int 0, .int 0, .int 0]))) a (.inr (2, [.int n0, .int w0, .int b0, .int 0, .int 0, .int 0, .int 0, .int 0, .int 0, .int 0]))) a (.inr (2, [.int n0, .int w0, .int b0, .int k0, .int 0, .int 0, .int 0, .int 0, .int 0, .int 0]))) a (.inr (2, [.int n0, .int w0, .int b0, .int k0, .int f0, .int 0, .int 0, .int 0, .int 0, .int 0]))) a (.inr (2, [.int n0, .int w0, .int b0, .int k0, .int f0, .int 0, .int 0, .int 0, .int (-1), .int 0]))) s H locs := hw
  exact m_vret S hlk hr hw (by rw [mU_uu, mU_uu, mU_uu, mU_uu, mU_uu]) (Nat.le_refl _) (Nat.le_refl _) d_O_init_36
set_option maxHeartbeats 4000000 in
set_option maxRecDepth 100000 in
theorem c_B_place (l : Launch) (γ : mG) (M : mMap) (β : BK) (oa cp : Nat → Nat) (L : Nat → List Nat) (σ : St) (hC : CB γ M β oa cp L σ) (hI : Inv0 σ) (hL : LN σ L) (w0 b0 p0 q0 k0 f0 : Int32) (hb0 : b0 = 0 ∨ b0 = 1) (hv1 : rg 0 9 w0 = true) (hv2 : rg 0 2000 p0 = true) (hv3 : rg 1 100000 q0 = true) (hv4 : rg 0 100000 k0 = true) (hv5 : fpk q0 k0 = true) (hv6 : rg 0 2 f0 = true) (hv7 : k0 = 0 ∨ f0 = 0) (hn2 : sn σ < 250) (hph : ¬ sph σ = 2) (hte : f0 = 0 ∨ sph σ = 1) (hcp : cp 3 = cAt (stn σ)) (hcpl : ∀ j, j ≠ 3 → cp j ≤ 373) (σ' : St) (hσ : xCome (cgw (xNew σ w0 b0 p0 q0 k0 f0) (L (sj (opp b0))) (sn σ)) (xNew σ w0 b0 p0 q0 k0 f0) (sn σ) = σ') (hT : stn σ' ≤ 30000) (hrk : (srk σ).toInt ≤ 500000000) : Met l y_B_place w_B_place ({ frames := 12, cells := kC (stn σ') - kC (stn σ) + 3, slots := kS (stn σ') - kS (stn σ) + 756, locals := 296 } : Room) (mPc γ M [.ref (bx β), .int w0, .int b0, .int p0, .int q0, .int k0, .int f0]) (mQi γ (fun r M' => r = nI (sn σ) ∧ ∃ oa' L' cp', CB γ M' β oa' cp' L' σ' ∧ Inv0 σ' ∧ LN σ' L' ∧ cp' 3 = cAt (stn σ') ∧ (∀ j, j ≠ 3 → cp' j ≤ 373) ∧ frC M M' ∧ sn σ' = sn σ + 1 ∧ (srk σ').toInt ≤ (srk σ).toInt + 100001)) (kC (stn σ') - kC (stn σ) + 3) (kS (stn σ') - kS (stn σ) + 756) (mA (gz γ)) := by
  refine m_enter (by decide) (Nat.le_of_ble_eq_true rfl) ?_
  intro p e s m below meth c ls S hr hlk hnm hl hw
  have hl : lv_has ls 9 [(0, .ref (bx β)), (1, .int w0), (2, .int b0), (3, .int p0), (4, .int q0), (5, .int k0), (6, .int f0)] := hl
  have hn := hI.1
  obtain ⟨r0, hA0⟩ := hC.alls
  obtain ⟨⟨md0, hl0⟩, -⟩ := id hA0
  have hml : ((List.range (sn σ)).map oa).length = sn σ := rg_len
  have hp0 := rg_i hv2
  have hq0 := rg_i hv3
  have hk0 := rg_i hv4
  rw [show (0 : Int32).toInt = 0 by decide, show (2000 : Int32).toInt = 2000 by decide] at hp0
  rw [show (1 : Int32).toInt = 1 by decide, show (100000 : Int32).toInt = 100000 by decide] at hq0
  rw [show (0 : Int32).toInt = 0 by decide, show (100000 : Int32).toInt = 100000 by decide] at hk0
  have tail : ∀ (H : Heap) (locs : List Loc) (ls : Array Slot), lv_has ls 9 [(7, .int 0), (6, .int f0), (5, .int k0), (4, .int q0), (3, .int p0), (2, .int b0), (1, .int w0), (0, .ref (bx β))] → mW γ M s H locs → W p l e ({ frames := 12, cells := kC (stn σ') - kC (stn σ) + 3, slots := kS (stn σ') - kS (stn σ) + 756, locals := 296 } : Room) s m #[.ref (bx β), .int w0, .int b0, .int p0, .int q0, .int k0, .int f0] below meth c H locs 0 0 (MQ below (mQi γ (fun r M' => r = nI (sn σ) ∧ ∃ oa' L' cp', CB γ M' β oa' cp' L' σ' ∧ Inv0 σ' ∧ LN σ' L' ∧ cp' 3 = cAt (stn σ') ∧ (∀ j, j ≠ 3 → cp' j ≤ 373) ∧ frC M M' ∧ sn σ' = sn σ + 1 ∧ (srk σ').toInt ≤ (srk σ).toInt + 100001)) #[.ref (bx β), .int w0, .int b0, .int p0, .int q0, .int k0, .int f0] s (kC (stn σ') - kC (stn σ) + 3) (kS (stn σ') - kS (stn σ) + 756) (mA (gz γ))) (F0 m 102 ls []) := by
    intro H locs ls hl hw
    refine lv_aload_n S.1 S.2.1 d_B_place_102 rfl (lv_at hl 7 rfl) ?_
    refine m_get S hw cl_B hC.book 0 (by decide) g145 (fun _ h => h) rfl d_B_place_103 ?_
    refine m_ci hw (va_runV (As := []) (rest := []) S (c_AL_size l γ M (bal β 0) md0 _ _ hl0) (m_cwV 0 S g185 g186 g187 g44 g188 rfl rfl ⟨by decide +kernel, by decide +kernel, by decide +kernel⟩ ⟨(Nat.le_of_ble_eq_true rfl), (Nat.le_of_ble_eq_true rfl)⟩) (hw.preV hl0 cl_AL.1) rfl rfl hl.1 rfl (lv_room (Nat.le_of_ble_eq_true rfl)) d_B_place_106 ⟨(Nat.zero_le _), (Nat.zero_le _)⟩) (fun r1 M1 H locs hp hw => ?_)
    obtain ⟨rfl, hM1⟩ := hp
    rw [hM1] at hw
    refine lv_sipush (v := 250) S.1 S.2.1 d_B_place_109 (by decide) ?_
    refine lv_icmp_ge (tgt := 128) S.1 S.2.1 d_B_place_112 rfl (fun h => absurd h (show ¬ nI 250 ≤ nI ((List.range (sn σ)).map oa).length from nI_ge (by omega) (by decide))) (fun _ => ?_)
    refine lv_aload_n S.1 S.2.1 d_B_place_115 rfl (lv_at hl 7 rfl) ?_
    refine m_get S hw cl_B hC.book 5 (by decide) g150 (fun _ h => h) rfl d_B_place_116 ?_
    refine lv_iconst (v := 2) S.1 S.2.1 d_B_place_119 (by decide) ?_
    refine lv_icmp_eq (tgt := 128) S.1 S.2.1 d_B_place_120 rfl (fun h => absurd h hph) (fun _ => ?_)
    refine lv_iload S.1 S.2.1 d_B_place_123 (lv_at hl 0 rfl) ?_
    refine lv_if_eq (tgt := 136) S.1 S.2.1 d_B_place_125 rfl (fun _ => ?_) (fun h => absurd (show (0 : Int32) = 0 from rfl) h)
    have hg := hw.noe
    refine m_new (fs := [.int 0, .int 0, .int 0, .int 0, .int 0, .int 0, .int 0, .int 0, .int 0, .int 0]) S hw cl_O g203 g379 g54 (fun j hj => by rcases (show j = 0 ∨ j = 1 ∨ j = 2 ∨ j = 3 ∨ j = 4 ∨ j = 5 ∨ j = 6 ∨ j = 7 ∨ j = 8 ∨ j = 9 by omega) with rfl | rfl | rfl | rfl | rfl | rfl | rfl | rfl | rfl | rfl <;> rfl) (by show 0 + 0 + 1 ≤ kC (stn σ') - kC (stn σ) + 3; omega) (by show 0 + 0 + 10 ≤ kS (stn σ') - kS (stn σ) + 756; omega) d_B_place_136 (fun q H hq hzq hw => ?_)
    refine lv_dup S.1 S.2.1 d_B_place_139 rfl ?_
    refine lv_aload_n S.1 S.2.1 d_B_place_140 rfl (lv_at hl 7 rfl) ?_
    refine m_get S hw cl_B (mU_to (m_fne hC.book hq) hC.book) 0 (by decide) g145 (fun _ h => h) rfl d_B_place_141 ?_
    refine m_ci hw (va_runV (As := []) (rest := [.ref q, .ref q]) S (c_AL_size l γ (mU M q (.inr (2, [.int 0, .int 0, .int 0, .int 0, .int 0, .int 0, .int 0, .int 0, .int 0, .int 0]))) (bal β 0) md0 _ _ (mU_to (m_fne hl0 hq) hl0)) (m_cwV 0 S g185 g186 g187 g44 g188 rfl rfl ⟨by decide +kernel, by decide +kernel, by decide +kernel⟩ ⟨(Nat.le_of_ble_eq_true rfl), (Nat.le_of_ble_eq_true rfl)⟩) (hw.preV (mU_to (m_fne hl0 hq) hl0) cl_AL.1) rfl rfl hl.1 rfl (lv_room (Nat.le_of_ble_eq_true rfl)) d_B_place_144 ⟨(by show 0 + 0 + 1 + 0 ≤ kC (stn σ') - kC (stn σ) + 3; omega), (by show 0 + 0 + 10 + 0 ≤ kS (stn σ') - kS (stn σ) + 756; omega)⟩) (fun r1 M1 H locs hp hw => ?_)
    obtain ⟨rfl, hM1⟩ := hp
    rw [hM1] at hw
    refine W.eq (g2 := F0 m 147 ls [.int (nI (sn σ)), .ref q, .ref q]) (congrArg (fun z => F0 m 147 ls [.int z, .ref q, .ref q]) (congrArg nI hml)) ?_
    refine lv_iload_n S.1 S.2.1 d_B_place_147 rfl (lv_at hl 6 rfl) ?_
    refine lv_iload_n S.1 S.2.1 d_B_place_148 rfl (lv_at hl 5 rfl) ?_
    refine lv_iload S.1 S.2.1 d_B_place_149 (lv_at hl 2 rfl) ?_
    refine lv_iload S.1 S.2.1 d_B_place_151 (lv_at hl 1 rfl) ?_
    refine m_cv hw (va_runI (As := [.int (nI (sn σ)), .int w0, .int b0, .int k0, .int f0]) (rest := [.ref q]) S (c_O_init l γ (mU M q (.inr (2, [.int 0, .int 0, .int 0, .int 0, .int 0, .int 0, .int 0, .int 0, .int 0, .int 0]))) q (mU_eq _ _ _) (nI (sn σ)) w0 b0 k0 f0 hb0) (m_cwI 5 S g380 g381 g54 g382 rfl rfl rfl ⟨by decide +kernel, by decide +kernel, by decide +kernel⟩ ⟨(Nat.le_of_ble_eq_true rfl), (Nat.le_of_ble_eq_true rfl)⟩) hw.preS rfl rfl hl.1 rfl (lv_room (Nat.le_of_ble_eq_true rfl)) d_B_place_153 ⟨(by show 0 + 0 + 1 + 0 + 0 ≤ kC (stn σ') - kC (stn σ) + 3; omega), (by show 0 + 0 + 10 + 0 + 0 ≤ kS (stn σ') - kS (stn σ) + 756; omega)⟩) (fun M1 H locs hp hw => ?_)
    rw [hp] at hw
    rw [mU_uu] at hw
    refine lv_astore S.1 S.2.1 d_B_place_156 hl (by decide) rfl (fun ls hl => ?_)
    have hl : lv_has ls 9 [(8, .ref q), (7, .int 0), (6, .int f0), (5, .int k0), (4, .int q0), (3, .int p0), (2, .int b0), (1, .int w0), (0, .ref (bx β))] := hl
    refine lv_aload S.1 S.2.1 d_B_place_158 (lv_at hl 0 rfl) ?_
    refine lv_iload_n S.1 S.2.1 d_B_place_160 rfl (lv_at hl 5 rfl) ?_
    refine lv_iload S.1 S.2.1 d_B_place_161 (lv_at hl 4 rfl) ?_
    refine m_cv hw (va_runV (As := [.int p0, .int q0]) (rest := []) S (c_O_ask l γ (mU M q (.inr (2, [.int (nI (sn σ)), .int w0, .int b0, .int k0, .int f0, .int 0, .int 0, .int 0, .int (-1), .int 0]))) q _ _ _ _ _ _ _ _ _ _ (mU_eq _ _ _) p0 q0) (m_cwV 2 S g427 g428 g429 g54 g430 rfl rfl ⟨by decide +kernel, by decide +kernel, by decide +kernel⟩ ⟨(Nat.le_of_ble_eq_true rfl), (Nat.le_of_ble_eq_true rfl)⟩) (hw.preV (mU_eq _ _ _) cl_O.1) rfl rfl hl.1 rfl (lv_room (Nat.le_of_ble_eq_true rfl)) d_B_place_163 ⟨(by show 0 + 0 + 1 + 0 + 0 + 0 ≤ kC (stn σ') - kC (stn σ) + 3; omega), (by show 0 + 0 + 10 + 0 + 0 + 0 ≤ kS (stn σ') - kS (stn σ) + 756; omega)⟩) (fun M1 H locs hp hw => ?_)
    rw [hp] at hw
    rw [mU_uu] at hw
    have hw : mW γ (mU M q (.inr (2, oc (nCol (sI σ) (sn σ) w0 b0 p0 q0 k0 f0) (sn σ)))) s H locs := by rw [oc_new]; exact hw
    refine lv_aload_n S.1 S.2.1 d_B_place_166 rfl (lv_at hl 8 rfl) ?_
    refine m_get S hw cl_B (mU_to (m_fne hC.book hq) hC.book) 0 (by decide) g145 (fun _ h => h) rfl d_B_place_167 ?_
    refine lv_aload S.1 S.2.1 d_B_place_170 (lv_at hl 0 rfl) ?_
    have hA1 : AL γ (mU M q (.inr (2, oc (nCol (sI σ) (sn σ) w0 b0 p0 q0 k0 f0) (sn σ)))) (bal β 0) r0 (cp 0) ((List.range (sn σ)).map oa) := hA0.keep (mU_ne (m_fne hl0 hq)) (fun hc => by obtain ⟨f, hf⟩ := hA0.arr hc; exact mU_ne (m_fne hf hq))
    have hE0 : mEl M 2 ((List.range (sn σ)).map oa) := hC.ord.el (fun y hy => List.mem_range.mp hy)
    have hE1 : mEl (mU M q (.inr (2, oc (nCol (sI σ) (sn σ) w0 b0 p0 q0 k0 f0) (sn σ)))) 2 (q :: ((List.range (sn σ)).map oa)) := ⟨Or.inl rfl, fun x hx => (List.mem_cons.mp hx).elim (fun e => by subst e; exact ⟨_, mU_eq _ _ _⟩) (fun e => (hE0.new hq).2 x e)⟩
    refine m_ci hw (va_runV (As := [.ref q]) (rest := []) S (cc_add l γ (mU M q (.inr (2, oc (nCol (sI σ) (sn σ) w0 b0 p0 q0 k0 f0) (sn σ)))) (bal β 0) r0 (cp 0) ((List.range (sn σ)).map oa) hA1 q 2 hE1 (by omega)) (m_cwV 1 S g431 g432 g433 g44 g434 rfl rfl ⟨by decide +kernel, by decide +kernel, by decide +kernel⟩ ⟨(Nat.le_of_ble_eq_true rfl), (Nat.le_of_ble_eq_true rfl)⟩) (hw.preV (mU_to (m_fne hl0 hq) hl0) cl_AL.1) rfl rfl hl.1 rfl (lv_room (Nat.le_of_ble_eq_true rfl)) d_B_place_172 ⟨(by show 0 + 0 + 1 + 0 + 0 + 0 + gN (cp 0) ((List.range (sn σ)).map oa).length ≤ kC (stn σ') - kC (stn σ) + 3; have := gN_1 (cp 0) ((List.range (sn σ)).map oa).length; omega), (by show 0 + 0 + 10 + 0 + 0 + 0 + sN (cp 0) ((List.range (sn σ)).map oa).length ≤ kS (stn σ') - kS (stn σ) + 756; have : sN (cp 0) ((List.range (sn σ)).map oa).length ≤ 373 := sN_b (by omega); omega)⟩) (fun r1 M1 H locs hp hw => ?_)
    obtain ⟨rfl, r9, hA2, hF2⟩ := hp
    rw [hml] at hA2
    have hLm : ∀ j, j = 1 ∨ j = 2 → ∀ y, y ∈ L j → y < sn σ := fun j hj y hy => hj.elim (fun e => ((hL.1.1 y).mp (e ▸ hy)).1) (fun e => ((hL.2.1 y).mp (e ▸ hy)).1)
    obtain ⟨r8, hA8, hadd⟩ := hC.add hg hLm
    have hr8 : r0 = r8 := by obtain ⟨⟨md8, h8⟩, -⟩ := hA8; rw [hl0] at h8; exact congrArg (fun z => match z with | some (.inr (_, [_, .ref v, _])) => v | _ => 0) h8
    subst hr8
    obtain ⟨hC5, hf5⟩ := hadd q r9 M1 (nCol (sI σ) (sn σ) w0 b0 p0 q0 k0 f0) hq (hw.gz q hzq) (fun f x hx => if_neg (by omega)) hA2 hF2
    have hC5 : CB γ M1 β (va_up oa (sn σ) q) (va_up cp 0 (cN (cp 0) (sn σ))) L (xNew σ w0 b0 p0 q0 k0 f0) := hC5
    have hI5 : Inv0 (xNew σ w0 b0 p0 q0 k0 f0) := hI.new hn2 hb0 hp0 hk0
    have hL5 : LN (xNew σ w0 b0 p0 q0 k0 f0) L := hL.new
    have h15 : sI (xNew σ w0 b0 p0 q0 k0 f0) 1 (sn σ) = b0 := new_n
    have h35 : sI (xNew σ w0 b0 p0 q0 k0 f0) 3 (sn σ) = q0 := new_n
    have h85 : sI (xNew σ w0 b0 p0 q0 k0 f0) 8 (sn σ) = k0 := new_n
    have h55 : sI (xNew σ w0 b0 p0 q0 k0 f0) 5 (sn σ) = -1 := new_n
    have hX5 : xCome (cgw (xNew σ w0 b0 p0 q0 k0 f0) (L (sj (opp (sI (xNew σ w0 b0 p0 q0 k0 f0) 1 (sn σ))))) (sn σ)) (xNew σ w0 b0 p0 q0 k0 f0) (sn σ) = σ' := by rw [h15]; exact hσ
    have hcp5 : (va_up cp 0 (cN (cp 0) (sn σ))) 3 = cAt (stn σ) := hcp
    have hcl5 : ∀ j, j ≠ 3 → (va_up cp 0 (cN (cp 0) (sn σ))) j ≤ 373 := fun j hj => by unfold va_up; split; exact cN_b (by omega) (hcpl 0 (by decide)); exact hcpl j hj
    refine lv_pop S.1 S.2.1 d_B_place_175 rfl ?_
    refine lv_aload_n S.1 S.2.1 d_B_place_176 rfl (lv_at hl 8 rfl) ?_
    refine lv_aload S.1 S.2.1 d_B_place_177 (lv_at hl 0 rfl) ?_
    refine W.eq (g2 := F0 m 179 ls [.ref ((va_up oa (sn σ) q) (sn σ)), .ref (bx β)]) (congrArg (fun z => F0 m 179 ls [.ref z, .ref (bx β)]) (show q = (va_up oa (sn σ) q) (sn σ) from (if_pos rfl).symm)) ?_
    refine m_cv hw (va_runV (As := [.ref ((va_up oa (sn σ) q) (sn σ))]) (rest := []) S (c_B_come l γ M1 β (va_up oa (sn σ) q) (va_up cp 0 (cN (cp 0) (sn σ))) L (xNew σ w0 b0 p0 q0 k0 f0) σ' hC5 hI5 hL5 (sn σ) (Nat.lt_succ_self _) h55 (by rw [h35]; omega) (by rw [h35]; omega) (by rw [h35, h85]; exact fpk_i hv5 hk0.1 hk0.2) hcp5 hcl5 hX5 hT hrk) (m_cwV 1 S g486 g488 g8 g41 g489 rfl rfl ⟨by decide +kernel, by decide +kernel, by decide +kernel⟩ ⟨(Nat.le_of_ble_eq_true rfl), (Nat.le_of_ble_eq_true rfl)⟩) (hw.preV hC5.book cl_B.1) rfl rfl hl.1 rfl (lv_room (Nat.le_of_ble_eq_true rfl)) d_B_place_179 ⟨(by show 0 + 0 + 1 + 0 + 0 + 0 + gN (cp 0) ((List.range (sn σ)).map oa).length + (kC (stn σ') - kC (stn σ) + 1) ≤ kC (stn σ') - kC (stn σ) + 3; have := gN_1 (cp 0) ((List.range (sn σ)).map oa).length; omega), (by show 0 + 0 + 10 + 0 + 0 + 0 + sN (cp 0) ((List.range (sn σ)).map oa).length + (kS (stn σ') - kS (stn σ) + 373) ≤ kS (stn σ') - kS (stn σ) + 756; have : sN (cp 0) ((List.range (sn σ)).map oa).length ≤ 373 := sN_b (by omega); omega)⟩) (fun M6 H locs hp hw => ?_)
    obtain ⟨L6, cp6, hC6, hI6, hL6, hc6, hcl6, hf6, hsn6, hrk6⟩ := hp
    have hq6 : M6 q = some (.inr (2, oc (sI σ') (sn σ))) := by have h9 := hC6.ord (sn σ) (by rw [hsn6]; exact Nat.lt_succ_self _); rw [show (va_up oa (sn σ) q) (sn σ) = q from if_pos rfl] at h9; exact h9
    refine lv_aload S.1 S.2.1 d_B_place_182 (lv_at hl 0 rfl) ?_
    refine m_get S hw cl_O hq6 0 (by decide) g385 (fun _ h => h) rfl d_B_place_184 ?_
    exact m_iret S hlk hr rfl hw ⟨rfl, _, L6, cp6, hC6, hI6, hL6, hc6, hcl6, hf5.tr hf6, hsn6, hrk6⟩ (by show 0 + 0 + 1 + 0 + 0 + 0 + gN (cp 0) ((List.range (sn σ)).map oa).length + (kC (stn σ') - kC (stn σ) + 1) ≤ kC (stn σ') - kC (stn σ) + 3; have := gN_1 (cp 0) ((List.range (sn σ)).map oa).length; omega) (by show 0 + 0 + 10 + 0 + 0 + 0 + sN (cp 0) ((List.range (sn σ)).map oa).length + (kS (stn σ') - kS (stn σ) + 373) ≤ kS (stn σ') - kS (stn σ) + 756; have : sN (cp 0) ((List.range (sn σ)).map oa).length ≤ 373 := sN_b (by omega); omega) d_B_place_187
  refine lv_iload_n S.1 S.2.1 d_B_place_0 rfl (lv_at hl 1 rfl) ?_
  refine m_ci hw (va_runS (As := [.int w0]) (rest := []) S (c_B_isOwner l γ M w0) (m_cwS 1 S g283 g284 g41 g285 rfl rfl ⟨by decide +kernel, by decide +kernel, by decide +kernel⟩ ⟨(Nat.le_of_ble_eq_true rfl), (Nat.le_of_ble_eq_true rfl)⟩) hw.preS rfl rfl hl.1 rfl (lv_room (Nat.le_of_ble_eq_true rfl)) d_B_place_1 ⟨(Nat.zero_le _), (Nat.zero_le _)⟩) (fun r1 M1 H locs hp hw => ?_)
  obtain ⟨rfl, hM1⟩ := hp
  rw [hM1] at hw
  refine lv_if_eq (tgt := 22) S.1 S.2.1 d_B_place_4 rfl (fun h => absurd h (b2i_n0.mpr hv1)) (fun _ => ?_)
  refine lv_iload_n S.1 S.2.1 d_B_place_7 rfl (lv_at hl 3 rfl) ?_
  refine m_ci hw (va_runS (As := [.int p0]) (rest := []) S (c_B_isPriceOrMarket l γ M p0) (m_cwS 1 S g286 g287 g41 g288 rfl rfl ⟨by decide +kernel, by decide +kernel, by decide +kernel⟩ ⟨(Nat.le_of_ble_eq_true rfl), (Nat.le_of_ble_eq_true rfl)⟩) hw.preS rfl rfl hl.1 rfl (lv_room (Nat.le_of_ble_eq_true rfl)) d_B_place_8 ⟨(Nat.zero_le _), (Nat.zero_le _)⟩) (fun r1 M1 H locs hp hw => ?_)
  obtain ⟨rfl, hM1⟩ := hp
  rw [hM1] at hw
  refine lv_if_eq (tgt := 22) S.1 S.2.1 d_B_place_11 rfl (fun h => absurd h (b2i_n0.mpr hv2)) (fun _ => ?_)
  refine lv_iload S.1 S.2.1 d_B_place_14 (lv_at hl 4 rfl) ?_
  refine m_ci hw (va_runS (As := [.int q0]) (rest := []) S (c_B_isQuantity l γ M q0) (m_cwS 1 S g289 g290 g41 g291 rfl rfl ⟨by decide +kernel, by decide +kernel, by decide +kernel⟩ ⟨(Nat.le_of_ble_eq_true rfl), (Nat.le_of_ble_eq_true rfl)⟩) hw.preS rfl rfl hl.1 rfl (lv_room (Nat.le_of_ble_eq_true rfl)) d_B_place_16 ⟨(Nat.zero_le _), (Nat.zero_le _)⟩) (fun r1 M1 H locs hp hw => ?_)
  obtain ⟨rfl, hM1⟩ := hp
  rw [hM1] at hw
  refine lv_if_ne (tgt := 30) S.1 S.2.1 d_B_place_19 rfl (fun _ => ?_) (fun h => absurd h (b2i_n0.mpr hv3))
  refine lv_iload S.1 S.2.1 d_B_place_30 (lv_at hl 5 rfl) ?_
  refine m_ci hw (va_runS (As := [.int k0]) (rest := []) S (c_B_isPeak l γ M k0) (m_cwS 1 S g355 g356 g41 g357 rfl rfl ⟨by decide +kernel, by decide +kernel, by decide +kernel⟩ ⟨(Nat.le_of_ble_eq_true rfl), (Nat.le_of_ble_eq_true rfl)⟩) hw.preS rfl rfl hl.1 rfl (lv_room (Nat.le_of_ble_eq_true rfl)) d_B_place_32 ⟨(Nat.zero_le _), (Nat.zero_le _)⟩) (fun r1 M1 H locs hp hw => ?_)
  obtain ⟨rfl, hM1⟩ := hp
  rw [hM1] at hw
  refine lv_if_eq (tgt := 56) S.1 S.2.1 d_B_place_35 rfl (fun h => absurd h (b2i_n0.mpr hv4)) (fun _ => ?_)
  refine lv_iload S.1 S.2.1 d_B_place_38 (lv_at hl 4 rfl) ?_
  refine lv_iload S.1 S.2.1 d_B_place_40 (lv_at hl 5 rfl) ?_
  refine m_ci hw (va_runS (As := [.int q0, .int k0]) (rest := []) S (c_B_fitsPeak l γ M q0 k0) (m_cwS 2 S g358 g359 g41 g360 rfl rfl ⟨by decide +kernel, by decide +kernel, by decide +kernel⟩ ⟨(Nat.le_of_ble_eq_true rfl), (Nat.le_of_ble_eq_true rfl)⟩) hw.preS rfl rfl hl.1 rfl (lv_room (Nat.le_of_ble_eq_true rfl)) d_B_place_42 ⟨(Nat.zero_le _), (Nat.zero_le _)⟩) (fun r1 M1 H locs hp hw => ?_)
  obtain ⟨rfl, hM1⟩ := hp
  rw [hM1] at hw
  refine lv_if_eq (tgt := 56) S.1 S.2.1 d_B_place_45 rfl (fun h => absurd h (b2i_n0.mpr hv5)) (fun _ => ?_)
  refine lv_iload S.1 S.2.1 d_B_place_48 (lv_at hl 6 rfl) ?_
  refine m_ci hw (va_runS (As := [.int f0]) (rest := []) S (c_B_isLife l γ M f0) (m_cwS 1 S g361 g362 g41 g363 rfl rfl ⟨by decide +kernel, by decide +kernel, by decide +kernel⟩ ⟨(Nat.le_of_ble_eq_true rfl), (Nat.le_of_ble_eq_true rfl)⟩) hw.preS rfl rfl hl.1 rfl (lv_room (Nat.le_of_ble_eq_true rfl)) d_B_place_50 ⟨(Nat.zero_le _), (Nat.zero_le _)⟩) (fun r1 M1 H locs hp hw => ?_)
  obtain ⟨rfl, hM1⟩ := hp
  rw [hM1] at hw
  refine lv_if_ne (tgt := 64) S.1 S.2.1 d_B_place_53 rfl (fun _ => ?_) (fun h => absurd h (b2i_n0.mpr hv6))
  refine lv_iload S.1 S.2.1 d_B_place_64 (lv_at hl 5 rfl) ?_
  refine lv_if_eq (tgt := 82) S.1 S.2.1 d_B_place_66 rfl (fun h66 => ?_) (fun h66 => ?_)
  · refine lv_iload S.1 S.2.1 d_B_place_82 (lv_at hl 6 rfl) ?_
    refine lv_if_eq (tgt := 99) S.1 S.2.1 d_B_place_84 rfl (fun h84 => ?_) (fun h84 => ?_)
    · refine lv_iconst (v := 0) S.1 S.2.1 d_B_place_99 (by decide) ?_
      refine lv_istore S.1 S.2.1 d_B_place_100 hl (by decide) rfl (fun ls hl => ?_)
      have hl : lv_has ls 9 [(7, .int 0), (0, .ref (bx β)), (1, .int w0), (2, .int b0), (3, .int p0), (4, .int q0), (5, .int k0), (6, .int f0)] := hl
      have hl := lv_sub hl [0, 7, 6, 5, 4, 3, 2, 1] rfl
      exact tail _ _ ls hl hw
    · refine lv_aload_n S.1 S.2.1 d_B_place_87 rfl (lv_at hl 0 rfl) ?_
      refine m_get S hw cl_B hC.book 5 (by decide) g150 (fun _ h => h) rfl d_B_place_88 ?_
      refine lv_iconst (v := 1) S.1 S.2.1 d_B_place_91 (by decide) ?_
      refine lv_icmp_eq (tgt := 99) S.1 S.2.1 d_B_place_92 rfl (fun _ => ?_) (fun h => absurd (hte.resolve_left h84) h)
      refine lv_iconst (v := 0) S.1 S.2.1 d_B_place_99 (by decide) ?_
      refine lv_istore S.1 S.2.1 d_B_place_100 hl (by decide) rfl (fun ls hl => ?_)
      have hl : lv_has ls 9 [(7, .int 0), (0, .ref (bx β)), (1, .int w0), (2, .int b0), (3, .int p0), (4, .int q0), (5, .int k0), (6, .int f0)] := hl
      have hl := lv_sub hl [0, 7, 6, 5, 4, 3, 2, 1] rfl
      exact tail _ _ ls hl hw
  · refine lv_iload S.1 S.2.1 d_B_place_69 (lv_at hl 6 rfl) ?_
    refine lv_if_eq (tgt := 82) S.1 S.2.1 d_B_place_71 rfl (fun _ => ?_) (fun h => absurd (hv7.resolve_left h66) h)
    refine lv_iload S.1 S.2.1 d_B_place_82 (lv_at hl 6 rfl) ?_
    refine lv_if_eq (tgt := 99) S.1 S.2.1 d_B_place_84 rfl (fun h84 => ?_) (fun h84 => ?_)
    · refine lv_iconst (v := 0) S.1 S.2.1 d_B_place_99 (by decide) ?_
      refine lv_istore S.1 S.2.1 d_B_place_100 hl (by decide) rfl (fun ls hl => ?_)
      have hl : lv_has ls 9 [(7, .int 0), (0, .ref (bx β)), (1, .int w0), (2, .int b0), (3, .int p0), (4, .int q0), (5, .int k0), (6, .int f0)] := hl
      have hl := lv_sub hl [0, 7, 6, 5, 4, 3, 2, 1] rfl
      exact tail _ _ ls hl hw
    · refine lv_aload_n S.1 S.2.1 d_B_place_87 rfl (lv_at hl 0 rfl) ?_
      refine m_get S hw cl_B hC.book 5 (by decide) g150 (fun _ h => h) rfl d_B_place_88 ?_
      refine lv_iconst (v := 1) S.1 S.2.1 d_B_place_91 (by decide) ?_
      refine lv_icmp_eq (tgt := 99) S.1 S.2.1 d_B_place_92 rfl (fun _ => ?_) (fun h => absurd (hte.resolve_left h84) h)
      refine lv_iconst (v := 0) S.1 S.2.1 d_B_place_99 (by decide) ?_
      refine lv_istore S.1 S.2.1 d_B_place_100 hl (by decide) rfl (fun ls hl => ?_)
      have hl : lv_has ls 9 [(7, .int 0), (0, .ref (bx β)), (1, .int w0), (2, .int b0), (3, .int p0), (4, .int q0), (5, .int k0), (6, .int f0)] := hl
      have hl := lv_sub hl [0, 7, 6, 5, 4, 3, 2, 1] rfl
      exact tail _ _ ls hl hw
