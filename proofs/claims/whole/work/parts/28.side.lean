/-! CallBook$Side -/
set_option maxHeartbeats 4000000 in
set_option maxRecDepth 100000 in
theorem c_S_init (l : Launch) (γ : mG) (M : mMap) (a : Nat) (ha : M a = some (.inr (3, [.null]))) : Met l y_S_init w_S_init ({ frames := 4, cells := 1, slots := 3, locals := 80 } : Room) (mPc γ M [.ref a]) (mQv γ (fun M' => ∃ q, M q = none ∧ gz γ ≤ q ∧ M' = mU (mU M q (.inr (0, [.int 0, .ref (ge γ), .int 0]))) a (.inr (3, [.ref q])))) 1 3 (mA (gz γ)) := by
  refine m_enter (by decide) (Nat.le_of_ble_eq_true rfl) ?_
  intro p e s m below meth c ls S hr hlk hnm hl hw
  have hl : lv_has ls 1 [(0, .ref a)] := hl
  refine lv_aload_n S.1 S.2.1 d_S_init_0 rfl (lv_at hl 0 rfl) ?_
  refine W.objInit S.1 S.2.1 S.2.2.2.1 (S.2.2.2.2 _ (gc g101)) (S.2.2.2.2 _ (gc g68)) (S.2.2.2.2 _ (gc g69)) rfl (by rw [S.2.2.1]; exact hl.1) rfl d_S_init_1 (Nat.le_of_ble_eq_true rfl) (Nat.le_of_ble_eq_true rfl) ?_
  refine W.eq (g2 := F0 m 4 ls []) rfl ?_
  refine lv_aload_n S.1 S.2.1 d_S_init_4 rfl (lv_at hl 0 rfl) ?_
  refine m_new (fs := [.int 0, .null, .int 0]) S hw cl_AL g102 g71 g44 (fun j hj => by rcases (show j = 0 ∨ j = 1 ∨ j = 2 by omega) with rfl | rfl | rfl <;> rfl) (Nat.le_of_ble_eq_true rfl) (Nat.le_of_ble_eq_true rfl) d_S_init_5 (fun q H hq hzq hw => ?_)
  refine lv_dup S.1 S.2.1 d_S_init_8 rfl ?_
  refine m_cv hw (va_runI (As := []) (rest := [.ref q, .ref a]) S (c_AL_init l γ (mU M q (.inr (0, [.int 0, .null, .int 0]))) q 0 0 .null (mU_eq _ _ _)) (m_cwI 0 S g103 g73 g44 g74 rfl rfl rfl ⟨by decide +kernel, by decide +kernel, by decide +kernel⟩ ⟨(Nat.le_of_ble_eq_true rfl), (Nat.le_of_ble_eq_true rfl)⟩) hw.preS rfl rfl hl.1 rfl (lv_room (Nat.le_of_ble_eq_true rfl)) d_S_init_9 ⟨(Nat.le_of_ble_eq_true rfl), (Nat.le_of_ble_eq_true rfl)⟩) (fun M1 H locs hp hw => ?_)
  rw [hp] at hw
  rw [mU_uu] at hw
  refine m_putF S hw cl_S (mU_to (m_fne ha hq) ha) 0 (by decide) g104 (fun _ h => h) rfl hnm rfl rfl rfl (Nat.le_of_ble_eq_true rfl) d_S_init_12 (fun H locs hw => ?_)
  have hw : mW γ (mU (mU M q (.inr (0, [.int 0, .ref (ge γ), .int 0]))) a (.inr (3, [.ref q]))) s H locs := hw
  exact m_vret S hlk hr hw (⟨q, hq, hzq, rfl⟩) (Nat.le_refl _) (Nat.le_refl _) d_S_init_15
set_option maxHeartbeats 4000000 in
set_option maxRecDepth 100000 in
theorem c_S_first (l : Launch) (γ : mG) (M : mMap) (sd l0 r0 cap : Nat) (xs : List Nat) (hs : M sd = some (.inr (3, [.ref l0]))) (hA : AL γ M l0 r0 cap xs) (hE : mEl M 2 xs) (hlen : xs.length ≤ 250) : Met l y_S_first w_S_first ({ frames := 3, cells := 0, slots := 0, locals := 64 } : Room) (mPc γ M [.ref sd]) (mQq γ (fun r M' => r = xs.head? ∧ M' = M)) 0 0 (mA (gz γ)) := by
  refine m_enter (by decide) (Nat.le_of_ble_eq_true rfl) ?_
  intro p e s m below meth c ls S hr hlk hnm hl hw
  have hl : lv_has ls 1 [(0, .ref sd)] := hl
  obtain ⟨⟨md, hl0⟩, -⟩ := id hA
  refine lv_aload_n S.1 S.2.1 d_S_first_0 rfl (lv_at hl 0 rfl) ?_
  refine m_get S hw cl_S hs 0 (by decide) g104 (fun _ h => h) rfl d_S_first_1 ?_
  refine m_ci hw (va_runV (As := []) (rest := []) S (c_AL_isEmpty l γ M l0 md _ _ hl0) (m_cwV 0 S g256 g257 g258 g44 g259 rfl rfl ⟨by decide +kernel, by decide +kernel, by decide +kernel⟩ ⟨(Nat.le_of_ble_eq_true rfl), (Nat.le_of_ble_eq_true rfl)⟩) (hw.preV hl0 cl_AL.1) rfl rfl hl.1 rfl (lv_room (Nat.le_of_ble_eq_true rfl)) d_S_first_4 ⟨(Nat.zero_le _), (Nat.zero_le _)⟩) (fun r1 M1 H locs hp hw => ?_)
  obtain ⟨rfl, hM1⟩ := hp
  rw [hM1] at hw
  refine lv_if_eq (tgt := 14) S.1 S.2.1 d_S_first_7 rfl (fun h7 => ?_) (fun h7 => ?_)
  · have hpos : 0 < xs.length := by
      have h := b2i_0.mp h7
      rcases Nat.eq_zero_or_pos xs.length with z | z
      · rw [z] at h; simp [nI_0] at h
      · exact z
    refine lv_aload_n S.1 S.2.1 d_S_first_14 rfl (lv_at hl 0 rfl) ?_
    refine m_get S hw cl_S hs 0 (by decide) g104 (fun _ h => h) rfl d_S_first_15 ?_
    refine lv_iconst (v := 0) S.1 S.2.1 d_S_first_18 (by decide) ?_
    refine m_cq hw (va_runV (As := [.int 0]) (rest := []) S (c_AL_get l γ M l0 r0 cap xs hA 0 hpos) (m_cwV 1 S g260 g190 g191 g44 g192 rfl rfl ⟨by decide +kernel, by decide +kernel, by decide +kernel⟩ ⟨(Nat.le_of_ble_eq_true rfl), (Nat.le_of_ble_eq_true rfl)⟩) (hw.preV hl0 cl_AL.1) rfl rfl hl.1 rfl (lv_room (Nat.le_of_ble_eq_true rfl)) d_S_first_19 ⟨(Nat.zero_le _), (Nat.zero_le _)⟩) (fun r1 M1 H locs hp hw => ?_)
    obtain ⟨rfl, hM1⟩ := hp
    rw [hM1] at hw
    obtain ⟨x, hx⟩ : ∃ x, xs[0]? = some x := ⟨_, List.getElem?_eq_getElem hpos⟩
    obtain ⟨fs, hfs⟩ := hE.2 x (List.mem_of_getElem? hx)
    refine W.eq (g2 := F0 m 22 ls [.ref x]) (by rw [hx]; rfl) ?_
    refine m_cast S hw cl_O hfs g261 d_S_first_22 ?_
    exact m_aret (r := (some x)) S hlk hr (Or.inl ⟨_, rfl⟩) hw (⟨by rw [List.head?_eq_getElem?]; exact hx.symm, rfl⟩) (Nat.le_refl _) (Nat.le_refl _) d_S_first_25
  · refine lv_null S.1 S.2.1 d_S_first_10 ?_
    refine lv_goto (tgt := 25) S.1 S.2.1 d_S_first_11 rfl ?_
    exact m_aret (r := none) S hlk hr (Or.inl ⟨_, rfl⟩) hw (⟨by have hz : xs.length = 0 := (nI_eq (b := 0) (by omega) (by omega)).mp (of_decide_eq_true (b2i_n0.mp h7)); rw [List.eq_nil_of_length_eq_zero hz]; rfl, rfl⟩) (Nat.le_refl _) (Nat.le_refl _) d_S_first_25
set_option maxHeartbeats 4000000 in
set_option maxRecDepth 100000 in
theorem c_S_leave (l : Launch) (γ : mG) (M : mMap) (sd l0 r0 cap : Nat) (xs : List Nat) (hs : M sd = some (.inr (3, [.ref l0]))) (hA : AL γ M l0 r0 cap xs) (hE : mEl M 2 xs) (a : Nat) (x0 x1 x2 x3 x4 x5 x6 x7 x8 x9 : Int32) (ha : M a = some (.inr (2, [.int x0, .int x1, .int x2, .int x3, .int x4, .int x5, .int x6, .int x7, .int x8, .int x9]))) (k : Nat) (hk : xs[k]? = some a) (hfirst : ∀ j, j < k → xs[j]? ≠ some a) (hlen : xs.length ≤ 250) : Met l y_S_leave w_S_leave ({ frames := 3, cells := 0, slots := 0, locals := 94 } : Room) (mPc γ M [.ref sd, .ref a]) (mQv γ (fun M' => AL γ M' l0 r0 cap (xs.eraseIdx k) ∧ alF (mU M a (.inr (2, [.int x0, .int x1, .int x2, .int x3, .int x4, .int x5, .int x6, .int x7, .int (-1), .int x9]))) M' l0 r0 r0)) 0 0 (mA (gz γ)) := by
  refine m_enter (by decide) (Nat.le_of_ble_eq_true rfl) ?_
  intro p e s m below meth c ls S hr hlk hnm hl hw
  have hl : lv_has ls 3 [(0, .ref sd), (1, .ref a)] := hl
  refine lv_aload_n S.1 S.2.1 d_S_leave_0 rfl (lv_at hl 1 rfl) ?_
  refine lv_iconst (v := (-1)) S.1 S.2.1 d_S_leave_1 (by decide) ?_
  refine m_put S hw cl_O ha 8 (by decide) g402 (fun _ h => h) rfl rfl rfl (Nat.le_of_ble_eq_true rfl) d_S_leave_2 (fun H locs hw => ?_)
  have hw : mW γ (mU M a (.inr (2, [.int x0, .int x1, .int x2, .int x3, .int x4, .int x5, .int x6, .int x7, .int (-1), .int x9]))) s H locs := hw
  refine lv_iconst (v := 0) S.1 S.2.1 d_S_leave_5 (by decide) ?_
  refine lv_istore_n S.1 S.2.1 d_S_leave_6 rfl hl (by decide) rfl (fun ls hl => ?_)
  have hl : lv_has ls 3 [(2, .int 0), (0, .ref sd), (1, .ref a)] := hl
  have hs0 : (mU M a (.inr (2, [.int x0, .int x1, .int x2, .int x3, .int x4, .int x5, .int x6, .int x7, .int (-1), .int x9]))) sd = some (.inr (3, [.ref l0])) := mU_to (m_kind hs ha (fun z => by cases z)) hs
  have hA0 : AL γ (mU M a (.inr (2, [.int x0, .int x1, .int x2, .int x3, .int x4, .int x5, .int x6, .int x7, .int (-1), .int x9]))) l0 r0 cap xs := hA.setO ha (by decide)
  have hE0 : mEl (mU M a (.inr (2, [.int x0, .int x1, .int x2, .int x3, .int x4, .int x5, .int x6, .int x7, .int (-1), .int x9]))) 2 xs := hE.setO
  obtain ⟨⟨md, hl0⟩, -⟩ := id hA0
  have hkl : k < xs.length := (List.getElem?_eq_some_iff.mp hk).1
  have loop : ∀ (d i0 : Nat) (H : Heap) (locs : List Loc) (ls : Array Slot), i0 + d = k → lv_has ls 3 [(2, .int (nI i0)), (0, .ref sd), (1, .ref a)] → mW γ (mU M a (.inr (2, [.int x0, .int x1, .int x2, .int x3, .int x4, .int x5, .int x6, .int x7, .int (-1), .int x9]))) s H locs → W p l e ({ frames := 3, cells := 0, slots := 0, locals := 94 } : Room) s m #[.ref sd, .ref a] below meth c H locs 0 0 (MQ below (mQv γ (fun M' => AL γ M' l0 r0 cap (xs.eraseIdx k) ∧ alF (mU M a (.inr (2, [.int x0, .int x1, .int x2, .int x3, .int x4, .int x5, .int x6, .int x7, .int (-1), .int x9]))) M' l0 r0 r0)) #[.ref sd, .ref a] s 0 0 (mA (gz γ))) (F0 m 7 ls []) := by
    intro d
    induction d with
    | zero =>
      intro i0 H locs ls hi hl hw
      have hik : i0 = k := by omega
      subst hik
      refine lv_iload_n S.1 S.2.1 d_S_leave_7 rfl (lv_at hl 0 rfl) ?_
      refine lv_aload_n S.1 S.2.1 d_S_leave_8 rfl (lv_at hl 1 rfl) ?_
      refine m_get S hw cl_S hs0 0 (by decide) g104 (fun _ h => h) rfl d_S_leave_9 ?_
      refine m_ci hw (va_runV (As := []) (rest := [.int (nI i0)]) S (c_AL_size l γ (mU M a (.inr (2, [.int x0, .int x1, .int x2, .int x3, .int x4, .int x5, .int x6, .int x7, .int (-1), .int x9]))) l0 md _ _ hl0) (m_cwV 0 S g499 g186 g187 g44 g188 rfl rfl ⟨by decide +kernel, by decide +kernel, by decide +kernel⟩ ⟨(Nat.le_of_ble_eq_true rfl), (Nat.le_of_ble_eq_true rfl)⟩) (hw.preV hl0 cl_AL.1) rfl rfl hl.1 rfl (lv_room (Nat.le_of_ble_eq_true rfl)) d_S_leave_12 ⟨(Nat.zero_le _), (Nat.zero_le _)⟩) (fun r1 M1 H locs hp hw => ?_)
      obtain ⟨rfl, hM1⟩ := hp
      rw [hM1] at hw
      refine lv_icmp_ge (tgt := 46) S.1 S.2.1 d_S_leave_15 rfl (fun h => absurd h (nI_ge (by omega) (by omega))) (fun _ => ?_)
      refine lv_aload_n S.1 S.2.1 d_S_leave_18 rfl (lv_at hl 1 rfl) ?_
      refine m_get S hw cl_S hs0 0 (by decide) g104 (fun _ h => h) rfl d_S_leave_19 ?_
      refine lv_iload_n S.1 S.2.1 d_S_leave_22 rfl (lv_at hl 0 rfl) ?_
      refine m_cq hw (va_runV (As := [.int (nI i0)]) (rest := []) S (c_AL_get l γ (mU M a (.inr (2, [.int x0, .int x1, .int x2, .int x3, .int x4, .int x5, .int x6, .int x7, .int (-1), .int x9]))) l0 r0 cap xs hA0 i0 (by omega)) (m_cwV 1 S g260 g190 g191 g44 g192 rfl rfl ⟨by decide +kernel, by decide +kernel, by decide +kernel⟩ ⟨(Nat.le_of_ble_eq_true rfl), (Nat.le_of_ble_eq_true rfl)⟩) (hw.preV hl0 cl_AL.1) rfl rfl hl.1 rfl (lv_room (Nat.le_of_ble_eq_true rfl)) d_S_leave_23 ⟨(Nat.zero_le _), (Nat.zero_le _)⟩) (fun r1 M1 H locs hp hw => ?_)
      obtain ⟨rfl, hM1⟩ := hp
      rw [hM1] at hw
      refine lv_aload_n S.1 S.2.1 d_S_leave_26 rfl (lv_at hl 2 rfl) ?_
      refine lv_acmp_ne (rx := (xs[i0]?)) (ry := (some a)) (tgt := 40) S.1 S.2.1 d_S_leave_27 rfl (fun h => absurd hk h) (fun _ => ?_)
      refine lv_aload_n S.1 S.2.1 d_S_leave_30 rfl (lv_at hl 1 rfl) ?_
      refine m_get S hw cl_S hs0 0 (by decide) g104 (fun _ h => h) rfl d_S_leave_31 ?_
      refine lv_iload_n S.1 S.2.1 d_S_leave_34 rfl (lv_at hl 0 rfl) ?_
      refine m_cq hw (va_runV (As := [.int (nI i0)]) (rest := []) S (cc_remove l γ (mU M a (.inr (2, [.int x0, .int x1, .int x2, .int x3, .int x4, .int x5, .int x6, .int x7, .int (-1), .int x9]))) l0 r0 cap xs hA0 2 hE0 i0 (by omega)) (m_cwV 1 S g571 g572 g573 g44 g574 rfl rfl ⟨by decide +kernel, by decide +kernel, by decide +kernel⟩ ⟨(Nat.le_of_ble_eq_true rfl), (Nat.le_of_ble_eq_true rfl)⟩) (hw.preV hl0 cl_AL.1) rfl rfl hl.1 rfl (lv_room (Nat.le_of_ble_eq_true rfl)) d_S_leave_35 ⟨(Nat.zero_le _), (Nat.zero_le _)⟩) (fun r1 M1 H locs hp hw => ?_)
      obtain ⟨hr1, hA1, hF1⟩ := hp
      rw [hk] at hr1
      subst hr1
      refine lv_pop S.1 S.2.1 d_S_leave_38 rfl ?_
      exact m_vret S hlk hr hw (⟨hA1, hF1⟩) (Nat.le_refl _) (Nat.le_refl _) d_S_leave_39
    | succ d ih =>
      intro i0 H locs ls hi hl hw
      refine lv_iload_n S.1 S.2.1 d_S_leave_7 rfl (lv_at hl 0 rfl) ?_
      refine lv_aload_n S.1 S.2.1 d_S_leave_8 rfl (lv_at hl 1 rfl) ?_
      refine m_get S hw cl_S hs0 0 (by decide) g104 (fun _ h => h) rfl d_S_leave_9 ?_
      refine m_ci hw (va_runV (As := []) (rest := [.int (nI i0)]) S (c_AL_size l γ (mU M a (.inr (2, [.int x0, .int x1, .int x2, .int x3, .int x4, .int x5, .int x6, .int x7, .int (-1), .int x9]))) l0 md _ _ hl0) (m_cwV 0 S g499 g186 g187 g44 g188 rfl rfl ⟨by decide +kernel, by decide +kernel, by decide +kernel⟩ ⟨(Nat.le_of_ble_eq_true rfl), (Nat.le_of_ble_eq_true rfl)⟩) (hw.preV hl0 cl_AL.1) rfl rfl hl.1 rfl (lv_room (Nat.le_of_ble_eq_true rfl)) d_S_leave_12 ⟨(Nat.zero_le _), (Nat.zero_le _)⟩) (fun r1 M1 H locs hp hw => ?_)
      obtain ⟨rfl, hM1⟩ := hp
      rw [hM1] at hw
      refine lv_icmp_ge (tgt := 46) S.1 S.2.1 d_S_leave_15 rfl (fun h => absurd h (nI_ge (by omega) (by omega))) (fun _ => ?_)
      refine lv_aload_n S.1 S.2.1 d_S_leave_18 rfl (lv_at hl 1 rfl) ?_
      refine m_get S hw cl_S hs0 0 (by decide) g104 (fun _ h => h) rfl d_S_leave_19 ?_
      refine lv_iload_n S.1 S.2.1 d_S_leave_22 rfl (lv_at hl 0 rfl) ?_
      refine m_cq hw (va_runV (As := [.int (nI i0)]) (rest := []) S (c_AL_get l γ (mU M a (.inr (2, [.int x0, .int x1, .int x2, .int x3, .int x4, .int x5, .int x6, .int x7, .int (-1), .int x9]))) l0 r0 cap xs hA0 i0 (by omega)) (m_cwV 1 S g260 g190 g191 g44 g192 rfl rfl ⟨by decide +kernel, by decide +kernel, by decide +kernel⟩ ⟨(Nat.le_of_ble_eq_true rfl), (Nat.le_of_ble_eq_true rfl)⟩) (hw.preV hl0 cl_AL.1) rfl rfl hl.1 rfl (lv_room (Nat.le_of_ble_eq_true rfl)) d_S_leave_23 ⟨(Nat.zero_le _), (Nat.zero_le _)⟩) (fun r1 M1 H locs hp hw => ?_)
      obtain ⟨rfl, hM1⟩ := hp
      rw [hM1] at hw
      refine lv_aload_n S.1 S.2.1 d_S_leave_26 rfl (lv_at hl 2 rfl) ?_
      refine lv_acmp_ne (rx := (xs[i0]?)) (ry := (some a)) (tgt := 40) S.1 S.2.1 d_S_leave_27 rfl (fun _ => ?_) (fun h => absurd h (hfirst i0 (by omega)))
      refine lv_iinc (k := 0) (v := nI (i0 + 1)) S.1 S.2.1 d_S_leave_40 hl rfl (nI_1 i0) (by decide) rfl (fun ls hl => ?_)
      have hl : lv_has ls 3 [(2, .int (nI (i0 + 1))), (0, .ref sd), (1, .ref a)] := hl
      refine lv_goto (tgt := 7) S.1 S.2.1 d_S_leave_43 rfl ?_
      exact ih (i0 + 1) H locs ls (by omega) hl hw
  exact loop k 0 H locs ls (by omega) hl hw
set_option maxHeartbeats 4000000 in
set_option maxRecDepth 100000 in
theorem c_S_enter (l : Launch) (γ : mG) (M : mMap) (sd l0 r0 cap n : Nat) (L : List Nat) (oa : Nat → Nat) (I : Co) (hO : OR M oa I n) (hn : n ≤ 250) (o : Nat) (ho : o < n) (hs : M sd = some (.inr (3, [.ref l0]))) (hA : AL γ M l0 r0 cap (L.map oa)) (hL : ∀ y, y ∈ L → y < n ∧ y ≠ o) (hlen : L.length ≤ 250) (k0 : Int32) : Met l y_S_enter w_S_enter ({ frames := 6, cells := gN cap (L.map oa).length, slots := sN cap (L.map oa).length, locals := 159 } : Room) (mPc γ M [.ref sd, .ref (oa o), .int k0]) (mQv γ (fun M' => ∃ k r', k ≤ L.length ∧ (∀ x, x ∈ L.drop k → sb (s1 I 5 o k0) o x = true) ∧ (∀ x, L[k - 1]? = some x → 0 < k → sb (s1 I 5 o k0) o x = false) ∧ AL γ M' l0 r' (cN cap (L.map oa).length) ((L.map oa).insertIdx k (oa o)) ∧ alF (mU M (oa o) (.inr (2, oc (s1 I 5 o k0) o))) M' l0 r0 r')) (gN cap (L.map oa).length) (sN cap (L.map oa).length) (mA (gz γ)) := by
  refine m_enter (by decide) (Nat.le_of_ble_eq_true rfl) ?_
  intro p e s m below meth c ls S hr hlk hnm hl hw
  have hl : lv_has ls 4 [(0, .ref sd), (1, .ref (oa o)), (2, .int k0)] := hl
  refine lv_aload_n S.1 S.2.1 d_S_enter_0 rfl (lv_at hl 1 rfl) ?_
  refine lv_iload_n S.1 S.2.1 d_S_enter_1 rfl (lv_at hl 2 rfl) ?_
  refine m_put S hw cl_O (hO o ho) 8 (by decide) g402 (fun _ h => h) rfl rfl rfl (Nat.le_of_ble_eq_true rfl) d_S_enter_2 (fun H locs hw => ?_)
  have hw : mW γ (mU M (oa o) (.inr (2, [.int (nI o), .int (I 0 o), .int (I 1 o), .int (I 8 o), .int (I 6 o), .int (I 2 o), .int (I 3 o), .int (I 4 o), .int k0, .int (I 7 o)]))) s H locs := hw
  rw [← oc_5] at hw
  have hw : mW γ (mU M (oa o) (.inr (2, oc (s1 I 5 o k0) o))) s H locs := hw
  have hs9 : (mU M (oa o) (.inr (2, oc (s1 I 5 o k0) o))) sd = some (.inr (3, [.ref l0])) := mU_to (m_kind hs (hO o ho) (fun z => by cases z)) hs
  have hA9 : AL γ (mU M (oa o) (.inr (2, oc (s1 I 5 o k0) o))) l0 r0 cap (L.map oa) := hA.setO (hO o ho) (by decide)
  obtain ⟨⟨md, hl9⟩, -⟩ := id hA9
  refine lv_aload_n S.1 S.2.1 d_S_enter_5 rfl (lv_at hl 0 rfl) ?_
  refine m_get S hw cl_S hs9 0 (by decide) g104 (fun _ h => h) rfl d_S_enter_6 ?_
  refine m_ci hw (va_runV (As := []) (rest := []) S (c_AL_size l γ (mU M (oa o) (.inr (2, oc (s1 I 5 o k0) o))) l0 md _ _ hl9) (m_cwV 0 S g499 g186 g187 g44 g188 rfl rfl ⟨by decide +kernel, by decide +kernel, by decide +kernel⟩ ⟨(Nat.le_of_ble_eq_true rfl), (Nat.le_of_ble_eq_true rfl)⟩) (hw.preV hl9 cl_AL.1) rfl rfl hl.1 rfl (lv_room (Nat.le_of_ble_eq_true rfl)) d_S_enter_9 ⟨(Nat.zero_le _), (Nat.zero_le _)⟩) (fun r1 M1 H locs hp hw => ?_)
  obtain ⟨rfl, hM1⟩ := hp
  rw [hM1] at hw
  refine lv_istore_n S.1 S.2.1 d_S_enter_12 rfl hl (by decide) rfl (fun ls hl => ?_)
  have hl : lv_has ls 4 [(3, .int (nI (L.map oa).length)), (0, .ref sd), (1, .ref (oa o)), (2, .int k0)] := hl
  have hw : mW γ (mU M (oa o) (.inr (2, oc (s1 I 5 o k0) o))) s H locs := hw
  have hs0 : (mU M (oa o) (.inr (2, oc (s1 I 5 o k0) o))) sd = some (.inr (3, [.ref l0])) := mU_to (m_kind hs (hO o ho) (fun z => by cases z)) hs
  have hA0 : AL γ (mU M (oa o) (.inr (2, oc (s1 I 5 o k0) o))) l0 r0 cap (L.map oa) := hA.setO (hO o ho) (by decide)
  have hO0 : OR (mU M (oa o) (.inr (2, oc (s1 I 5 o k0) o))) oa (s1 I 5 o k0) n := hO.set hn ho (fun f x hx => s1_o hx) rfl
  have hV : mEl (mU M (oa o) (.inr (2, oc (s1 I 5 o k0) o))) 2 (oa o :: L.map oa) := hO0.el (L := o :: L) (fun x hx => (List.mem_cons.mp hx).elim (fun e => e ▸ ho) (fun e => (hL x e).1))
  obtain ⟨⟨md0, hl0⟩, -⟩ := id hA0
  have hml : (L.map oa).length = L.length := List.length_map _
  have hexit : ∀ (p0 : Nat) (H : Heap) (locs : List Loc) (ls : Array Slot), p0 ≤ L.length → (∀ x, x ∈ L.drop p0 → sb (s1 I 5 o k0) o x = true) → (∀ x, L[p0 - 1]? = some x → 0 < p0 → sb (s1 I 5 o k0) o x = false) → lv_has ls 4 [(3, .int (nI p0)), (0, .ref sd), (1, .ref (oa o)), (2, .int k0)] → mW γ (mU M (oa o) (.inr (2, oc (s1 I 5 o k0) o))) s H locs → W p l e ({ frames := 6, cells := gN cap (L.map oa).length, slots := sN cap (L.map oa).length, locals := 159 } : Room) s m #[.ref sd, .ref (oa o), .int k0] below meth c H locs 0 0 (MQ below (mQv γ (fun M' => ∃ k r', k ≤ L.length ∧ (∀ x, x ∈ L.drop k → sb (s1 I 5 o k0) o x = true) ∧ (∀ x, L[k - 1]? = some x → 0 < k → sb (s1 I 5 o k0) o x = false) ∧ AL γ M' l0 r' (cN cap (L.map oa).length) ((L.map oa).insertIdx k (oa o)) ∧ alF (mU M (oa o) (.inr (2, oc (s1 I 5 o k0) o))) M' l0 r0 r')) #[.ref sd, .ref (oa o), .int k0] s (gN cap (L.map oa).length) (sN cap (L.map oa).length) (mA (gz γ))) (F0 m 43 ls []) := by
    intro p0 H locs ls hp0 hhi hlo hl hw
    refine lv_aload_n S.1 S.2.1 d_S_enter_43 rfl (lv_at hl 1 rfl) ?_
    refine m_get S hw cl_S hs0 0 (by decide) g104 (fun _ h => h) rfl d_S_enter_44 ?_
    refine lv_iload_n S.1 S.2.1 d_S_enter_47 rfl (lv_at hl 0 rfl) ?_
    refine lv_aload_n S.1 S.2.1 d_S_enter_48 rfl (lv_at hl 2 rfl) ?_
    refine m_cv hw (va_runV (As := [.int (nI p0), .ref (oa o)]) (rest := []) S (cc_addAt l γ (mU M (oa o) (.inr (2, oc (s1 I 5 o k0) o))) l0 r0 cap (L.map oa) hA0 (oa o) 2 hV (by omega) p0 (by omega)) (m_cwV 2 S g501 g502 g503 g44 g504 rfl rfl ⟨by decide +kernel, by decide +kernel, by decide +kernel⟩ ⟨(Nat.le_of_ble_eq_true rfl), (Nat.le_of_ble_eq_true rfl)⟩) (hw.preV hl0 cl_AL.1) rfl rfl hl.1 rfl (lv_room (Nat.le_of_ble_eq_true rfl)) d_S_enter_49 ⟨(Nat.le_of_eq (Nat.zero_add _)), (Nat.le_of_eq (Nat.zero_add _))⟩) (fun M9 H locs hp hw => ?_)
    obtain ⟨r9, hA1, hF1⟩ := hp
    exact m_vret S hlk hr hw (⟨p0, r9, hp0, hhi, hlo, hA1, hF1⟩) (Nat.le_of_eq (Nat.zero_add _)) (Nat.le_of_eq (Nat.zero_add _)) d_S_enter_52
  have loop : ∀ (d : Nat) (H : Heap) (locs : List Loc) (ls : Array Slot), d ≤ L.length → (∀ x, x ∈ L.drop d → sb (s1 I 5 o k0) o x = true) → lv_has ls 4 [(3, .int (nI d)), (0, .ref sd), (1, .ref (oa o)), (2, .int k0)] → mW γ (mU M (oa o) (.inr (2, oc (s1 I 5 o k0) o))) s H locs → W p l e ({ frames := 6, cells := gN cap (L.map oa).length, slots := sN cap (L.map oa).length, locals := 159 } : Room) s m #[.ref sd, .ref (oa o), .int k0] below meth c H locs 0 0 (MQ below (mQv γ (fun M' => ∃ k r', k ≤ L.length ∧ (∀ x, x ∈ L.drop k → sb (s1 I 5 o k0) o x = true) ∧ (∀ x, L[k - 1]? = some x → 0 < k → sb (s1 I 5 o k0) o x = false) ∧ AL γ M' l0 r' (cN cap (L.map oa).length) ((L.map oa).insertIdx k (oa o)) ∧ alF (mU M (oa o) (.inr (2, oc (s1 I 5 o k0) o))) M' l0 r0 r')) #[.ref sd, .ref (oa o), .int k0] s (gN cap (L.map oa).length) (sN cap (L.map oa).length) (mA (gz γ))) (F0 m 13 ls []) := by
    intro d
    induction d with
    | zero =>
      intro H locs ls hd hhi hl hw
      refine lv_iload_n S.1 S.2.1 d_S_enter_13 rfl (lv_at hl 0 rfl) ?_
      refine lv_if_le (tgt := 43) S.1 S.2.1 d_S_enter_14 rfl (fun _ => ?_) (fun h => absurd (by decide) h)
      exact hexit 0 H locs ls hd hhi (fun x _ h => absurd h (by omega)) hl hw
    | succ d ih =>
      intro H locs ls hd hhi hl hw
      refine lv_iload_n S.1 S.2.1 d_S_enter_13 rfl (lv_at hl 0 rfl) ?_
      refine lv_if_le (tgt := 43) S.1 S.2.1 d_S_enter_14 rfl (fun h => absurd h (nI_nle (by omega) (by omega))) (fun _ => ?_)
      refine lv_aload_n S.1 S.2.1 d_S_enter_17 rfl (lv_at hl 2 rfl) ?_
      refine lv_aload_n S.1 S.2.1 d_S_enter_18 rfl (lv_at hl 1 rfl) ?_
      refine m_get S hw cl_S hs0 0 (by decide) g104 (fun _ h => h) rfl d_S_enter_19 ?_
      refine lv_iload_n S.1 S.2.1 d_S_enter_22 rfl (lv_at hl 0 rfl) ?_
      refine lv_iconst (v := 1) S.1 S.2.1 d_S_enter_23 (by decide) ?_
      refine lv_isub S.1 S.2.1 d_S_enter_24 ?_
      refine W.eq (g2 := F0 m 25 ls [.int (nI d), .ref l0, .ref (oa o)]) (by rw [nI_pred]) ?_
      refine m_cq hw (va_runV (As := [.int (nI d)]) (rest := [.ref (oa o)]) S (c_AL_get l γ (mU M (oa o) (.inr (2, oc (s1 I 5 o k0) o))) l0 r0 cap (L.map oa) hA0 d (by omega)) (m_cwV 1 S g260 g190 g191 g44 g192 rfl rfl ⟨by decide +kernel, by decide +kernel, by decide +kernel⟩ ⟨(Nat.le_of_ble_eq_true rfl), (Nat.le_of_ble_eq_true rfl)⟩) (hw.preV hl0 cl_AL.1) rfl rfl hl.1 rfl (lv_room (Nat.le_of_ble_eq_true rfl)) d_S_enter_25 ⟨(Nat.zero_le _), (Nat.zero_le _)⟩) (fun r1 M1 H locs hp hw => ?_)
      obtain ⟨rfl, hM1⟩ := hp
      rw [hM1] at hw
      have hge : (L.map oa)[d]? = some (oa L[d]) := by rw [List.getElem?_map, List.getElem?_eq_getElem (by omega)]; rfl
      have hLd := hL L[d] (List.getElem_mem _)
      refine W.eq (g2 := F0 m 28 ls [.ref (oa L[d]), .ref (oa o)]) (by rw [hge]; rfl) ?_
      refine m_cast S hw cl_O (hO0 L[d] hLd.1) g261 d_S_enter_28 ?_
      refine m_ci hw (va_runV (As := [.ref (oa L[d])]) (rest := []) S (c_O_standsBefore l γ (mU M (oa o) (.inr (2, oc (s1 I 5 o k0) o))) (oa o) _ _ _ _ _ _ _ _ _ _ (hO0 o ho) (oa L[d]) _ _ _ _ _ _ _ _ _ _ (hO0 L[d] hLd.1)) (m_cwV 1 S g500 g229 g230 g54 g231 rfl rfl ⟨by decide +kernel, by decide +kernel, by decide +kernel⟩ ⟨(Nat.le_of_ble_eq_true rfl), (Nat.le_of_ble_eq_true rfl)⟩) (hw.preV (hO0 o ho) cl_O.1) rfl rfl hl.1 rfl (lv_room (Nat.le_of_ble_eq_true rfl)) d_S_enter_31 ⟨(Nat.zero_le _), (Nat.zero_le _)⟩) (fun r1 M1 H locs hp hw => ?_)
      obtain ⟨rfl, hM1⟩ := hp
      rw [hM1] at hw
      refine W.eq (g2 := F0 m 34 ls [.int (b2i (sb (s1 I 5 o k0) o L[d]))]) rfl ?_
      refine lv_if_eq (tgt := 43) S.1 S.2.1 d_S_enter_34 rfl (fun h34 => ?_) (fun h34 => ?_)
      · refine hexit (d + 1) H locs ls hd hhi (fun x hx _ => ?_) hl hw
        rw [Nat.add_sub_cancel, List.getElem?_eq_getElem (show d < L.length by omega)] at hx
        cases hx
        exact b2i_0.mp h34
      · refine lv_iinc (k := 0) (v := nI d) S.1 S.2.1 d_S_enter_37 hl rfl (pk_m1 d) (by decide) rfl (fun ls hl => ?_)
        have hl : lv_has ls 4 [(3, .int (nI d)), (0, .ref sd), (1, .ref (oa o)), (2, .int k0)] := hl
        refine lv_goto (tgt := 13) S.1 S.2.1 d_S_enter_40 rfl ?_
        refine ih H locs ls (by omega) ?_ hl hw
        intro x hx
        rw [List.drop_eq_getElem_cons (by omega)] at hx
        rcases List.mem_cons.mp hx with e | e
        · rw [e]; exact b2i_n0.mp h34
        · exact hhi x e
  rw [hml] at hl
  exact loop L.length H locs ls (Nat.le_refl _) (fun x hx => by rw [List.drop_length] at hx; cases hx) hl hw
