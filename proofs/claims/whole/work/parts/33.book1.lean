/-! CallBook: its private methods over the state (1) -/
set_option maxHeartbeats 4000000 in
set_option maxRecDepth 100000 in
theorem c_B_side (l : Launch) (γ : mG) (M : mMap) (β : BK) (p4 : Int32 × Int32 × Int32 × Int32) (hx : M (bx β) = some (.inr (6, bkc β p4))) (b : Int32) : Met l y_B_side w_B_side ({ frames := 0, cells := 0, slots := 0, locals := 0 } : Room) (mPc γ M [.ref (bx β), .int b]) (mQq γ (fun r M' => r = some (bsd β (sj b)) ∧ M' = M)) 0 0 (mA (gz γ)) := by
  refine m_enter (by decide) (Nat.le_of_ble_eq_true rfl) ?_
  intro p e s m below meth c ls S hr hlk hnm hl hw
  have hl : lv_has ls 2 [(0, .ref (bx β)), (1, .int b)] := hl
  refine lv_iload_n S.1 S.2.1 d_B_side_0 rfl (lv_at hl 1 rfl) ?_
  refine lv_if_eq (tgt := 11) S.1 S.2.1 d_B_side_1 rfl (fun h1 => ?_) (fun h1 => ?_)
  · refine lv_aload_n S.1 S.2.1 d_B_side_11 rfl (lv_at hl 0 rfl) ?_
    refine m_get S hw cl_B hx 2 (by decide) g147 (fun _ h => h) rfl d_B_side_12 ?_
    exact m_aret (r := (some (bsd β 2))) S hlk hr (Or.inl ⟨_, rfl⟩) hw (⟨by rw [← sj_if, if_pos h1], rfl⟩) (Nat.le_refl _) (Nat.le_refl _) d_B_side_15
  · refine lv_aload_n S.1 S.2.1 d_B_side_4 rfl (lv_at hl 0 rfl) ?_
    refine m_get S hw cl_B hx 1 (by decide) g146 (fun _ h => h) rfl d_B_side_5 ?_
    refine lv_goto (tgt := 15) S.1 S.2.1 d_B_side_8 rfl ?_
    exact m_aret (r := (some (bsd β 1))) S hlk hr (Or.inl ⟨_, rfl⟩) hw (⟨by rw [← sj_if, if_neg h1], rfl⟩) (Nat.le_refl _) (Nat.le_refl _) d_B_side_15
set_option maxHeartbeats 4000000 in
set_option maxRecDepth 100000 in
theorem c_B_isBeyondBand (l : Launch) (γ : mG) (M : mMap) (β : BK) (p4 : Int32 × Int32 × Int32 × Int32) (hx : M (bx β) = some (.inr (6, bkc β p4))) (p0 : Int32) : Met l y_B_isBeyondBand w_B_isBeyondBand ({ frames := 1, cells := 0, slots := 0, locals := 16 } : Room) (mPc γ M [.ref (bx β), .int p0]) (mQi γ (fun r M' => r = b2i (byc p4.2.1 p4.2.2.1 p0) ∧ M' = M)) 0 0 (mA (gz γ)) := by
  refine m_enter (by decide) (Nat.le_of_ble_eq_true rfl) ?_
  intro p e s m below meth c ls S hr hlk hnm hl hw
  have hl : lv_has ls 2 [(0, .ref (bx β)), (1, .int p0)] := hl
  refine lv_aload_n S.1 S.2.1 d_B_isBeyondBand_0 rfl (lv_at hl 0 rfl) ?_
  refine m_get S hw cl_B hx 7 (by decide) g152 (fun _ h => h) rfl d_B_isBeyondBand_1 ?_
  refine lv_if_eq (tgt := 27) S.1 S.2.1 d_B_isBeyondBand_4 rfl (fun h4 => ?_) (fun h4 => ?_)
  · refine lv_iconst (v := 0) S.1 S.2.1 d_B_isBeyondBand_27 (by decide) ?_
    exact m_iret S hlk hr rfl hw (by simp_all [b2i, byc, aI]) (Nat.le_refl _) (Nat.le_refl _) d_B_isBeyondBand_28
  · refine lv_iload_n S.1 S.2.1 d_B_isBeyondBand_7 rfl (lv_at hl 1 rfl) ?_
    refine lv_aload_n S.1 S.2.1 d_B_isBeyondBand_8 rfl (lv_at hl 0 rfl) ?_
    refine m_get S hw cl_B hx 6 (by decide) g151 (fun _ h => h) rfl d_B_isBeyondBand_9 ?_
    refine lv_isub S.1 S.2.1 d_B_isBeyondBand_12 ?_
    refine va_mabs S.1 S.2.1 (S.2.2.1.trans hl.1.symm) S.2.2.2.1 (S.2.2.2.2 _ (gc g271)) (S.2.2.2.2 _ (gc g272)) (S.2.2.2.2 _ (gc g56)) (S.2.2.2.2 _ (gc g273)) (Nat.le_of_ble_eq_true rfl) (Nat.le_of_ble_eq_true rfl) (Nat.zero_le _) (Nat.zero_le _) d_B_isBeyondBand_13 ?_
    refine lv_aload_n S.1 S.2.1 d_B_isBeyondBand_16 rfl (lv_at hl 0 rfl) ?_
    refine m_get S hw cl_B hx 7 (by decide) g152 (fun _ h => h) rfl d_B_isBeyondBand_17 ?_
    refine lv_icmp_le (tgt := 27) S.1 S.2.1 d_B_isBeyondBand_20 rfl (fun h20 => ?_) (fun h20 => ?_)
    · refine lv_iconst (v := 0) S.1 S.2.1 d_B_isBeyondBand_27 (by decide) ?_
      exact m_iret S hlk hr rfl hw (by simp_all [b2i, byc, aI]) (Nat.le_refl _) (Nat.le_refl _) d_B_isBeyondBand_28
    · refine lv_iconst (v := 1) S.1 S.2.1 d_B_isBeyondBand_23 (by decide) ?_
      refine lv_goto (tgt := 28) S.1 S.2.1 d_B_isBeyondBand_24 rfl ?_
      exact m_iret S hlk hr rfl hw (by simp_all [b2i, byc, aI]) (Nat.le_refl _) (Nat.le_refl _) d_B_isBeyondBand_28
set_option maxHeartbeats 4000000 in
set_option maxRecDepth 100000 in
theorem c_B_rest (l : Launch) (γ : mG) (M : mMap) (β : BK) (oa cp : Nat → Nat) (L : Nat → List Nat) (σ : St) (hC : CB γ M β oa cp L σ) (hn : sn σ ≤ 250) (o : Nat) (ho : o < sn σ) (hpk : 0 ≤ (sI σ 8 o).toInt) (hL : ∀ y, y ∈ L (sj (sI σ 1 o)) → y < sn σ ∧ y ≠ o) (hlen : (L (sj (sI σ 1 o))).length ≤ 250) : Met l y_B_rest w_B_rest ({ frames := 7, cells := gN (cp (sj (sI σ 1 o))) ((L (sj (sI σ 1 o))).map oa).length, slots := sN (cp (sj (sI σ 1 o))) ((L (sj (sI σ 1 o))).map oa).length, locals := 182 } : Room) (mPc γ M [.ref (bx β), .ref (oa o)]) (mQv γ (fun M' => ∃ k, k ≤ (L (sj (sI σ 1 o))).length ∧ (∀ x, x ∈ (L (sj (sI σ 1 o))).drop k → sb (s1 (s1 (sI σ) 4 o (shw (sI σ) o)) 5 o (srk σ)) o x = true) ∧ (∀ x, (L (sj (sI σ 1 o)))[k - 1]? = some x → 0 < k → sb (s1 (s1 (sI σ) 4 o (shw (sI σ) o)) 5 o (srk σ)) o x = false) ∧ CB γ M' β oa (va_up cp (sj (sI σ 1 o)) (cN (cp (sj (sI σ 1 o))) ((L (sj (sI σ 1 o))).map oa).length)) (fun k' => if k' = (sj (sI σ 1 o)) then (L (sj (sI σ 1 o))).insertIdx k o else L k') (xRest σ o) ∧ frC M M')) (gN (cp (sj (sI σ 1 o))) ((L (sj (sI σ 1 o))).map oa).length) (sN (cp (sj (sI σ 1 o))) ((L (sj (sI σ 1 o))).map oa).length) (mA (gz γ)) := by
  refine m_enter (by decide) (Nat.le_of_ble_eq_true rfl) ?_
  intro p e s m below meth c ls S hr hlk hnm hl hw
  have hl : lv_has ls 2 [(0, .ref (bx β)), (1, .ref (oa o))] := hl
  have hOo := hC.ord o ho
  refine lv_aload_n S.1 S.2.1 d_B_rest_0 rfl (lv_at hl 1 rfl) ?_
  refine lv_aload_n S.1 S.2.1 d_B_rest_1 rfl (lv_at hl 1 rfl) ?_
  refine m_ci hw (va_runV (As := []) (rest := [.ref (oa o)]) S (c_O_mayShow l γ M (oa o) _ _ _ _ _ _ _ _ _ _ hOo) (m_cwV 0 S g494 g237 g238 g54 g239 rfl rfl ⟨by decide +kernel, by decide +kernel, by decide +kernel⟩ ⟨(Nat.le_of_ble_eq_true rfl), (Nat.le_of_ble_eq_true rfl)⟩) (hw.preV hOo cl_O.1) rfl rfl hl.1 rfl (lv_room (Nat.le_of_ble_eq_true rfl)) d_B_rest_2 ⟨(Nat.zero_le _), (Nat.zero_le _)⟩) (fun r1 M1 H locs hp hw => ?_)
  obtain ⟨rfl, hM1⟩ := hp
  rw [hM1] at hw
  refine W.eq (g2 := F0 m 5 ls [.int (shw (sI σ) o), .ref (oa o)]) (by rw [← shw_eq hpk]) ?_
  refine m_put S hw cl_O hOo 7 (by decide) g400 (fun _ h => h) rfl rfl rfl (Nat.le_of_ble_eq_true rfl) d_B_rest_5 (fun H locs hw => ?_)
  have hw : mW γ (mU M (oa o) (.inr (2, [.int (nI o), .int ((sI σ) 0 o), .int ((sI σ) 1 o), .int ((sI σ) 8 o), .int ((sI σ) 6 o), .int ((sI σ) 2 o), .int ((sI σ) 3 o), .int (shw (sI σ) o), .int ((sI σ) 5 o), .int ((sI σ) 7 o)]))) s H locs := hw
  rw [← oc_4] at hw
  obtain ⟨hC1, hf1⟩ := hC.setO hn ho (J := s1 (sI σ) 4 o (shw (sI σ) o)) (fun f x hx => s1_o hx) (e := .inr (2, oc (s1 (sI σ) 4 o (shw (sI σ) o)) o)) rfl
  have hbu : (s1 (sI σ) 4 o (shw (sI σ) o)) 1 o = sI σ 1 o := by rw [s1_f (by decide)]
  refine lv_aload_n S.1 S.2.1 d_B_rest_8 rfl (lv_at hl 0 rfl) ?_
  refine lv_aload_n S.1 S.2.1 d_B_rest_9 rfl (lv_at hl 1 rfl) ?_
  refine m_get S hw cl_O (hC1.ord o ho) 2 (by decide) g389 (fun _ h => h) rfl d_B_rest_10 ?_
  refine W.eq (g2 := F0 m 13 ls [.int (sI σ 1 o), .ref (bx β)]) (congrArg (fun z => F0 m 13 ls [.int z, .ref (bx β)]) hbu) ?_
  refine m_cq hw (va_runV (As := [.int (sI σ 1 o)]) (rest := []) S (c_B_side l γ (mU M (oa o) (.inr (2, oc (s1 (sI σ) 4 o (shw (sI σ) o)) o))) β σ.2.1 hC1.book (sI σ 1 o)) (m_cwV 1 S g181 g183 g0 g41 g184 rfl rfl ⟨by decide +kernel, by decide +kernel, by decide +kernel⟩ ⟨(Nat.le_of_ble_eq_true rfl), (Nat.le_of_ble_eq_true rfl)⟩) (hw.preV hC1.book cl_B.1) rfl rfl hl.1 rfl (lv_room (Nat.le_of_ble_eq_true rfl)) d_B_rest_13 ⟨(Nat.zero_le _), (Nat.zero_le _)⟩) (fun r1 M1 H locs hp hw => ?_)
  obtain ⟨rfl, hM1⟩ := hp
  rw [hM1] at hw
  obtain ⟨r0, hA1⟩ := hC1.list (sj_or (sI σ 1 o))
  refine lv_aload_n S.1 S.2.1 d_B_rest_16 rfl (lv_at hl 1 rfl) ?_
  refine lv_aload_n S.1 S.2.1 d_B_rest_17 rfl (lv_at hl 0 rfl) ?_
  refine m_get S hw cl_B hC1.book 8 (by decide) g153 (fun _ h => h) rfl d_B_rest_18 ?_
  have hg1 := hw.noe
  refine m_cv hw (va_runV (As := [.ref (oa o), .int σ.2.1.2.2.2]) (rest := []) S (c_S_enter l γ (mU M (oa o) (.inr (2, oc (s1 (sI σ) 4 o (shw (sI σ) o)) o))) (bsd β (sj (sI σ 1 o))) (bal β (sj (sI σ 1 o))) r0 (cp (sj (sI σ 1 o))) (sn σ) (L (sj (sI σ 1 o))) oa (s1 (sI σ) 4 o (shw (sI σ) o)) hC1.ord hn o ho (hC1.side (sj_or _)) hA1 hL hlen (srk σ)) (m_cwV 2 S g495 g496 g497 g45 g498 rfl rfl ⟨by decide +kernel, by decide +kernel, by decide +kernel⟩ ⟨(Nat.le_of_ble_eq_true rfl), (Nat.le_of_ble_eq_true rfl)⟩) (hw.preV (hC1.side (sj_or _)) cl_S.1) rfl rfl hl.1 rfl (lv_room (Nat.le_of_ble_eq_true rfl)) d_B_rest_21 ⟨(by show 0 + 0 + 0 + _ ≤ _; rw [Nat.zero_add]; exact Nat.le_refl _), (by show 0 + 0 + 0 + _ ≤ _; rw [Nat.zero_add]; exact Nat.le_refl _)⟩) (fun M1 H locs hp hw => ?_)
  obtain ⟨k, r9, hk, hhi, hlo, hA9, hF9⟩ := hp
  rw [← map_ins] at hA9
  obtain ⟨hC2, hf2⟩ := hC1.setO hn ho (J := s1 (s1 (sI σ) 4 o (shw (sI σ) o)) 5 o (srk σ)) (fun f x hx => s1_o hx) (e := .inr (2, oc (s1 (s1 (sI σ) 4 o (shw (sI σ) o)) 5 o (srk σ)) o)) rfl
  have hg2 : (mU (mU M (oa o) (.inr (2, oc (s1 (sI σ) 4 o (shw (sI σ) o)) o))) (oa o) (.inr (2, oc (s1 (s1 (sI σ) 4 o (shw (sI σ) o)) 5 o (srk σ)) o))) (ge γ) = none := mU_g hg1 (hC1.ord o ho)
  obtain ⟨hC3, hf3⟩ := hC2.line hg2 (sj_or _) (hA1.setO (hC1.ord o ho) (by decide)) hA9 hF9
  refine lv_aload_n S.1 S.2.1 d_B_rest_24 rfl (lv_at hl 0 rfl) ?_
  refine lv_dup S.1 S.2.1 d_B_rest_25 rfl ?_
  refine m_get S hw cl_B hC3.book 8 (by decide) g153 (fun _ h => h) rfl d_B_rest_26 ?_
  refine lv_iconst (v := 1) S.1 S.2.1 d_B_rest_29 (by decide) ?_
  refine lv_iadd S.1 S.2.1 d_B_rest_30 ?_
  refine m_put S hw cl_B hC3.book 8 (by decide) g153 (fun _ h => h) rfl rfl rfl (Nat.le_of_ble_eq_true rfl) d_B_rest_31 (fun H locs hw => ?_)
  have hw : mW γ (mU M1 (bx β) (.inr (6, [.ref (bal β 0), .ref (bsd β 1), .ref (bsd β 2), .ref (btl β), .ref (bau β), .int σ.2.1.1, .int σ.2.1.2.1, .int σ.2.1.2.2.1, .int (σ.2.1.2.2.2 + 1)]))) s H locs := hw
  have hC4 := hC3.setB (p := (sph σ, srf σ, sbd σ, srk σ + 1)) (e := .inr (6, bkc β (sph σ, srf σ, sbd σ, srk σ + 1))) rfl
  exact m_vret S hlk hr hw (⟨k, hk, hhi, hlo, by rw [← xRest_eq (σ := σ) (o := o) rfl]; exact hC4.1, hf1.tr (hf2.tr (hf3.tr hC4.2))⟩) (by show 0 + 0 + 0 + _ ≤ _; rw [Nat.zero_add]; exact Nat.le_refl _) (by show 0 + 0 + 0 + _ ≤ _; rw [Nat.zero_add]; exact Nat.le_refl _) d_B_rest_34
