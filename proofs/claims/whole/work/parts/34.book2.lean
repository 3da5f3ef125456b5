/-! CallBook: its private methods over the state (2) -/
set_option maxHeartbeats 4000000 in
set_option maxRecDepth 100000 in
theorem c_B_finishR (l : Launch) (γ : mG) (M : mMap) (β : BK) (oa cp : Nat → Nat) (L : Nat → List Nat) (σ : St) (hC : CB γ M β oa cp L σ) (hn : sn σ ≤ 250) (o : Nat) (ho : o < sn σ) (hr5 : ¬ sI σ 5 o = -1) (hnd : (L (sj (sI σ 1 o))).Nodup) (hL : ∀ y, y ∈ L (sj (sI σ 1 o)) → y < sn σ) (hlen : (L (sj (sI σ 1 o))).length ≤ 250) (k : Nat) (hk : (L (sj (sI σ 1 o)))[k]? = some o) : Met l y_B_finish w_B_finish ({ frames := 4, cells := 0, slots := 0, locals := 116 } : Room) (mPc γ M [.ref (bx β), .ref (oa o)]) (mQv γ (fun M' => CB γ M' β oa cp (fun k' => if k' = (sj (sI σ 1 o)) then (L (sj (sI σ 1 o))).eraseIdx k else L k') (xEnd σ o) ∧ frC M M')) 0 0 (mA (gz γ)) := by
  refine m_enter (by decide) (Nat.le_of_ble_eq_true rfl) ?_
  intro p e s m below meth c ls S hr hlk hnm hl hw
  have hl : lv_has ls 2 [(0, .ref (bx β)), (1, .ref (oa o))] := hl
  have hOo := hC.ord o ho
  refine lv_aload_n S.1 S.2.1 d_B_finish_0 rfl (lv_at hl 1 rfl) ?_
  refine m_ci hw (va_runV (As := []) (rest := []) S (c_O_rests l γ M (oa o) _ _ _ _ _ _ _ _ _ _ hOo) (m_cwV 0 S g270 g244 g245 g54 g246 rfl rfl ⟨by decide +kernel, by decide +kernel, by decide +kernel⟩ ⟨(Nat.le_of_ble_eq_true rfl), (Nat.le_of_ble_eq_true rfl)⟩) (hw.preV hOo cl_O.1) rfl rfl hl.1 rfl (lv_room (Nat.le_of_ble_eq_true rfl)) d_B_finish_1 ⟨(Nat.zero_le _), (Nat.zero_le _)⟩) (fun r1 M1 H locs hp hw => ?_)
  obtain ⟨rfl, hM1⟩ := hp
  rw [hM1] at hw
  refine lv_if_eq (tgt := 19) S.1 S.2.1 d_B_finish_4 rfl (fun h => absurd h (b2i_n0.mpr (decide_eq_true hr5))) (fun _ => ?_)
  refine lv_aload_n S.1 S.2.1 d_B_finish_7 rfl (lv_at hl 0 rfl) ?_
  refine lv_aload_n S.1 S.2.1 d_B_finish_8 rfl (lv_at hl 1 rfl) ?_
  refine m_get S hw cl_O hOo 2 (by decide) g389 (fun _ h => h) rfl d_B_finish_9 ?_
  refine m_cq hw (va_runV (As := [.int ((sI σ) 1 o)]) (rest := []) S (c_B_side l γ M β σ.2.1 hC.book (sI σ 1 o)) (m_cwV 1 S g181 g183 g0 g41 g184 rfl rfl ⟨by decide +kernel, by decide +kernel, by decide +kernel⟩ ⟨(Nat.le_of_ble_eq_true rfl), (Nat.le_of_ble_eq_true rfl)⟩) (hw.preV hC.book cl_B.1) rfl rfl hl.1 rfl (lv_room (Nat.le_of_ble_eq_true rfl)) d_B_finish_12 ⟨(Nat.zero_le _), (Nat.zero_le _)⟩) (fun r1 M1 H locs hp hw => ?_)
  obtain ⟨rfl, hM1⟩ := hp
  rw [hM1] at hw
  have hg := hw.noe
  obtain ⟨r0, hA0⟩ := hC.list (sj_or (sI σ 1 o))
  have hE0 : mEl M 2 ((L (sj (sI σ 1 o))).map oa) := hC.ord.el hL
  obtain ⟨hk1, hk2⟩ := map_first (oa := oa) hk hnd hL (fun a b ha hb e => hC.ord.inj hn ha hb e)
  refine lv_aload_n S.1 S.2.1 d_B_finish_15 rfl (lv_at hl 1 rfl) ?_
  refine m_cv hw (va_runV (As := [.ref (oa o)]) (rest := []) S (c_S_leave l γ M (bsd β (sj (sI σ 1 o))) (bal β (sj (sI σ 1 o))) r0 (cp (sj (sI σ 1 o))) ((L (sj (sI σ 1 o))).map oa) (hC.side (sj_or _)) hA0 hE0 (oa o) _ _ _ _ _ _ _ _ _ _ hOo k hk1 hk2 (by rw [List.length_map]; exact hlen)) (m_cwV 1 S g567 g568 g569 g45 g570 rfl rfl ⟨by decide +kernel, by decide +kernel, by decide +kernel⟩ ⟨(Nat.le_of_ble_eq_true rfl), (Nat.le_of_ble_eq_true rfl)⟩) (hw.preV (hC.side (sj_or _)) cl_S.1) rfl rfl hl.1 rfl (lv_room (Nat.le_of_ble_eq_true rfl)) d_B_finish_16 ⟨(Nat.zero_le _), (Nat.zero_le _)⟩) (fun M1 H locs hp hw => ?_)
  obtain ⟨hA9, hF9⟩ := hp
  rw [← map_del] at hA9
  rw [← oc_5] at hF9
  obtain ⟨hC1, hf1⟩ := hC.setO hn ho (J := s1 (sI σ) 5 o (-1)) (fun f x hx => s1_o hx) (e := .inr (2, oc (s1 (sI σ) 5 o (-1)) o)) rfl
  have hg1 := mU_g (e := .inr (2, oc (s1 (sI σ) 5 o (-1)) o)) hg hOo
  obtain ⟨hC2, hf2⟩ := hC1.line hg1 (sj_or _) (hA0.setO hOo (by decide)) hA9 hF9
  rw [up_same] at hC2
  refine lv_aload_n S.1 S.2.1 d_B_finish_19 rfl (lv_at hl 1 rfl) ?_
  refine lv_iconst (v := 0) S.1 S.2.1 d_B_finish_20 (by decide) ?_
  refine m_put S hw cl_O (hC2.ord o ho) 6 (by decide) g398 (fun _ h => h) rfl rfl rfl (Nat.le_of_ble_eq_true rfl) d_B_finish_21 (fun H locs hw => ?_)
  have hw : mW γ (mU M1 (oa o) (.inr (2, [.int (nI o), .int ((s1 (sI σ) 5 o (-1)) 0 o), .int ((s1 (sI σ) 5 o (-1)) 1 o), .int ((s1 (sI σ) 5 o (-1)) 8 o), .int ((s1 (sI σ) 5 o (-1)) 6 o), .int ((s1 (sI σ) 5 o (-1)) 2 o), .int 0, .int ((s1 (sI σ) 5 o (-1)) 4 o), .int ((s1 (sI σ) 5 o (-1)) 5 o), .int ((s1 (sI σ) 5 o (-1)) 7 o)]))) s H locs := hw
  rw [← oc_3] at hw
  obtain ⟨hC3, hf3⟩ := hC2.setO hn ho (J := s1 (s1 (sI σ) 5 o (-1)) 3 o 0) (fun f x hx => s1_o hx) (e := .inr (2, oc (s1 (s1 (sI σ) 5 o (-1)) 3 o 0) o)) rfl
  refine lv_aload_n S.1 S.2.1 d_B_finish_24 rfl (lv_at hl 1 rfl) ?_
  refine lv_iconst (v := 0) S.1 S.2.1 d_B_finish_25 (by decide) ?_
  refine m_put S hw cl_O (hC3.ord o ho) 7 (by decide) g400 (fun _ h => h) rfl rfl rfl (Nat.le_of_ble_eq_true rfl) d_B_finish_26 (fun H locs hw => ?_)
  have hw : mW γ (mU (mU M1 (oa o) (.inr (2, oc (s1 (s1 (sI σ) 5 o (-1)) 3 o 0) o))) (oa o) (.inr (2, [.int (nI o), .int ((s1 (s1 (sI σ) 5 o (-1)) 3 o 0) 0 o), .int ((s1 (s1 (sI σ) 5 o (-1)) 3 o 0) 1 o), .int ((s1 (s1 (sI σ) 5 o (-1)) 3 o 0) 8 o), .int ((s1 (s1 (sI σ) 5 o (-1)) 3 o 0) 6 o), .int ((s1 (s1 (sI σ) 5 o (-1)) 3 o 0) 2 o), .int ((s1 (s1 (sI σ) 5 o (-1)) 3 o 0) 3 o), .int 0, .int ((s1 (s1 (sI σ) 5 o (-1)) 3 o 0) 5 o), .int ((s1 (s1 (sI σ) 5 o (-1)) 3 o 0) 7 o)]))) s H locs := hw
  rw [← oc_4] at hw
  obtain ⟨hC4, hf4⟩ := hC3.setO hn ho (J := s1 (s1 (s1 (sI σ) 5 o (-1)) 3 o 0) 4 o 0) (fun f x hx => s1_o hx) (e := .inr (2, oc (s1 (s1 (s1 (sI σ) 5 o (-1)) 3 o 0) 4 o 0) o)) rfl
  exact m_vret S hlk hr hw (⟨by rw [← xEnd_eq]; exact hC4, hf1.tr (hf2.tr (hf3.tr hf4))⟩) (Nat.le_refl _) (Nat.le_refl _) d_B_finish_29
set_option maxHeartbeats 4000000 in
set_option maxRecDepth 100000 in
theorem c_B_finishN (l : Launch) (γ : mG) (M : mMap) (β : BK) (oa cp : Nat → Nat) (L : Nat → List Nat) (σ : St) (hC : CB γ M β oa cp L σ) (hn : sn σ ≤ 250) (o : Nat) (ho : o < sn σ) (hr5 : sI σ 5 o = -1) : Met l y_B_finish w_B_finish ({ frames := 4, cells := 0, slots := 0, locals := 116 } : Room) (mPc γ M [.ref (bx β), .ref (oa o)]) (mQv γ (fun M' => CB γ M' β oa cp L (xEnd σ o) ∧ frC M M')) 0 0 (mA (gz γ)) := by
  refine m_enter (by decide) (Nat.le_of_ble_eq_true rfl) ?_
  intro p e s m below meth c ls S hr hlk hnm hl hw
  have hl : lv_has ls 2 [(0, .ref (bx β)), (1, .ref (oa o))] := hl
  have hOo := hC.ord o ho
  refine lv_aload_n S.1 S.2.1 d_B_finish_0 rfl (lv_at hl 1 rfl) ?_
  refine m_ci hw (va_runV (As := []) (rest := []) S (c_O_rests l γ M (oa o) _ _ _ _ _ _ _ _ _ _ hOo) (m_cwV 0 S g270 g244 g245 g54 g246 rfl rfl ⟨by decide +kernel, by decide +kernel, by decide +kernel⟩ ⟨(Nat.le_of_ble_eq_true rfl), (Nat.le_of_ble_eq_true rfl)⟩) (hw.preV hOo cl_O.1) rfl rfl hl.1 rfl (lv_room (Nat.le_of_ble_eq_true rfl)) d_B_finish_1 ⟨(Nat.zero_le _), (Nat.zero_le _)⟩) (fun r1 M1 H locs hp hw => ?_)
  obtain ⟨rfl, hM1⟩ := hp
  rw [hM1] at hw
  refine lv_if_eq (tgt := 19) S.1 S.2.1 d_B_finish_4 rfl (fun _ => ?_) (fun h => absurd (b2i_0.mpr (decide_eq_false (fun h => h hr5))) h)
  refine lv_aload_n S.1 S.2.1 d_B_finish_19 rfl (lv_at hl 1 rfl) ?_
  refine lv_iconst (v := 0) S.1 S.2.1 d_B_finish_20 (by decide) ?_
  refine m_put S hw cl_O hOo 6 (by decide) g398 (fun _ h => h) rfl rfl rfl (Nat.le_of_ble_eq_true rfl) d_B_finish_21 (fun H locs hw => ?_)
  have hw : mW γ (mU M (oa o) (.inr (2, [.int (nI o), .int ((sI σ) 0 o), .int ((sI σ) 1 o), .int ((sI σ) 8 o), .int ((sI σ) 6 o), .int ((sI σ) 2 o), .int 0, .int ((sI σ) 4 o), .int ((sI σ) 5 o), .int ((sI σ) 7 o)]))) s H locs := hw
  rw [← oc_3] at hw
  obtain ⟨hC3, hf3⟩ := hC.setO hn ho (J := s1 (sI σ) 3 o 0) (fun f x hx => s1_o hx) (e := .inr (2, oc (s1 (sI σ) 3 o 0) o)) rfl
  refine lv_aload_n S.1 S.2.1 d_B_finish_24 rfl (lv_at hl 1 rfl) ?_
  refine lv_iconst (v := 0) S.1 S.2.1 d_B_finish_25 (by decide) ?_
  refine m_put S hw cl_O (hC3.ord o ho) 7 (by decide) g400 (fun _ h => h) rfl rfl rfl (Nat.le_of_ble_eq_true rfl) d_B_finish_26 (fun H locs hw => ?_)
  have hw : mW γ (mU (mU M (oa o) (.inr (2, oc (s1 (sI σ) 3 o 0) o))) (oa o) (.inr (2, [.int (nI o), .int ((s1 (sI σ) 3 o 0) 0 o), .int ((s1 (sI σ) 3 o 0) 1 o), .int ((s1 (sI σ) 3 o 0) 8 o), .int ((s1 (sI σ) 3 o 0) 6 o), .int ((s1 (sI σ) 3 o 0) 2 o), .int ((s1 (sI σ) 3 o 0) 3 o), .int 0, .int ((s1 (sI σ) 3 o 0) 5 o), .int ((s1 (sI σ) 3 o 0) 7 o)]))) s H locs := hw
  rw [← oc_4] at hw
  obtain ⟨hC4, hf4⟩ := hC3.setO hn ho (J := s1 (s1 (sI σ) 3 o 0) 4 o 0) (fun f x hx => s1_o hx) (e := .inr (2, oc (s1 (s1 (sI σ) 3 o 0) 4 o 0) o)) rfl
  exact m_vret S hlk hr hw (⟨by rw [← xEnd_eq0 hr5]; exact hC4, hf3.tr hf4⟩) (Nat.le_refl _) (Nat.le_refl _) d_B_finish_29
set_option maxHeartbeats 4000000 in
set_option maxRecDepth 100000 in
theorem c_B_exchange (l : Launch) (γ : mG) (M : mMap) (β : BK) (oa cp : Nat → Nat) (L : Nat → List Nat) (σ : St) (hC : CB γ M β oa cp L σ) (hn : sn σ ≤ 250) (a b : Nat) (ha : a < sn σ) (hb : b < sn σ) (hab : a ≠ b) (htn : stn σ < 30000) (p0 q0 : Int32) : Met l y_B_exchange w_B_exchange ({ frames := 8, cells := 1 + gN (cp 3) (stn σ), slots := 4 + sN (cp 3) (stn σ), locals := 203 } : Room) (mPc γ M [.ref (bx β), .ref (oa a), .ref (oa b), .int p0, .int q0]) (mQv γ (fun M' => CB γ M' β oa (va_up cp 3 (cN (cp 3) (stn σ))) L ((sn σ, gv (gv (sI σ) a q0) b q0), σ.2.1, stn σ + 1, dT (sT σ) (stn σ) (nI a) (nI b) p0 q0, sal σ + q0.toInt64) ∧ frC M M')) (1 + gN (cp 3) (stn σ)) (4 + sN (cp 3) (stn σ)) (mA (gz γ)) := by
  refine m_enter (by decide) (Nat.le_of_ble_eq_true rfl) ?_
  intro p e s m below meth c ls S hr hlk hnm hl hw
  have hl : lv_has ls 5 [(0, .ref (bx β)), (1, .ref (oa a)), (2, .ref (oa b)), (3, .int p0), (4, .int q0)] := hl
  refine lv_aload_n S.1 S.2.1 d_B_exchange_0 rfl (lv_at hl 1 rfl) ?_
  refine lv_iload S.1 S.2.1 d_B_exchange_1 (lv_at hl 4 rfl) ?_
  refine m_cv hw (va_runV (As := [.int q0]) (rest := []) S (c_O_give l γ M (oa a) _ _ _ _ _ _ _ _ _ _ (hC.ord a ha) q0) (m_cwV 1 S g531 g532 g533 g54 g534 rfl rfl ⟨by decide +kernel, by decide +kernel, by decide +kernel⟩ ⟨(Nat.le_of_ble_eq_true rfl), (Nat.le_of_ble_eq_true rfl)⟩) (hw.preV (hC.ord a ha) cl_O.1) rfl rfl hl.1 rfl (lv_room (Nat.le_of_ble_eq_true rfl)) d_B_exchange_3 ⟨(Nat.zero_le _), (Nat.zero_le _)⟩) (fun M1 H locs hp hw => ?_)
  rw [hp] at hw
  rw [← oc_gv] at hw
  obtain ⟨hC1, hf1⟩ := hC.setO hn ha (J := gv (sI σ) a q0) (fun f x hx => gv_o hx) (e := .inr (2, oc (gv (sI σ) a q0) a)) rfl
  refine lv_aload_n S.1 S.2.1 d_B_exchange_6 rfl (lv_at hl 2 rfl) ?_
  refine lv_iload S.1 S.2.1 d_B_exchange_7 (lv_at hl 4 rfl) ?_
  refine m_cv hw (va_runV (As := [.int q0]) (rest := []) S (c_O_give l γ (mU M (oa a) (.inr (2, oc (gv (sI σ) a q0) a))) (oa b) _ _ _ _ _ _ _ _ _ _ (hC1.ord b hb) q0) (m_cwV 1 S g531 g532 g533 g54 g534 rfl rfl ⟨by decide +kernel, by decide +kernel, by decide +kernel⟩ ⟨(Nat.le_of_ble_eq_true rfl), (Nat.le_of_ble_eq_true rfl)⟩) (hw.preV (hC1.ord b hb) cl_O.1) rfl rfl hl.1 rfl (lv_room (Nat.le_of_ble_eq_true rfl)) d_B_exchange_9 ⟨(Nat.zero_le _), (Nat.zero_le _)⟩) (fun M1 H locs hp hw => ?_)
  rw [hp] at hw
  rw [← oc_gv] at hw
  obtain ⟨hC2, hf2⟩ := hC1.setO hn hb (J := gv (gv (sI σ) a q0) b q0) (fun f x hx => gv_o hx) (e := .inr (2, oc (gv (gv (sI σ) a q0) b q0) b)) rfl
  have hg := hw.noe
  obtain ⟨r3, xs, hA3, hE3, hxl, hT⟩ := hC2.trade hg
  have hxl : xs.length = stn σ := hxl
  refine lv_aload_n S.1 S.2.1 d_B_exchange_12 rfl (lv_at hl 0 rfl) ?_
  refine m_get S hw cl_B hC2.book 3 (by decide) g148 (fun _ h => h) rfl d_B_exchange_13 ?_
  refine lv_aload_n S.1 S.2.1 d_B_exchange_16 rfl (lv_at hl 1 rfl) ?_
  refine m_get S hw cl_O (hC2.ord a ha) 0 (by decide) g385 (fun _ h => h) rfl d_B_exchange_17 ?_
  refine lv_aload_n S.1 S.2.1 d_B_exchange_20 rfl (lv_at hl 2 rfl) ?_
  refine m_get S hw cl_O (hC2.ord b hb) 0 (by decide) g385 (fun _ h => h) rfl d_B_exchange_21 ?_
  refine lv_iload_n S.1 S.2.1 d_B_exchange_24 rfl (lv_at hl 3 rfl) ?_
  refine lv_iload S.1 S.2.1 d_B_exchange_25 (lv_at hl 4 rfl) ?_
  refine m_cv hw (va_runV (As := [.int (nI a), .int (nI b), .int p0, .int q0]) (rest := []) S (c_G_keep l γ (mU (mU M (oa a) (.inr (2, oc (gv (sI σ) a q0) a))) (oa b) (.inr (2, oc (gv (gv (sI σ) a q0) b q0) b))) (btl β) (bal β 3) r3 (cp 3) (sal σ) xs hC2.log hA3 hE3 (by omega) (nI a) (nI b) p0 q0) (m_cwV 4 S g535 g536 g537 g46 g538 rfl rfl ⟨by decide +kernel, by decide +kernel, by decide +kernel⟩ ⟨(Nat.le_of_ble_eq_true rfl), (Nat.le_of_ble_eq_true rfl)⟩) (hw.preV hC2.log cl_G.1) rfl rfl hl.1 rfl (lv_room (Nat.le_of_ble_eq_true rfl)) d_B_exchange_27 ⟨(by show 0 + 0 + 0 + (1 + gN (cp 3) xs.length) ≤ 1 + gN (cp 3) (stn σ); rw [hxl]; omega), (by show 0 + 0 + 0 + (4 + sN (cp 3) xs.length) ≤ 4 + sN (cp 3) (stn σ); rw [hxl]; omega)⟩) (fun M1 H locs hp hw => ?_)
  obtain ⟨q, r9, hq, hzq, hA9, hF9⟩ := hp
  obtain ⟨hC3, hf3⟩ := hT q r9 (nI a) (nI b) p0 q0 M1 (dT (sT σ) (stn σ) (nI a) (nI b) p0 q0) hq (hw.gz q hzq) (fun k i _ hi => dT_old (by have : i < stn σ := hi; omega)) dT_0 dT_1 dT_2 dT_3 hA9 hF9
  exact m_vret S hlk hr hw (⟨hC3, hf1.tr (hf2.tr hf3)⟩) (by show 0 + 0 + 0 + (1 + gN (cp 3) xs.length) ≤ 1 + gN (cp 3) (stn σ); rw [hxl]; omega) (by show 0 + 0 + 0 + (4 + sN (cp 3) xs.length) ≤ 4 + sN (cp 3) (stn σ); rw [hxl]; omega) d_B_exchange_30
