/-! CallBook.astray -/
set_option maxHeartbeats 4000000 in
set_option maxRecDepth 100000 in
theorem c_B_couldTrade (l : Launch) (γ : mG) (M : mMap) (β : BK) (oa cp : Nat → Nat) (L : Nat → List Nat) (σ : St) (hC : CB γ M β oa cp L σ) (hI : Inv0 σ) (hL : LN σ L) (o : Nat) (ho : o < sn σ) : Met l y_B_couldTrade w_B_couldTrade ({ frames := 4, cells := 0, slots := 0, locals := 84 } : Room) (mPc γ M [.ref (bx β), .ref (oa o)]) (mQi γ (fun r M' => r = b2i (ctd σ o) ∧ M' = M)) 0 0 (mA (gz γ)) := by
  refine m_enter (by decide) (Nat.le_of_ble_eq_true rfl) ?_
  intro p e s m below meth c ls S hr hlk hnm hl hw
  have hl : lv_has ls 3 [(0, .ref (bx β)), (1, .ref (oa o))] := hl
  have hOo := hC.ord o ho
  refine lv_aload_n S.1 S.2.1 d_B_couldTrade_0 rfl (lv_at hl 0 rfl) ?_
  refine lv_aload_n S.1 S.2.1 d_B_couldTrade_1 rfl (lv_at hl 1 rfl) ?_
  refine m_get S hw cl_O hOo 2 (by decide) g389 (fun _ h => h) rfl d_B_couldTrade_2 ?_
  obtain ⟨r0, hA2⟩ := hC.list (sj_or (opp (sI σ 1 o)))
  have hLj : Line (sI σ) (sn σ) (opp (sI σ 1 o)) (L (sj (opp (sI σ 1 o)))) := sj_val (opp_or _) hL
  have hhd := hLj.hd hI.2.1
  have hE2 : mEl M 2 ((L (sj (opp (sI σ 1 o)))).map oa) := hC.ord.el (fun y hy => ((hLj.1 y).mp hy).1)
  have hlen2 : ((L (sj (opp (sI σ 1 o)))).map oa).length ≤ 250 := by rw [List.length_map]; exact hLj.len hI.1
  have cont : ∀ (H : Heap) (locs : List Loc) (ls : Array Slot), lv_has ls 3 [(0, .ref (bx β)), (1, .ref (oa o))] → mW γ M s H locs → W p l e ({ frames := 4, cells := 0, slots := 0, locals := 84 } : Room) s m #[.ref (bx β), .ref (oa o)] below meth c H locs 0 0 (MQ below (mQi γ (fun r M' => r = b2i (ctd σ o) ∧ M' = M)) #[.ref (bx β), .ref (oa o)] s 0 0 (mA (gz γ))) (F0 m 13 ls [.int (opp (sI σ 1 o)), .ref (bx β)]) := by
    intro H locs ls hl hw
    refine m_cq hw (va_runV (As := [.int (opp (sI σ 1 o))]) (rest := []) S (c_B_side l γ M β σ.2.1 hC.book (opp (sI σ 1 o))) (m_cwV 1 S g181 g183 g0 g41 g184 rfl rfl ⟨by decide +kernel, by decide +kernel, by decide +kernel⟩ ⟨(Nat.le_of_ble_eq_true rfl), (Nat.le_of_ble_eq_true rfl)⟩) (hw.preV hC.book cl_B.1) rfl rfl hl.1 rfl (lv_room (Nat.le_of_ble_eq_true rfl)) d_B_couldTrade_13 ⟨(Nat.zero_le _), (Nat.zero_le _)⟩) (fun r1 M1 H locs hp hw => ?_)
    obtain ⟨rfl, hM1⟩ := hp
    rw [hM1] at hw
    refine m_cq hw (va_runV (As := []) (rest := []) S (c_S_first l γ M (bsd β (sj (opp (sI σ 1 o)))) (bal β (sj (opp (sI σ 1 o)))) r0 (cp (sj (opp (sI σ 1 o)))) ((L (sj (opp (sI σ 1 o)))).map oa) (hC.side (sj_or _)) hA2 hE2 hlen2) (m_cwV 0 S g252 g253 g254 g45 g255 rfl rfl ⟨by decide +kernel, by decide +kernel, by decide +kernel⟩ ⟨(Nat.le_of_ble_eq_true rfl), (Nat.le_of_ble_eq_true rfl)⟩) (hw.preV (hC.side (sj_or _)) cl_S.1) rfl rfl hl.1 rfl (lv_room (Nat.le_of_ble_eq_true rfl)) d_B_couldTrade_16 ⟨(Nat.zero_le _), (Nat.zero_le _)⟩) (fun r1 M1 H locs hp hw => ?_)
    obtain ⟨hres, hM1⟩ := hp
    rw [hM1] at hw
    rw [List.head?_map, ← hhd] at hres
    rcases hh : fst (sI σ) (opp (sI σ 1 o)) (sn σ) with _ | r1
    · rw [hh] at hres
      subst hres
      refine W.eq (g2 := F0 m 19 ls [.null]) rfl ?_
      refine lv_astore_nN S.1 S.2.1 d_B_couldTrade_19 rfl hl (by decide) rfl (fun ls hl => ?_)
      have hl : lv_has ls 3 [(2, .null), (0, .ref (bx β)), (1, .ref (oa o))] := hl
      refine lv_aload_n S.1 S.2.1 d_B_couldTrade_20 rfl (lv_at hl 1 rfl) ?_
      refine m_get S hw cl_B hC.book 5 (by decide) g150 (fun _ h => h) rfl d_B_couldTrade_21 ?_
      refine lv_iconst (v := 1) S.1 S.2.1 d_B_couldTrade_24 (by decide) ?_
      refine lv_icmp_ne (tgt := 54) S.1 S.2.1 d_B_couldTrade_25 rfl (fun h25 => ?_) (fun h25 => ?_)
      · refine lv_iconst (v := 0) S.1 S.2.1 d_B_couldTrade_54 (by decide) ?_
        exact m_iret S hlk hr rfl hw (⟨(congrArg b2i (show ctd σ o = false from by unfold ctd; rw [decide_eq_false h25, Bool.false_and, Bool.false_and])).symm, rfl⟩) (Nat.le_refl _) (Nat.le_refl _) d_B_couldTrade_55
      · refine lv_aload_n S.1 S.2.1 d_B_couldTrade_28 rfl (lv_at hl 1 rfl) ?_
        refine m_get S hw cl_B hC.book 7 (by decide) g152 (fun _ h => h) rfl d_B_couldTrade_29 ?_
        refine lv_if_ne (tgt := 54) S.1 S.2.1 d_B_couldTrade_32 rfl (fun h32 => ?_) (fun h32 => ?_)
        · refine lv_iconst (v := 0) S.1 S.2.1 d_B_couldTrade_54 (by decide) ?_
          exact m_iret S hlk hr rfl hw (⟨(congrArg b2i (show ctd σ o = false from by unfold ctd; rw [decide_eq_false h32, Bool.and_false, Bool.false_and])).symm, rfl⟩) (Nat.le_refl _) (Nat.le_refl _) d_B_couldTrade_55
        · refine lv_aload_nN S.1 S.2.1 d_B_couldTrade_35 rfl (lv_at hl 0 rfl) ?_
          refine lv_ifnullN S.1 S.2.1 d_B_couldTrade_36 rfl ?_
          refine lv_iconst (v := 0) S.1 S.2.1 d_B_couldTrade_54 (by decide) ?_
          exact m_iret S hlk hr rfl hw (⟨(congrArg b2i (show ctd σ o = false from by unfold ctd; rw [hh]; exact Bool.and_false _)).symm, rfl⟩) (Nat.le_refl _) (Nat.le_refl _) d_B_couldTrade_55
    · rw [hh] at hres
      subst hres
      refine W.eq (g2 := F0 m 19 ls [.ref (oa r1)]) rfl ?_
      obtain ⟨hr1, -, -⟩ := fst_on hI.b hL (opp_or _) hh
      refine lv_astore_n S.1 S.2.1 d_B_couldTrade_19 rfl hl (by decide) rfl (fun ls hl => ?_)
      have hl : lv_has ls 3 [(2, .ref (oa r1)), (0, .ref (bx β)), (1, .ref (oa o))] := hl
      refine lv_aload_n S.1 S.2.1 d_B_couldTrade_20 rfl (lv_at hl 1 rfl) ?_
      refine m_get S hw cl_B hC.book 5 (by decide) g150 (fun _ h => h) rfl d_B_couldTrade_21 ?_
      refine lv_iconst (v := 1) S.1 S.2.1 d_B_couldTrade_24 (by decide) ?_
      refine lv_icmp_ne (tgt := 54) S.1 S.2.1 d_B_couldTrade_25 rfl (fun h25 => ?_) (fun h25 => ?_)
      · refine lv_iconst (v := 0) S.1 S.2.1 d_B_couldTrade_54 (by decide) ?_
        exact m_iret S hlk hr rfl hw (⟨(congrArg b2i (show ctd σ o = false from by unfold ctd; rw [decide_eq_false h25, Bool.false_and, Bool.false_and])).symm, rfl⟩) (Nat.le_refl _) (Nat.le_refl _) d_B_couldTrade_55
      · refine lv_aload_n S.1 S.2.1 d_B_couldTrade_28 rfl (lv_at hl 1 rfl) ?_
        refine m_get S hw cl_B hC.book 7 (by decide) g152 (fun _ h => h) rfl d_B_couldTrade_29 ?_
        refine lv_if_ne (tgt := 54) S.1 S.2.1 d_B_couldTrade_32 rfl (fun h32 => ?_) (fun h32 => ?_)
        · refine lv_iconst (v := 0) S.1 S.2.1 d_B_couldTrade_54 (by decide) ?_
          exact m_iret S hlk hr rfl hw (⟨(congrArg b2i (show ctd σ o = false from by unfold ctd; rw [decide_eq_false h32, Bool.and_false, Bool.false_and])).symm, rfl⟩) (Nat.le_refl _) (Nat.le_refl _) d_B_couldTrade_55
        · refine lv_aload_n S.1 S.2.1 d_B_couldTrade_35 rfl (lv_at hl 0 rfl) ?_
          refine lv_ifnull S.1 S.2.1 d_B_couldTrade_36 ?_
          refine lv_aload_n S.1 S.2.1 d_B_couldTrade_39 rfl (lv_at hl 2 rfl) ?_
          refine lv_aload_n S.1 S.2.1 d_B_couldTrade_40 rfl (lv_at hl 0 rfl) ?_
          refine m_get S hw cl_O (hC.ord r1 hr1) 5 (by decide) g395 (fun _ h => h) rfl d_B_couldTrade_41 ?_
          refine m_ci hw (va_runV (As := [.int ((sI σ) 2 r1)]) (rest := []) S (c_O_takes l γ M (oa o) _ _ _ _ _ _ _ _ _ _ hOo (sI σ 2 r1)) (m_cwV 1 S g262 g263 g264 g54 g265 rfl rfl ⟨by decide +kernel, by decide +kernel, by decide +kernel⟩ ⟨(Nat.le_of_ble_eq_true rfl), (Nat.le_of_ble_eq_true rfl)⟩) (hw.preV hOo cl_O.1) rfl rfl hl.1 rfl (lv_room (Nat.le_of_ble_eq_true rfl)) d_B_couldTrade_44 ⟨(Nat.zero_le _), (Nat.zero_le _)⟩) (fun r1 M1 H locs hp hw => ?_)
          obtain ⟨rfl, hM1⟩ := hp
          rw [hM1] at hw
          refine W.eq (g2 := F0 m 47 ls [.int (b2i (tk (sI σ) o (sI σ 2 r1)))]) rfl ?_
          refine lv_if_eq (tgt := 54) S.1 S.2.1 d_B_couldTrade_47 rfl (fun h47 => ?_) (fun h47 => ?_)
          · refine lv_iconst (v := 0) S.1 S.2.1 d_B_couldTrade_54 (by decide) ?_
            exact m_iret S hlk hr rfl hw (⟨(congrArg b2i (show ctd σ o = false from by unfold ctd; rw [hh]; show (_ && tk (sI σ) o (sI σ 2 r1)) = false; rw [b2i_0.mp h47, Bool.and_false])).symm, rfl⟩) (Nat.le_refl _) (Nat.le_refl _) d_B_couldTrade_55
          · refine lv_iconst (v := 1) S.1 S.2.1 d_B_couldTrade_50 (by decide) ?_
            refine lv_goto (tgt := 55) S.1 S.2.1 d_B_couldTrade_51 rfl ?_
            exact m_iret S hlk hr rfl hw (⟨(congrArg b2i (show ctd σ o = true from by unfold ctd; rw [decide_eq_true h25, decide_eq_true h32, hh]; exact b2i_n0.mp h47)).symm, rfl⟩) (Nat.le_refl _) (Nat.le_refl _) d_B_couldTrade_55
  refine lv_if_ne (tgt := 12) S.1 S.2.1 d_B_couldTrade_5 rfl (fun h5 => ?_) (fun h5 => ?_)
  · refine lv_iconst (v := 0) S.1 S.2.1 d_B_couldTrade_12 (by decide) ?_
    refine W.eq (g2 := F0 m 13 ls [.int (opp (sI σ 1 o)), .ref (bx β)]) (congrArg (fun z => F0 m 13 ls [.int z, .ref (bx β)]) (show (0 : Int32) = opp (sI σ 1 o) from (if_neg h5).symm)) ?_
    exact cont _ _ ls hl hw
  · refine lv_iconst (v := 1) S.1 S.2.1 d_B_couldTrade_8 (by decide) ?_
    refine lv_goto (tgt := 13) S.1 S.2.1 d_B_couldTrade_9 rfl ?_
    refine W.eq (g2 := F0 m 13 ls [.int (opp (sI σ 1 o)), .ref (bx β)]) (congrArg (fun z => F0 m 13 ls [.int z, .ref (bx β)]) (show (1 : Int32) = opp (sI σ 1 o) from (if_pos h5).symm)) ?_
    exact cont _ _ ls hl hw
set_option maxHeartbeats 4000000 in
set_option maxRecDepth 100000 in
theorem c_B_astrayInLine (l : Launch) (γ : mG) (M : mMap) (β : BK) (oa cp : Nat → Nat) (L : Nat → List Nat) (σ : St) (hC : CB γ M β oa cp L σ) (hI : Inv0 σ) (hL : LN σ L) (hX : NX σ) (b0 : Int32) (hb0 : b0 = 0 ∨ b0 = 1) : Met l y_B_astrayInLine w_B_astrayInLine ({ frames := 5, cells := 0, slots := 0, locals := 106 } : Room) (mPc γ M [.ref (bx β), .int b0]) (mQi γ (fun r M' => r = 0 ∧ M' = M)) 0 0 (mA (gz γ)) := by
  refine m_enter (by decide) (Nat.le_of_ble_eq_true rfl) ?_
  intro p e s m below meth c ls S hr hlk hnm hl hw
  have hl : lv_has ls 7 [(0, .ref (bx β)), (1, .int b0)] := hl
  obtain ⟨r0, hA0⟩ := hC.list (sj_or b0)
  obtain ⟨⟨md0, hl0⟩, -⟩ := id hA0
  have hLj : Line (sI σ) (sn σ) b0 (L (sj b0)) := sj_val hb0 hL
  have hml : ((L (sj b0)).map oa).length = (L (sj b0)).length := List.length_map _
  have hlen : (L (sj b0)).length ≤ 250 := hLj.len hI.1
  refine lv_aload_n S.1 S.2.1 d_B_astrayInLine_0 rfl (lv_at hl 0 rfl) ?_
  refine lv_iload_n S.1 S.2.1 d_B_astrayInLine_1 rfl (lv_at hl 1 rfl) ?_
  refine m_cq hw (va_runV (As := [.int b0]) (rest := []) S (c_B_side l γ M β σ.2.1 hC.book b0) (m_cwV 1 S g181 g183 g0 g41 g184 rfl rfl ⟨by decide +kernel, by decide +kernel, by decide +kernel⟩ ⟨(Nat.le_of_ble_eq_true rfl), (Nat.le_of_ble_eq_true rfl)⟩) (hw.preV hC.book cl_B.1) rfl rfl hl.1 rfl (lv_room (Nat.le_of_ble_eq_true rfl)) d_B_astrayInLine_2 ⟨(Nat.zero_le _), (Nat.zero_le _)⟩) (fun r1 M1 H locs hp hw => ?_)
  obtain ⟨rfl, hM1⟩ := hp
  rw [hM1] at hw
  refine m_get S hw cl_S (hC.side (sj_or _)) 0 (by decide) g105 (fun _ h => h) rfl d_B_astrayInLine_5 ?_
  refine lv_astore_n S.1 S.2.1 d_B_astrayInLine_8 rfl hl (by decide) rfl (fun ls hl => ?_)
  have hl : lv_has ls 7 [(2, .ref (bal β (sj b0))), (0, .ref (bx β)), (1, .int b0)] := hl
  refine lv_iconst (v := 0) S.1 S.2.1 d_B_astrayInLine_9 (by decide) ?_
  refine lv_istore_n S.1 S.2.1 d_B_astrayInLine_10 rfl hl (by decide) rfl (fun ls hl => ?_)
  have hl : lv_has ls 7 [(3, .int 0), (2, .ref (bal β (sj b0))), (0, .ref (bx β)), (1, .int b0)] := hl
  refine lv_iconst (v := 0) S.1 S.2.1 d_B_astrayInLine_11 (by decide) ?_
  refine lv_istore S.1 S.2.1 d_B_astrayInLine_12 hl (by decide) rfl (fun ls hl => ?_)
  have hl : lv_has ls 7 [(4, .int 0), (3, .int 0), (2, .ref (bal β (sj b0))), (0, .ref (bx β)), (1, .int b0)] := hl
  have loop : ∀ (d i0 : Nat) (H : Heap) (locs : List Loc) (ls : Array Slot), i0 + d = (L (sj b0)).length → lv_has ls 7 [(4, .int (nI i0)), (3, .int 0), (2, .ref (bal β (sj b0))), (0, .ref (bx β)), (1, .int b0)] → mW γ M s H locs → W p l e ({ frames := 5, cells := 0, slots := 0, locals := 106 } : Room) s m #[.ref (bx β), .int b0] below meth c H locs 0 0 (MQ below (mQi γ (fun r M' => r = 0 ∧ M' = M)) #[.ref (bx β), .int b0] s 0 0 (mA (gz γ))) (F0 m 14 ls []) := by
    intro d
    induction d with
    | zero =>
      intro i0 H locs ls hi hl hw
      refine lv_iload S.1 S.2.1 d_B_astrayInLine_14 (lv_at hl 0 rfl) ?_
      refine lv_aload_n S.1 S.2.1 d_B_astrayInLine_16 rfl (lv_at hl 2 rfl) ?_
      refine m_ci hw (va_runV (As := []) (rest := [.int (nI i0)]) S (c_AL_size l γ M (bal β (sj b0)) md0 _ _ hl0) (m_cwV 0 S g185 g186 g187 g44 g188 rfl rfl ⟨by decide +kernel, by decide +kernel, by decide +kernel⟩ ⟨(Nat.le_of_ble_eq_true rfl), (Nat.le_of_ble_eq_true rfl)⟩) (hw.preV hl0 cl_AL.1) rfl rfl hl.1 rfl (lv_room (Nat.le_of_ble_eq_true rfl)) d_B_astrayInLine_17 ⟨(Nat.zero_le _), (Nat.zero_le _)⟩) (fun r1 M1 H locs hp hw => ?_)
      obtain ⟨rfl, hM1⟩ := hp
      rw [hM1] at hw
      refine lv_icmp_ge (tgt := 105) S.1 S.2.1 d_B_astrayInLine_20 rfl (fun _ => ?_) (fun h => absurd (nI_le (by omega) (by omega)) h)
      refine lv_iload_n S.1 S.2.1 d_B_astrayInLine_105 rfl (lv_at hl 1 rfl) ?_
      exact m_iret S hlk hr rfl hw (⟨rfl, rfl⟩) (Nat.le_refl _) (Nat.le_refl _) d_B_astrayInLine_106
    | succ d ih =>
      intro i0 H locs ls hi hl hw
      have hbd : i0 < (L (sj b0)).length := by omega
      have hm := (hLj.1 (L (sj b0))[i0]).mp (List.getElem_mem hbd)
      have hon := onS_iff.mp hm.2
      have hwr := wrg_no (hI.2.2.1 _ hm.1).1 hon.1 (hI.2.2.2.2 _ hm.1 hon.1)
      have hct := ctd_no hI.b hL hX hm.1 hon.1
      refine lv_iload S.1 S.2.1 d_B_astrayInLine_14 (lv_at hl 0 rfl) ?_
      refine lv_aload_n S.1 S.2.1 d_B_astrayInLine_16 rfl (lv_at hl 2 rfl) ?_
      refine m_ci hw (va_runV (As := []) (rest := [.int (nI i0)]) S (c_AL_size l γ M (bal β (sj b0)) md0 _ _ hl0) (m_cwV 0 S g185 g186 g187 g44 g188 rfl rfl ⟨by decide +kernel, by decide +kernel, by decide +kernel⟩ ⟨(Nat.le_of_ble_eq_true rfl), (Nat.le_of_ble_eq_true rfl)⟩) (hw.preV hl0 cl_AL.1) rfl rfl hl.1 rfl (lv_room (Nat.le_of_ble_eq_true rfl)) d_B_astrayInLine_17 ⟨(Nat.zero_le _), (Nat.zero_le _)⟩) (fun r1 M1 H locs hp hw => ?_)
      obtain ⟨rfl, hM1⟩ := hp
      rw [hM1] at hw
      refine lv_icmp_ge (tgt := 105) S.1 S.2.1 d_B_astrayInLine_20 rfl (fun h => absurd h (nI_ge (by omega) (by omega))) (fun _ => ?_)
      refine lv_aload_n S.1 S.2.1 d_B_astrayInLine_23 rfl (lv_at hl 2 rfl) ?_
      refine lv_iload S.1 S.2.1 d_B_astrayInLine_24 (lv_at hl 0 rfl) ?_
      refine m_cq hw (va_runV (As := [.int (nI i0)]) (rest := []) S (c_AL_get l γ M (bal β (sj b0)) r0 (cp (sj b0)) ((L (sj b0)).map oa) hA0 i0 (by omega)) (m_cwV 1 S g189 g190 g191 g44 g192 rfl rfl ⟨by decide +kernel, by decide +kernel, by decide +kernel⟩ ⟨(Nat.le_of_ble_eq_true rfl), (Nat.le_of_ble_eq_true rfl)⟩) (hw.preV hl0 cl_AL.1) rfl rfl hl.1 rfl (lv_room (Nat.le_of_ble_eq_true rfl)) d_B_astrayInLine_26 ⟨(Nat.zero_le _), (Nat.zero_le _)⟩) (fun r1 M1 H locs hp hw => ?_)
      obtain ⟨rfl, hM1⟩ := hp
      rw [hM1] at hw
      have hge := map_at (oa := oa) hbd
      refine W.eq (g2 := F0 m 29 ls [.ref (oa (L (sj b0))[i0])]) (by rw [hge]; rfl) ?_
      refine m_cast S hw cl_O (hC.ord _ hm.1) g203 d_B_astrayInLine_29 ?_
      refine lv_astore S.1 S.2.1 d_B_astrayInLine_32 hl (by decide) rfl (fun ls hl => ?_)
      have hl : lv_has ls 7 [(5, .ref (oa (L (sj b0))[i0])), (4, .int (nI i0)), (3, .int 0), (2, .ref (bal β (sj b0))), (0, .ref (bx β)), (1, .int b0)] := hl
      refine lv_aload S.1 S.2.1 d_B_astrayInLine_34 (lv_at hl 0 rfl) ?_
      refine m_get S hw cl_O (hC.ord _ hm.1) 2 (by decide) g389 (fun _ h => h) rfl d_B_astrayInLine_36 ?_
      refine lv_iload_n S.1 S.2.1 d_B_astrayInLine_39 rfl (lv_at hl 5 rfl) ?_
      refine lv_icmp_ne (tgt := 67) S.1 S.2.1 d_B_astrayInLine_40 rfl (fun h => absurd hon.2 h) (fun _ => ?_)
      refine lv_iload S.1 S.2.1 d_B_astrayInLine_43 (lv_at hl 1 rfl) ?_
      refine lv_if_le (tgt := 71) S.1 S.2.1 d_B_astrayInLine_45 rfl (fun h45 => ?_) (fun h45 => ?_)
      · refine lv_iconst (v := 0) S.1 S.2.1 d_B_astrayInLine_71 (by decide) ?_
        refine lv_istore S.1 S.2.1 d_B_astrayInLine_72 hl (by decide) rfl (fun ls hl => ?_)
        have hl : lv_has ls 7 [(6, .int 0), (5, .ref (oa (L (sj b0))[i0])), (4, .int (nI i0)), (3, .int 0), (2, .ref (bal β (sj b0))), (0, .ref (bx β)), (1, .int b0)] := hl
        refine lv_iload S.1 S.2.1 d_B_astrayInLine_74 (lv_at hl 0 rfl) ?_
        refine lv_if_ne (tgt := 96) S.1 S.2.1 d_B_astrayInLine_76 rfl (fun h => absurd (show (0 : Int32) = 0 from rfl) h) (fun _ => ?_)
        refine lv_aload S.1 S.2.1 d_B_astrayInLine_79 (lv_at hl 1 rfl) ?_
        refine m_ci hw (va_runV (As := []) (rest := []) S (c_O_isWrongAtRest l γ M (oa (L (sj b0))[i0]) _ _ _ _ _ _ _ _ _ _ (hC.ord _ hm.1)) (m_cwV 0 S g232 g233 g234 g54 g235 rfl rfl ⟨by decide +kernel, by decide +kernel, by decide +kernel⟩ ⟨(Nat.le_of_ble_eq_true rfl), (Nat.le_of_ble_eq_true rfl)⟩) (hw.preV (hC.ord _ hm.1) cl_O.1) rfl rfl hl.1 rfl (lv_room (Nat.le_of_ble_eq_true rfl)) d_B_astrayInLine_81 ⟨(Nat.zero_le _), (Nat.zero_le _)⟩) (fun r1 M1 H locs hp hw => ?_)
        obtain ⟨rfl, hM1⟩ := hp
        rw [hM1] at hw
        refine W.eq (g2 := F0 m 84 ls [.int (b2i (wrg (sI σ) (L (sj b0))[i0]))]) rfl ?_
        refine lv_if_ne (tgt := 96) S.1 S.2.1 d_B_astrayInLine_84 rfl (fun h => absurd (b2i_0.mpr hwr) h) (fun _ => ?_)
        refine lv_aload_n S.1 S.2.1 d_B_astrayInLine_87 rfl (lv_at hl 5 rfl) ?_
        refine lv_aload S.1 S.2.1 d_B_astrayInLine_88 (lv_at hl 1 rfl) ?_
        refine m_ci hw (va_runV (As := [.ref (oa (L (sj b0))[i0])]) (rest := []) S (c_B_couldTrade l γ M β oa cp L σ hC hI hL (L (sj b0))[i0] hm.1) (m_cwV 1 S g248 g250 g2 g41 g251 rfl rfl ⟨by decide +kernel, by decide +kernel, by decide +kernel⟩ ⟨(Nat.le_of_ble_eq_true rfl), (Nat.le_of_ble_eq_true rfl)⟩) (hw.preV hC.book cl_B.1) rfl rfl hl.1 rfl (lv_room (Nat.le_of_ble_eq_true rfl)) d_B_astrayInLine_90 ⟨(Nat.zero_le _), (Nat.zero_le _)⟩) (fun r1 M1 H locs hp hw => ?_)
        obtain ⟨rfl, hM1⟩ := hp
        rw [hM1] at hw
        refine lv_if_eq (tgt := 99) S.1 S.2.1 d_B_astrayInLine_93 rfl (fun _ => ?_) (fun h => absurd (b2i_0.mpr hct) h)
        refine lv_iinc (k := 2) (v := nI (i0 + 1)) S.1 S.2.1 d_B_astrayInLine_99 hl rfl (nI_1 i0) (by decide) rfl (fun ls hl => ?_)
        have hl : lv_has ls 7 [(4, .int (nI (i0 + 1))), (6, .int 0), (5, .ref (oa (L (sj b0))[i0])), (3, .int 0), (2, .ref (bal β (sj b0))), (0, .ref (bx β)), (1, .int b0)] := hl
        refine lv_goto (tgt := 14) S.1 S.2.1 d_B_astrayInLine_102 rfl ?_
        have hl := lv_sub hl [0, 3, 4, 5, 6] rfl
        exact ih (i0 + 1) H locs ls (by omega) hl hw
      · have hi0 : 0 < i0 := Nat.pos_of_ne_zero (fun z => h45 (by rw [z]; decide +kernel))
        obtain ⟨i1, hi1⟩ : ∃ z, i0 = z + 1 := ⟨i0 - 1, by omega⟩
        have hb1 : i1 < (L (sj b0)).length := by omega
        have hm1 := (hLj.1 (L (sj b0))[i1]).mp (List.getElem_mem hb1)
        have hsb : sb (sI σ) (L (sj b0))[i1] (L (sj b0))[i0] = true := by rw [sb_bf (hI.2.1.1 _ hm1.1).1 (hI.2.1.1 _ hm.1).1]; exact (List.pairwise_iff_getElem.mp hLj.2) i1 i0 hb1 hbd (by omega)
        refine lv_aload_n S.1 S.2.1 d_B_astrayInLine_48 rfl (lv_at hl 3 rfl) ?_
        refine lv_iload S.1 S.2.1 d_B_astrayInLine_49 (lv_at hl 1 rfl) ?_
        refine lv_iconst (v := 1) S.1 S.2.1 d_B_astrayInLine_51 (by decide) ?_
        refine lv_isub S.1 S.2.1 d_B_astrayInLine_52 ?_
        refine W.eq (g2 := F0 m 53 ls [.int (nI i1), .ref (bal β (sj b0))]) (congrArg (fun z => F0 m 53 ls [.int z, .ref (bal β (sj b0))]) (show nI i0 - 1 = nI i1 by rw [hi1]; exact nI_pred i1)) ?_
        refine m_cq hw (va_runV (As := [.int (nI i1)]) (rest := []) S (c_AL_get l γ M (bal β (sj b0)) r0 (cp (sj b0)) ((L (sj b0)).map oa) hA0 i1 (by omega)) (m_cwV 1 S g189 g190 g191 g44 g192 rfl rfl ⟨by decide +kernel, by decide +kernel, by decide +kernel⟩ ⟨(Nat.le_of_ble_eq_true rfl), (Nat.le_of_ble_eq_true rfl)⟩) (hw.preV hl0 cl_AL.1) rfl rfl hl.1 rfl (lv_room (Nat.le_of_ble_eq_true rfl)) d_B_astrayInLine_53 ⟨(Nat.zero_le _), (Nat.zero_le _)⟩) (fun r1 M1 H locs hp hw => ?_)
        obtain ⟨rfl, hM1⟩ := hp
        rw [hM1] at hw
        have hge := map_at (oa := oa) hb1
        refine W.eq (g2 := F0 m 56 ls [.ref (oa (L (sj b0))[i1])]) (by rw [hge]; rfl) ?_
        refine m_cast S hw cl_O (hC.ord _ hm1.1) g203 d_B_astrayInLine_56 ?_
        refine lv_aload S.1 S.2.1 d_B_astrayInLine_59 (lv_at hl 0 rfl) ?_
        refine m_ci hw (va_runV (As := [.ref (oa (L (sj b0))[i0])]) (rest := []) S (c_O_standsBefore l γ M (oa (L (sj b0))[i1]) _ _ _ _ _ _ _ _ _ _ (hC.ord _ hm1.1) (oa (L (sj b0))[i0]) _ _ _ _ _ _ _ _ _ _ (hC.ord _ hm.1)) (m_cwV 1 S g228 g229 g230 g54 g231 rfl rfl ⟨by decide +kernel, by decide +kernel, by decide +kernel⟩ ⟨(Nat.le_of_ble_eq_true rfl), (Nat.le_of_ble_eq_true rfl)⟩) (hw.preV (hC.ord _ hm1.1) cl_O.1) rfl rfl hl.1 rfl (lv_room (Nat.le_of_ble_eq_true rfl)) d_B_astrayInLine_61 ⟨(Nat.zero_le _), (Nat.zero_le _)⟩) (fun r1 M1 H locs hp hw => ?_)
        obtain ⟨rfl, hM1⟩ := hp
        rw [hM1] at hw
        refine W.eq (g2 := F0 m 64 ls [.int (b2i (sb (sI σ) (L (sj b0))[i1] (L (sj b0))[i0]))]) rfl ?_
        refine lv_if_ne (tgt := 71) S.1 S.2.1 d_B_astrayInLine_64 rfl (fun _ => ?_) (fun h => absurd h (b2i_n0.mpr hsb))
        refine lv_iconst (v := 0) S.1 S.2.1 d_B_astrayInLine_71 (by decide) ?_
        refine lv_istore S.1 S.2.1 d_B_astrayInLine_72 hl (by decide) rfl (fun ls hl => ?_)
        have hl : lv_has ls 7 [(6, .int 0), (5, .ref (oa (L (sj b0))[i0])), (4, .int (nI i0)), (3, .int 0), (2, .ref (bal β (sj b0))), (0, .ref (bx β)), (1, .int b0)] := hl
        refine lv_iload S.1 S.2.1 d_B_astrayInLine_74 (lv_at hl 0 rfl) ?_
        refine lv_if_ne (tgt := 96) S.1 S.2.1 d_B_astrayInLine_76 rfl (fun h => absurd (show (0 : Int32) = 0 from rfl) h) (fun _ => ?_)
        refine lv_aload S.1 S.2.1 d_B_astrayInLine_79 (lv_at hl 1 rfl) ?_
        refine m_ci hw (va_runV (As := []) (rest := []) S (c_O_isWrongAtRest l γ M (oa (L (sj b0))[i0]) _ _ _ _ _ _ _ _ _ _ (hC.ord _ hm.1)) (m_cwV 0 S g232 g233 g234 g54 g235 rfl rfl ⟨by decide +kernel, by decide +kernel, by decide +kernel⟩ ⟨(Nat.le_of_ble_eq_true rfl), (Nat.le_of_ble_eq_true rfl)⟩) (hw.preV (hC.ord _ hm.1) cl_O.1) rfl rfl hl.1 rfl (lv_room (Nat.le_of_ble_eq_true rfl)) d_B_astrayInLine_81 ⟨(Nat.zero_le _), (Nat.zero_le _)⟩) (fun r1 M1 H locs hp hw => ?_)
        obtain ⟨rfl, hM1⟩ := hp
        rw [hM1] at hw
        refine W.eq (g2 := F0 m 84 ls [.int (b2i (wrg (sI σ) (L (sj b0))[i0]))]) rfl ?_
        refine lv_if_ne (tgt := 96) S.1 S.2.1 d_B_astrayInLine_84 rfl (fun h => absurd (b2i_0.mpr hwr) h) (fun _ => ?_)
        refine lv_aload_n S.1 S.2.1 d_B_astrayInLine_87 rfl (lv_at hl 5 rfl) ?_
        refine lv_aload S.1 S.2.1 d_B_astrayInLine_88 (lv_at hl 1 rfl) ?_
        refine m_ci hw (va_runV (As := [.ref (oa (L (sj b0))[i0])]) (rest := []) S (c_B_couldTrade l γ M β oa cp L σ hC hI hL (L (sj b0))[i0] hm.1) (m_cwV 1 S g248 g250 g2 g41 g251 rfl rfl ⟨by decide +kernel, by decide +kernel, by decide +kernel⟩ ⟨(Nat.le_of_ble_eq_true rfl), (Nat.le_of_ble_eq_true rfl)⟩) (hw.preV hC.book cl_B.1) rfl rfl hl.1 rfl (lv_room (Nat.le_of_ble_eq_true rfl)) d_B_astrayInLine_90 ⟨(Nat.zero_le _), (Nat.zero_le _)⟩) (fun r1 M1 H locs hp hw => ?_)
        obtain ⟨rfl, hM1⟩ := hp
        rw [hM1] at hw
        refine lv_if_eq (tgt := 99) S.1 S.2.1 d_B_astrayInLine_93 rfl (fun _ => ?_) (fun h => absurd (b2i_0.mpr hct) h)
        refine lv_iinc (k := 2) (v := nI (i0 + 1)) S.1 S.2.1 d_B_astrayInLine_99 hl rfl (nI_1 i0) (by decide) rfl (fun ls hl => ?_)
        have hl : lv_has ls 7 [(4, .int (nI (i0 + 1))), (6, .int 0), (5, .ref (oa (L (sj b0))[i0])), (3, .int 0), (2, .ref (bal β (sj b0))), (0, .ref (bx β)), (1, .int b0)] := hl
        refine lv_goto (tgt := 14) S.1 S.2.1 d_B_astrayInLine_102 rfl ?_
        have hl := lv_sub hl [0, 3, 4, 5, 6] rfl
        exact ih (i0 + 1) H locs ls (by omega) hl hw
  have hl := lv_sub hl [0, 1, 2, 3, 4] rfl
  exact loop _ 0 H locs ls (Nat.zero_add _) hl hw
set_option maxHeartbeats 4000000 in
set_option maxRecDepth 100000 in
theorem c_B_astrayOutOfLine (l : Launch) (γ : mG) (M : mMap) (β : BK) (oa cp : Nat → Nat) (L : Nat → List Nat) (σ : St) (hC : CB γ M β oa cp L σ) (hI : Inv0 σ) (hL : LN σ L) (hZ : NZ σ) : Met l y_B_astrayOutOfLine w_B_astrayOutOfLine ({ frames := 3, cells := 0, slots := 0, locals := 64 } : Room) (mPc γ M [.ref (bx β)]) (mQi γ (fun r M' => r = 0 ∧ M' = M)) 0 0 (mA (gz γ)) := by
  refine m_enter (by decide) (Nat.le_of_ble_eq_true rfl) ?_
  intro p e s m below meth c ls S hr hlk hnm hl hw
  have hl : lv_has ls 5 [(0, .ref (bx β))] := hl
  obtain ⟨r0, hA0⟩ := hC.alls
  obtain ⟨⟨md0, hl0⟩, -⟩ := id hA0
  obtain ⟨r1, hA1⟩ := hC.list (j := 1) (Or.inl rfl)
  obtain ⟨⟨md1, hl1⟩, -⟩ := id hA1
  obtain ⟨r2, hA2⟩ := hC.list (j := 2) (Or.inr rfl)
  obtain ⟨⟨md2, hl2⟩, -⟩ := id hA2
  have hml : ((List.range (sn σ)).map oa).length = sn σ := rg_len
  have hn := hI.1
  refine lv_iconst (v := 0) S.1 S.2.1 d_B_astrayOutOfLine_0 (by decide) ?_
  refine lv_istore_n S.1 S.2.1 d_B_astrayOutOfLine_1 rfl hl (by decide) rfl (fun ls hl => ?_)
  have hl : lv_has ls 5 [(1, .int 0), (0, .ref (bx β))] := hl
  refine lv_iconst (v := 0) S.1 S.2.1 d_B_astrayOutOfLine_2 (by decide) ?_
  refine lv_istore_n S.1 S.2.1 d_B_astrayOutOfLine_3 rfl hl (by decide) rfl (fun ls hl => ?_)
  have hl : lv_has ls 5 [(2, .int 0), (1, .int 0), (0, .ref (bx β))] := hl
  refine lv_iconst (v := 0) S.1 S.2.1 d_B_astrayOutOfLine_4 (by decide) ?_
  refine lv_istore_n S.1 S.2.1 d_B_astrayOutOfLine_5 rfl hl (by decide) rfl (fun ls hl => ?_)
  have hl : lv_has ls 5 [(3, .int 0), (2, .int 0), (1, .int 0), (0, .ref (bx β))] := hl
  have loop : ∀ (d i0 : Nat) (H : Heap) (locs : List Loc) (ls : Array Slot), i0 + d = sn σ → lv_has ls 5 [(3, .int (nI i0)), (2, .int (nI (cnt (sI σ) i0))), (1, .int 0), (0, .ref (bx β))] → mW γ M s H locs → W p l e ({ frames := 3, cells := 0, slots := 0, locals := 64 } : Room) s m #[.ref (bx β)] below meth c H locs 0 0 (MQ below (mQi γ (fun r M' => r = 0 ∧ M' = M)) #[.ref (bx β)] s 0 0 (mA (gz γ))) (F0 m 6 ls []) := by
    intro d
    induction d with
    | zero =>
      intro i0 H locs ls hi hl hw
      have hi2 : i0 = sn σ := by omega
      refine lv_iload_n S.1 S.2.1 d_B_astrayOutOfLine_6 rfl (lv_at hl 0 rfl) ?_
      refine lv_aload_n S.1 S.2.1 d_B_astrayOutOfLine_7 rfl (lv_at hl 3 rfl) ?_
      refine m_get S hw cl_B hC.book 0 (by decide) g145 (fun _ h => h) rfl d_B_astrayOutOfLine_8 ?_
      refine m_ci hw (va_runV (As := []) (rest := [.int (nI i0)]) S (c_AL_size l γ M (bal β 0) md0 _ _ hl0) (m_cwV 0 S g185 g186 g187 g44 g188 rfl rfl ⟨by decide +kernel, by decide +kernel, by decide +kernel⟩ ⟨(Nat.le_of_ble_eq_true rfl), (Nat.le_of_ble_eq_true rfl)⟩) (hw.preV hl0 cl_AL.1) rfl rfl hl.1 rfl (lv_room (Nat.le_of_ble_eq_true rfl)) d_B_astrayOutOfLine_11 ⟨(Nat.zero_le _), (Nat.zero_le _)⟩) (fun r1 M1 H locs hp hw => ?_)
      obtain ⟨rfl, hM1⟩ := hp
      rw [hM1] at hw
      refine lv_icmp_ge (tgt := 69) S.1 S.2.1 d_B_astrayOutOfLine_14 rfl (fun _ => ?_) (fun h => absurd (nI_le (by omega) (by omega)) h)
      refine lv_iload_n S.1 S.2.1 d_B_astrayOutOfLine_69 rfl (lv_at hl 2 rfl) ?_
      refine lv_iload_n S.1 S.2.1 d_B_astrayOutOfLine_70 rfl (lv_at hl 1 rfl) ?_
      refine lv_aload_n S.1 S.2.1 d_B_astrayOutOfLine_71 rfl (lv_at hl 3 rfl) ?_
      refine m_get S hw cl_B hC.book 1 (by decide) g146 (fun _ h => h) rfl d_B_astrayOutOfLine_72 ?_
      refine m_get S hw cl_S (hC.side (Or.inl rfl)) 0 (by decide) g105 (fun _ h => h) rfl d_B_astrayOutOfLine_75 ?_
      refine m_ci hw (va_runV (As := []) (rest := [.int (nI (cnt (sI σ) i0)), .int 0]) S (c_AL_size l γ M (bal β 1) md1 _ _ hl1) (m_cwV 0 S g185 g186 g187 g44 g188 rfl rfl ⟨by decide +kernel, by decide +kernel, by decide +kernel⟩ ⟨(Nat.le_of_ble_eq_true rfl), (Nat.le_of_ble_eq_true rfl)⟩) (hw.preV hl1 cl_AL.1) rfl rfl hl.1 rfl (lv_room (Nat.le_of_ble_eq_true rfl)) d_B_astrayOutOfLine_78 ⟨(Nat.zero_le _), (Nat.zero_le _)⟩) (fun r1 M1 H locs hp hw => ?_)
      obtain ⟨rfl, hM1⟩ := hp
      rw [hM1] at hw
      refine lv_isub S.1 S.2.1 d_B_astrayOutOfLine_81 ?_
      refine lv_aload_n S.1 S.2.1 d_B_astrayOutOfLine_82 rfl (lv_at hl 3 rfl) ?_
      refine m_get S hw cl_B hC.book 2 (by decide) g147 (fun _ h => h) rfl d_B_astrayOutOfLine_83 ?_
      refine m_get S hw cl_S (hC.side (Or.inr rfl)) 0 (by decide) g105 (fun _ h => h) rfl d_B_astrayOutOfLine_86 ?_
      refine m_ci hw (va_runV (As := []) (rest := [.int ((nI (cnt (sI σ) i0)) - (nI ((L 1).map oa).length)), .int 0]) S (c_AL_size l γ M (bal β 2) md2 _ _ hl2) (m_cwV 0 S g185 g186 g187 g44 g188 rfl rfl ⟨by decide +kernel, by decide +kernel, by decide +kernel⟩ ⟨(Nat.le_of_ble_eq_true rfl), (Nat.le_of_ble_eq_true rfl)⟩) (hw.preV hl2 cl_AL.1) rfl rfl hl.1 rfl (lv_room (Nat.le_of_ble_eq_true rfl)) d_B_astrayOutOfLine_89 ⟨(Nat.zero_le _), (Nat.zero_le _)⟩) (fun r1 M1 H locs hp hw => ?_)
      obtain ⟨rfl, hM1⟩ := hp
      rw [hM1] at hw
      refine lv_isub S.1 S.2.1 d_B_astrayOutOfLine_92 ?_
      refine va_mabs S.1 S.2.1 (S.2.2.1.trans hl.1.symm) S.2.2.2.1 (S.2.2.2.2 _ (gc g271)) (S.2.2.2.2 _ (gc g272)) (S.2.2.2.2 _ (gc g56)) (S.2.2.2.2 _ (gc g273)) (Nat.le_of_ble_eq_true rfl) (Nat.le_of_ble_eq_true rfl) (Nat.zero_le _) (Nat.zero_le _) d_B_astrayOutOfLine_93 ?_
      have hz0 : nI (cnt (sI σ) i0) - nI ((L 1).map oa).length - nI ((L 2).map oa).length = 0 := nI_dif (by rw [hi2, List.length_map, List.length_map]; exact cnt_eq hI.b hL)
      refine W.eq (g2 := F0 m 96 ls [.int 0, .int 0]) (congrArg (fun z => F0 m 96 ls [.int z, .int 0]) (by rw [hz0]; rfl)) ?_
      refine lv_iadd S.1 S.2.1 d_B_astrayOutOfLine_96 ?_
      exact m_iret S hlk hr rfl hw (⟨rfl, rfl⟩) (Nat.le_refl _) (Nat.le_refl _) d_B_astrayOutOfLine_97
    | succ d ih =>
      intro i0 H locs ls hi hl hw
      have hbd : i0 < sn σ := by omega
      have hge := rg_at (f := oa) hbd
      refine lv_iload_n S.1 S.2.1 d_B_astrayOutOfLine_6 rfl (lv_at hl 0 rfl) ?_
      refine lv_aload_n S.1 S.2.1 d_B_astrayOutOfLine_7 rfl (lv_at hl 3 rfl) ?_
      refine m_get S hw cl_B hC.book 0 (by decide) g145 (fun _ h => h) rfl d_B_astrayOutOfLine_8 ?_
      refine m_ci hw (va_runV (As := []) (rest := [.int (nI i0)]) S (c_AL_size l γ M (bal β 0) md0 _ _ hl0) (m_cwV 0 S g185 g186 g187 g44 g188 rfl rfl ⟨by decide +kernel, by decide +kernel, by decide +kernel⟩ ⟨(Nat.le_of_ble_eq_true rfl), (Nat.le_of_ble_eq_true rfl)⟩) (hw.preV hl0 cl_AL.1) rfl rfl hl.1 rfl (lv_room (Nat.le_of_ble_eq_true rfl)) d_B_astrayOutOfLine_11 ⟨(Nat.zero_le _), (Nat.zero_le _)⟩) (fun r1 M1 H locs hp hw => ?_)
      obtain ⟨rfl, hM1⟩ := hp
      rw [hM1] at hw
      refine lv_icmp_ge (tgt := 69) S.1 S.2.1 d_B_astrayOutOfLine_14 rfl (fun h => absurd h (nI_ge (by omega) (by omega))) (fun _ => ?_)
      refine lv_aload_n S.1 S.2.1 d_B_astrayOutOfLine_17 rfl (lv_at hl 3 rfl) ?_
      refine m_get S hw cl_B hC.book 0 (by decide) g145 (fun _ h => h) rfl d_B_astrayOutOfLine_18 ?_
      refine lv_iload_n S.1 S.2.1 d_B_astrayOutOfLine_21 rfl (lv_at hl 0 rfl) ?_
      refine m_cq hw (va_runV (As := [.int (nI i0)]) (rest := []) S (c_AL_get l γ M (bal β 0) r0 (cp 0) ((List.range (sn σ)).map oa) hA0 i0 (by omega)) (m_cwV 1 S g189 g190 g191 g44 g192 rfl rfl ⟨by decide +kernel, by decide +kernel, by decide +kernel⟩ ⟨(Nat.le_of_ble_eq_true rfl), (Nat.le_of_ble_eq_true rfl)⟩) (hw.preV hl0 cl_AL.1) rfl rfl hl.1 rfl (lv_room (Nat.le_of_ble_eq_true rfl)) d_B_astrayOutOfLine_22 ⟨(Nat.zero_le _), (Nat.zero_le _)⟩) (fun r1 M1 H locs hp hw => ?_)
      obtain ⟨rfl, hM1⟩ := hp
      rw [hM1] at hw
      refine W.eq (g2 := F0 m 25 ls [.ref (oa i0)]) (by rw [hge]; rfl) ?_
      refine m_cast S hw cl_O (hC.ord i0 hbd) g203 d_B_astrayOutOfLine_25 ?_
      refine lv_astore S.1 S.2.1 d_B_astrayOutOfLine_28 hl (by decide) rfl (fun ls hl => ?_)
      have hl : lv_has ls 5 [(4, .ref (oa i0)), (3, .int (nI i0)), (2, .int (nI (cnt (sI σ) i0))), (1, .int 0), (0, .ref (bx β))] := hl
      refine lv_aload S.1 S.2.1 d_B_astrayOutOfLine_30 (lv_at hl 0 rfl) ?_
      refine m_ci hw (va_runV (As := []) (rest := []) S (c_O_rests l γ M (oa i0) _ _ _ _ _ _ _ _ _ _ (hC.ord i0 hbd)) (m_cwV 0 S g270 g244 g245 g54 g246 rfl rfl ⟨by decide +kernel, by decide +kernel, by decide +kernel⟩ ⟨(Nat.le_of_ble_eq_true rfl), (Nat.le_of_ble_eq_true rfl)⟩) (hw.preV (hC.ord i0 hbd) cl_O.1) rfl rfl hl.1 rfl (lv_room (Nat.le_of_ble_eq_true rfl)) d_B_astrayOutOfLine_32 ⟨(Nat.zero_le _), (Nat.zero_le _)⟩) (fun r1 M1 H locs hp hw => ?_)
      obtain ⟨rfl, hM1⟩ := hp
      rw [hM1] at hw
      refine lv_if_eq (tgt := 44) S.1 S.2.1 d_B_astrayOutOfLine_35 rfl (fun h35 => ?_) (fun h35 => ?_)
      · have hrs : rs (sI σ) i0 = false := by cases h9 : rs (sI σ) i0 with
          | false => rfl
          | true => exact absurd ((rs_ne hI.b hbd).mp h9) (of_decide_eq_false (b2i_0.mp h35))
        have hz := hZ i0 hbd hrs
        have hcn : cnt (sI σ) (i0 + 1) = cnt (sI σ) i0 := if_neg (by rw [hrs]; decide)
        rw [← hcn] at hl
        refine lv_aload S.1 S.2.1 d_B_astrayOutOfLine_44 (lv_at hl 0 rfl) ?_
        refine m_get S hw cl_O (hC.ord i0 hbd) 6 (by decide) g398 (fun _ h => h) rfl d_B_astrayOutOfLine_46 ?_
        refine lv_if_ne (tgt := 60) S.1 S.2.1 d_B_astrayOutOfLine_49 rfl (fun h => absurd hz.1 h) (fun _ => ?_)
        refine lv_aload S.1 S.2.1 d_B_astrayOutOfLine_52 (lv_at hl 0 rfl) ?_
        refine m_get S hw cl_O (hC.ord i0 hbd) 7 (by decide) g400 (fun _ h => h) rfl d_B_astrayOutOfLine_54 ?_
        refine lv_if_eq (tgt := 63) S.1 S.2.1 d_B_astrayOutOfLine_57 rfl (fun _ => ?_) (fun h => absurd hz.2 h)
        refine lv_iinc (k := 1) (v := nI (i0 + 1)) S.1 S.2.1 d_B_astrayOutOfLine_63 hl rfl (nI_1 i0) (by decide) rfl (fun ls hl => ?_)
        have hl : lv_has ls 5 [(3, .int (nI (i0 + 1))), (4, .ref (oa i0)), (2, .int (nI (cnt (sI σ) (i0 + 1)))), (1, .int 0), (0, .ref (bx β))] := hl
        refine lv_goto (tgt := 6) S.1 S.2.1 d_B_astrayOutOfLine_66 rfl ?_
        have hl := lv_sub hl [0, 2, 3, 4] rfl
        exact ih (i0 + 1) H locs ls (by omega) hl hw
      · have hrs : rs (sI σ) i0 = true := (rs_ne hI.b hbd).mpr (of_decide_eq_true (b2i_n0.mp h35))
        have hcn : cnt (sI σ) (i0 + 1) = cnt (sI σ) i0 + 1 := if_pos hrs
        refine lv_iinc (k := 2) (v := nI (cnt (sI σ) (i0 + 1))) S.1 S.2.1 d_B_astrayOutOfLine_38 hl rfl (by rw [hcn]; exact nI_1 _) (by decide) rfl (fun ls hl => ?_)
        have hl : lv_has ls 5 [(2, .int (nI (cnt (sI σ) (i0 + 1)))), (4, .ref (oa i0)), (3, .int (nI i0)), (1, .int 0), (0, .ref (bx β))] := hl
        refine lv_goto (tgt := 63) S.1 S.2.1 d_B_astrayOutOfLine_41 rfl ?_
        refine lv_iinc (k := 2) (v := nI (i0 + 1)) S.1 S.2.1 d_B_astrayOutOfLine_63 hl rfl (nI_1 i0) (by decide) rfl (fun ls hl => ?_)
        have hl : lv_has ls 5 [(3, .int (nI (i0 + 1))), (2, .int (nI (cnt (sI σ) (i0 + 1)))), (4, .ref (oa i0)), (1, .int 0), (0, .ref (bx β))] := hl
        refine lv_goto (tgt := 6) S.1 S.2.1 d_B_astrayOutOfLine_66 rfl ?_
        have hl := lv_sub hl [0, 1, 3, 4] rfl
        exact ih (i0 + 1) H locs ls (by omega) hl hw
  have hl := lv_sub hl [0, 1, 2, 3] rfl
  exact loop _ 0 _ _ ls (Nat.zero_add _) hl hw
set_option maxHeartbeats 4000000 in
set_option maxRecDepth 100000 in
theorem c_B_astray (l : Launch) (γ : mG) (M : mMap) (β : BK) (oa cp : Nat → Nat) (L : Nat → List Nat) (σ : St) (hC : CB γ M β oa cp L σ) (hI : Inv0 σ) (hL : LN σ L) (hX : NX σ) (hZ : NZ σ) : Met l y_B_astray w_B_astray ({ frames := 6, cells := 0, slots := 0, locals := 132 } : Room) (mPc γ M [.ref (bx β)]) (mQi γ (fun r M' => r = 0 ∧ M' = M)) 0 0 (mA (gz γ)) := by
  refine m_enter (by decide) (Nat.le_of_ble_eq_true rfl) ?_
  intro p e s m below meth c ls S hr hlk hnm hl hw
  have hl : lv_has ls 1 [(0, .ref (bx β))] := hl
  refine lv_aload_n S.1 S.2.1 d_B_astray_0 rfl (lv_at hl 0 rfl) ?_
  refine lv_iconst (v := 1) S.1 S.2.1 d_B_astray_1 (by decide) ?_
  refine m_ci hw (va_runV (As := [.int 1]) (rest := []) S (c_B_astrayInLine l γ M β oa cp L σ hC hI hL hX 1 (Or.inr rfl)) (m_cwV 1 S g224 g226 g1 g41 g227 rfl rfl ⟨by decide +kernel, by decide +kernel, by decide +kernel⟩ ⟨(Nat.le_of_ble_eq_true rfl), (Nat.le_of_ble_eq_true rfl)⟩) (hw.preV hC.book cl_B.1) rfl rfl hl.1 rfl (lv_room (Nat.le_of_ble_eq_true rfl)) d_B_astray_2 ⟨(Nat.zero_le _), (Nat.zero_le _)⟩) (fun r1 M1 H locs hp hw => ?_)
  obtain ⟨rfl, hM1⟩ := hp
  rw [hM1] at hw
  refine lv_aload_n S.1 S.2.1 d_B_astray_5 rfl (lv_at hl 0 rfl) ?_
  refine lv_iconst (v := 0) S.1 S.2.1 d_B_astray_6 (by decide) ?_
  refine m_ci hw (va_runV (As := [.int 0]) (rest := [.int 0]) S (c_B_astrayInLine l γ M β oa cp L σ hC hI hL hX 0 (Or.inl rfl)) (m_cwV 1 S g224 g226 g1 g41 g227 rfl rfl ⟨by decide +kernel, by decide +kernel, by decide +kernel⟩ ⟨(Nat.le_of_ble_eq_true rfl), (Nat.le_of_ble_eq_true rfl)⟩) (hw.preV hC.book cl_B.1) rfl rfl hl.1 rfl (lv_room (Nat.le_of_ble_eq_true rfl)) d_B_astray_7 ⟨(Nat.zero_le _), (Nat.zero_le _)⟩) (fun r1 M1 H locs hp hw => ?_)
  obtain ⟨rfl, hM1⟩ := hp
  rw [hM1] at hw
  refine lv_iadd S.1 S.2.1 d_B_astray_10 ?_
  refine lv_aload_n S.1 S.2.1 d_B_astray_11 rfl (lv_at hl 0 rfl) ?_
  refine m_ci hw (va_runV (As := []) (rest := [.int (0 + 0)]) S (c_B_astrayOutOfLine l γ M β oa cp L σ hC hI hL hZ) (m_cwV 0 S g266 g268 g3 g41 g269 rfl rfl ⟨by decide +kernel, by decide +kernel, by decide +kernel⟩ ⟨(Nat.le_of_ble_eq_true rfl), (Nat.le_of_ble_eq_true rfl)⟩) (hw.preV hC.book cl_B.1) rfl rfl hl.1 rfl (lv_room (Nat.le_of_ble_eq_true rfl)) d_B_astray_12 ⟨(Nat.zero_le _), (Nat.zero_le _)⟩) (fun r1 M1 H locs hp hw => ?_)
  obtain ⟨rfl, hM1⟩ := hp
  rw [hM1] at hw
  refine lv_iadd S.1 S.2.1 d_B_astray_15 ?_
  exact m_iret S hlk hr rfl hw (⟨rfl, rfl⟩) (Nat.le_refl _) (Nat.le_refl _) d_B_astray_16
