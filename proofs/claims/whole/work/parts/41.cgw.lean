/-! CallBook.couldGoWhole, startGoingOn, finishIfNothingLeft -/
set_option maxHeartbeats 4000000 in
set_option maxRecDepth 100000 in
theorem c_B_couldGoWhole (l : Launch) (γ : mG) (M : mMap) (β : BK) (oa cp : Nat → Nat) (L : Nat → List Nat) (σ : St) (hC : CB γ M β oa cp L σ) (hI : Inv0 σ) (hL : LN σ L) (o : Nat) (ho : o < sn σ) : Met l y_B_couldGoWhole w_B_couldGoWhole ({ frames := 3, cells := 0, slots := 0, locals := 64 } : Room) (mPc γ M [.ref (bx β), .ref (oa o)]) (mQi γ (fun r M' => r = b2i (cgw σ (L (sj (opp (sI σ 1 o)))) o) ∧ M' = M)) 0 0 (mA (gz γ)) := by
  refine m_enter (by decide) (Nat.le_of_ble_eq_true rfl) ?_
  intro p e s m below meth c ls S hr hlk hnm hl hw
  have hl : lv_has ls 7 [(0, .ref (bx β)), (1, .ref (oa o))] := hl
  have hOo := hC.ord o ho
  refine lv_aload_n S.1 S.2.1 d_B_couldGoWhole_0 rfl (lv_at hl 0 rfl) ?_
  refine lv_aload_n S.1 S.2.1 d_B_couldGoWhole_1 rfl (lv_at hl 1 rfl) ?_
  refine m_get S hw cl_O hOo 2 (by decide) g389 (fun _ h => h) rfl d_B_couldGoWhole_2 ?_
  obtain ⟨r0, hA⟩ := hC.list (sj_or (opp (sI σ 1 o)))
  obtain ⟨⟨md, hl0⟩, -⟩ := id hA
  have hLj : Line (sI σ) (sn σ) (opp (sI σ 1 o)) (L (sj (opp (sI σ 1 o)))) := sj_val (opp_or _) hL
  have hml : ((L (sj (opp (sI σ 1 o)))).map oa).length = (L (sj (opp (sI σ 1 o)))).length := List.length_map _
  have hlen : (L (sj (opp (sI σ 1 o)))).length ≤ 250 := hLj.len hI.1
  have cont : ∀ (H : Heap) (locs : List Loc) (ls : Array Slot), lv_has ls 7 [(0, .ref (bx β)), (1, .ref (oa o))] → mW γ M s H locs → W p l e ({ frames := 3, cells := 0, slots := 0, locals := 64 } : Room) s m #[.ref (bx β), .ref (oa o)] below meth c H locs 0 0 (MQ below (mQi γ (fun r M' => r = b2i (cgw σ (L (sj (opp (sI σ 1 o)))) o) ∧ M' = M)) #[.ref (bx β), .ref (oa o)] s 0 0 (mA (gz γ))) (F0 m 13 ls [.int (opp (sI σ 1 o)), .ref (bx β)]) := by
    intro H locs ls hl hw
    refine m_cq hw (va_runV (As := [.int (opp (sI σ 1 o))]) (rest := []) S (c_B_side l γ M β σ.2.1 hC.book (opp (sI σ 1 o))) (m_cwV 1 S g181 g183 g0 g41 g184 rfl rfl ⟨by decide +kernel, by decide +kernel, by decide +kernel⟩ ⟨(Nat.le_of_ble_eq_true rfl), (Nat.le_of_ble_eq_true rfl)⟩) (hw.preV hC.book cl_B.1) rfl rfl hl.1 rfl (lv_room (Nat.le_of_ble_eq_true rfl)) d_B_couldGoWhole_13 ⟨(Nat.zero_le _), (Nat.zero_le _)⟩) (fun r1 M1 H locs hp hw => ?_)
    obtain ⟨rfl, hM1⟩ := hp
    rw [hM1] at hw
    refine m_get S hw cl_S (hC.side (sj_or _)) 0 (by decide) g105 (fun _ h => h) rfl d_B_couldGoWhole_16 ?_
    refine lv_astore_n S.1 S.2.1 d_B_couldGoWhole_19 rfl hl (by decide) rfl (fun ls hl => ?_)
    have hl : lv_has ls 7 [(2, .ref (bal β (sj (opp (sI σ 1 o))))), (0, .ref (bx β)), (1, .ref (oa o))] := hl
    refine lv_lconst (v := 0) S.1 S.2.1 d_B_couldGoWhole_20 (by decide) ?_
    refine lv_lstore_n S.1 S.2.1 d_B_couldGoWhole_21 rfl hl (by decide) rfl (fun ls hl => ?_)
    have hl : lv_has ls 7 [(3, .long 0), (2, .ref (bal β (sj (opp (sI σ 1 o))))), (0, .ref (bx β)), (1, .ref (oa o))] := hl
    refine lv_iconst (v := 0) S.1 S.2.1 d_B_couldGoWhole_22 (by decide) ?_
    refine lv_istore S.1 S.2.1 d_B_couldGoWhole_23 hl (by decide) rfl (fun ls hl => ?_)
    have hl : lv_has ls 7 [(5, .int 0), (3, .long 0), (2, .ref (bal β (sj (opp (sI σ 1 o))))), (0, .ref (bx β)), (1, .ref (oa o))] := hl
    have hexit : ∀ (a : Int64) (H : Heap) (locs : List Loc) (ls : Array Slot), a = avl σ o (L (sj (opp (sI σ 1 o)))) 0 → lv_has ls 7 [(3, .long a), (0, .ref (bx β)), (1, .ref (oa o))] → mW γ M s H locs → W p l e ({ frames := 3, cells := 0, slots := 0, locals := 64 } : Room) s m #[.ref (bx β), .ref (oa o)] below meth c H locs 0 0 (MQ below (mQi γ (fun r M' => r = b2i (cgw σ (L (sj (opp (sI σ 1 o)))) o) ∧ M' = M)) #[.ref (bx β), .ref (oa o)] s 0 0 (mA (gz γ))) (F0 m 87 ls []) := by
      intro a H locs ls ha hl hw
      refine lv_lload_n S.1 S.2.1 d_B_couldGoWhole_87 rfl (lv_at hl 0 rfl) ?_
      refine lv_aload_n S.1 S.2.1 d_B_couldGoWhole_88 rfl (lv_at hl 2 rfl) ?_
      refine m_get S hw cl_O hOo 6 (by decide) g398 (fun _ h => h) rfl d_B_couldGoWhole_89 ?_
      refine lv_i2l S.1 S.2.1 d_B_couldGoWhole_92 rfl ?_
      refine W.lcmp S.1 S.2.1 d_B_couldGoWhole_93 ?_
      refine lv_if_lt (tgt := 101) S.1 S.2.1 d_B_couldGoWhole_94 rfl (fun h94 => ?_) (fun h94 => ?_)
      · refine lv_iconst (v := 0) S.1 S.2.1 d_B_couldGoWhole_101 (by decide) ?_
        exact m_iret S hlk hr rfl hw ⟨congrArg b2i (decide_eq_false (fun z => absurd ((lg_cmp_lt _ _).mp h94) (Int64.not_lt.mpr (ha ▸ z)))).symm, rfl⟩ (Nat.le_refl _) (Nat.le_refl _) d_B_couldGoWhole_102
      · refine lv_iconst (v := 1) S.1 S.2.1 d_B_couldGoWhole_97 (by decide) ?_
        refine lv_goto (tgt := 102) S.1 S.2.1 d_B_couldGoWhole_98 rfl ?_
        exact m_iret S hlk hr rfl hw ⟨congrArg b2i (decide_eq_true (ha ▸ Int64.not_lt.mp (fun z => h94 ((lg_cmp_lt _ _).mpr z)))).symm, rfl⟩ (Nat.le_refl _) (Nat.le_refl _) d_B_couldGoWhole_102
    have loop : ∀ (d i0 : Nat) (a : Int64) (H : Heap) (locs : List Loc) (ls : Array Slot), i0 + d = (L (sj (opp (sI σ 1 o)))).length → avl σ o ((L (sj (opp (sI σ 1 o)))).drop i0) a = avl σ o (L (sj (opp (sI σ 1 o)))) 0 → lv_has ls 7 [(5, .int (nI i0)), (3, .long a), (2, .ref (bal β (sj (opp (sI σ 1 o))))), (0, .ref (bx β)), (1, .ref (oa o))] → mW γ M s H locs → W p l e ({ frames := 3, cells := 0, slots := 0, locals := 64 } : Room) s m #[.ref (bx β), .ref (oa o)] below meth c H locs 0 0 (MQ below (mQi γ (fun r M' => r = b2i (cgw σ (L (sj (opp (sI σ 1 o)))) o) ∧ M' = M)) #[.ref (bx β), .ref (oa o)] s 0 0 (mA (gz γ))) (F0 m 25 ls []) := by
      intro d
      induction d with
      | zero =>
        intro i0 a H locs ls hi ha hl hw
        refine lv_iload S.1 S.2.1 d_B_couldGoWhole_25 (lv_at hl 0 rfl) ?_
        refine lv_aload_n S.1 S.2.1 d_B_couldGoWhole_27 rfl (lv_at hl 2 rfl) ?_
        refine m_ci hw (va_runV (As := []) (rest := [.int (nI i0)]) S (c_AL_size l γ M (bal β (sj (opp (sI σ 1 o)))) md _ _ hl0) (m_cwV 0 S g185 g186 g187 g44 g188 rfl rfl ⟨by decide +kernel, by decide +kernel, by decide +kernel⟩ ⟨(Nat.le_of_ble_eq_true rfl), (Nat.le_of_ble_eq_true rfl)⟩) (hw.preV hl0 cl_AL.1) rfl rfl hl.1 rfl (lv_room (Nat.le_of_ble_eq_true rfl)) d_B_couldGoWhole_28 ⟨(Nat.zero_le _), (Nat.zero_le _)⟩) (fun r1 M1 H locs hp hw => ?_)
        obtain ⟨rfl, hM1⟩ := hp
        rw [hM1] at hw
        refine lv_icmp_ge (tgt := 87) S.1 S.2.1 d_B_couldGoWhole_31 rfl (fun _ => ?_) (fun h => absurd (nI_le (by omega) (by omega)) h)
        have hl := lv_sub hl [1, 3, 4] rfl
        exact hexit a H locs ls (by rw [← ha, List.drop_eq_nil_of_le (by omega)]; rfl) hl hw
      | succ d ih =>
        intro i0 a H locs ls hi ha hl hw
        have hbd : i0 < (L (sj (opp (sI σ 1 o)))).length := by omega
        have hm := (hLj.1 (L (sj (opp (sI σ 1 o))))[i0]).mp (List.getElem_mem hbd)
        rw [drop_at hbd] at ha
        refine lv_iload S.1 S.2.1 d_B_couldGoWhole_25 (lv_at hl 0 rfl) ?_
        refine lv_aload_n S.1 S.2.1 d_B_couldGoWhole_27 rfl (lv_at hl 2 rfl) ?_
        refine m_ci hw (va_runV (As := []) (rest := [.int (nI i0)]) S (c_AL_size l γ M (bal β (sj (opp (sI σ 1 o)))) md _ _ hl0) (m_cwV 0 S g185 g186 g187 g44 g188 rfl rfl ⟨by decide +kernel, by decide +kernel, by decide +kernel⟩ ⟨(Nat.le_of_ble_eq_true rfl), (Nat.le_of_ble_eq_true rfl)⟩) (hw.preV hl0 cl_AL.1) rfl rfl hl.1 rfl (lv_room (Nat.le_of_ble_eq_true rfl)) d_B_couldGoWhole_28 ⟨(Nat.zero_le _), (Nat.zero_le _)⟩) (fun r1 M1 H locs hp hw => ?_)
        obtain ⟨rfl, hM1⟩ := hp
        rw [hM1] at hw
        refine lv_icmp_ge (tgt := 87) S.1 S.2.1 d_B_couldGoWhole_31 rfl (fun h => absurd h (nI_ge (by omega) (by omega))) (fun _ => ?_)
        refine lv_aload_n S.1 S.2.1 d_B_couldGoWhole_34 rfl (lv_at hl 2 rfl) ?_
        refine lv_iload S.1 S.2.1 d_B_couldGoWhole_35 (lv_at hl 0 rfl) ?_
        refine m_cq hw (va_runV (As := [.int (nI i0)]) (rest := []) S (c_AL_get l γ M (bal β (sj (opp (sI σ 1 o)))) r0 (cp (sj (opp (sI σ 1 o)))) ((L (sj (opp (sI σ 1 o)))).map oa) hA i0 (by omega)) (m_cwV 1 S g189 g190 g191 g44 g192 rfl rfl ⟨by decide +kernel, by decide +kernel, by decide +kernel⟩ ⟨(Nat.le_of_ble_eq_true rfl), (Nat.le_of_ble_eq_true rfl)⟩) (hw.preV hl0 cl_AL.1) rfl rfl hl.1 rfl (lv_room (Nat.le_of_ble_eq_true rfl)) d_B_couldGoWhole_37 ⟨(Nat.zero_le _), (Nat.zero_le _)⟩) (fun r1 M1 H locs hp hw => ?_)
        obtain ⟨rfl, hM1⟩ := hp
        rw [hM1] at hw
        have hge := map_at (oa := oa) hbd
        refine W.eq (g2 := F0 m 40 ls [.ref (oa (L (sj (opp (sI σ 1 o))))[i0])]) (by rw [hge]; rfl) ?_
        refine m_cast S hw cl_O (hC.ord _ hm.1) g203 d_B_couldGoWhole_40 ?_
        refine lv_astore S.1 S.2.1 d_B_couldGoWhole_43 hl (by decide) rfl (fun ls hl => ?_)
        have hl : lv_has ls 7 [(6, .ref (oa (L (sj (opp (sI σ 1 o))))[i0])), (5, .int (nI i0)), (3, .long a), (2, .ref (bal β (sj (opp (sI σ 1 o))))), (0, .ref (bx β)), (1, .ref (oa o))] := hl
        refine lv_aload_n S.1 S.2.1 d_B_couldGoWhole_45 rfl (lv_at hl 5 rfl) ?_
        refine lv_aload S.1 S.2.1 d_B_couldGoWhole_46 (lv_at hl 0 rfl) ?_
        refine m_get S hw cl_O (hC.ord _ hm.1) 5 (by decide) g395 (fun _ h => h) rfl d_B_couldGoWhole_48 ?_
        refine m_ci hw (va_runV (As := [.int ((sI σ) 2 ((L (sj (opp (sI σ 1 o))))[i0]))]) (rest := []) S (c_O_takes l γ M (oa o) _ _ _ _ _ _ _ _ _ _ hOo (sI σ 2 (L (sj (opp (sI σ 1 o))))[i0])) (m_cwV 1 S g262 g263 g264 g54 g265 rfl rfl ⟨by decide +kernel, by decide +kernel, by decide +kernel⟩ ⟨(Nat.le_of_ble_eq_true rfl), (Nat.le_of_ble_eq_true rfl)⟩) (hw.preV hOo cl_O.1) rfl rfl hl.1 rfl (lv_room (Nat.le_of_ble_eq_true rfl)) d_B_couldGoWhole_51 ⟨(Nat.zero_le _), (Nat.zero_le _)⟩) (fun r1 M1 H locs hp hw => ?_)
        obtain ⟨rfl, hM1⟩ := hp
        rw [hM1] at hw
        refine W.eq (g2 := F0 m 54 ls [.int (b2i (tk (sI σ) o (sI σ 2 (L (sj (opp (sI σ 1 o))))[i0])))]) rfl ?_
        refine lv_if_eq (tgt := 87) S.1 S.2.1 d_B_couldGoWhole_54 rfl (fun h54 => ?_) (fun h54 => ?_)
        · have hl := lv_sub hl [2, 4, 5] rfl
          exact hexit a H locs ls (by rw [← ha]; exact (avl_nt (b2i_0.mp h54)).symm) hl hw
        · refine lv_aload_n S.1 S.2.1 d_B_couldGoWhole_57 rfl (lv_at hl 4 rfl) ?_
          refine lv_aload S.1 S.2.1 d_B_couldGoWhole_58 (lv_at hl 0 rfl) ?_
          refine m_get S hw cl_O (hC.ord _ hm.1) 5 (by decide) g395 (fun _ h => h) rfl d_B_couldGoWhole_60 ?_
          refine m_ci hw (va_runV (As := [.int ((sI σ) 2 ((L (sj (opp (sI σ 1 o))))[i0]))]) (rest := []) S (c_B_isBeyondBand l γ M β σ.2.1 hC.book (sI σ 2 (L (sj (opp (sI σ 1 o))))[i0])) (m_cwV 1 S g514 g516 g12 g41 g517 rfl rfl ⟨by decide +kernel, by decide +kernel, by decide +kernel⟩ ⟨(Nat.le_of_ble_eq_true rfl), (Nat.le_of_ble_eq_true rfl)⟩) (hw.preV hC.book cl_B.1) rfl rfl hl.1 rfl (lv_room (Nat.le_of_ble_eq_true rfl)) d_B_couldGoWhole_63 ⟨(Nat.zero_le _), (Nat.zero_le _)⟩) (fun r1 M1 H locs hp hw => ?_)
          obtain ⟨rfl, hM1⟩ := hp
          rw [hM1] at hw
          refine lv_if_eq (tgt := 72) S.1 S.2.1 d_B_couldGoWhole_66 rfl (fun h66 => ?_) (fun h66 => ?_)
          · refine lv_lload_n S.1 S.2.1 d_B_couldGoWhole_72 rfl (lv_at hl 2 rfl) ?_
            refine lv_aload S.1 S.2.1 d_B_couldGoWhole_73 (lv_at hl 0 rfl) ?_
            refine m_get S hw cl_O (hC.ord _ hm.1) 6 (by decide) g398 (fun _ h => h) rfl d_B_couldGoWhole_75 ?_
            refine lv_i2l S.1 S.2.1 d_B_couldGoWhole_78 rfl ?_
            refine lv_ladd S.1 S.2.1 d_B_couldGoWhole_79 ?_
            refine lv_lstore_n S.1 S.2.1 d_B_couldGoWhole_80 rfl hl (by decide) rfl (fun ls hl => ?_)
            have hl : lv_has ls 7 [(3, .long (a + (((sI σ) 3 ((L (sj (opp (sI σ 1 o))))[i0])).toInt64))), (6, .ref (oa (L (sj (opp (sI σ 1 o))))[i0])), (5, .int (nI i0)), (2, .ref (bal β (sj (opp (sI σ 1 o))))), (0, .ref (bx β)), (1, .ref (oa o))] := hl
            refine lv_iinc (k := 2) (v := nI (i0 + 1)) S.1 S.2.1 d_B_couldGoWhole_81 hl rfl (nI_1 i0) (by decide) rfl (fun ls hl => ?_)
            have hl : lv_has ls 7 [(5, .int (nI (i0 + 1))), (3, .long (a + (((sI σ) 3 ((L (sj (opp (sI σ 1 o))))[i0])).toInt64))), (6, .ref (oa (L (sj (opp (sI σ 1 o))))[i0])), (2, .ref (bal β (sj (opp (sI σ 1 o))))), (0, .ref (bx β)), (1, .ref (oa o))] := hl
            refine lv_goto (tgt := 25) S.1 S.2.1 d_B_couldGoWhole_84 rfl ?_
            have hl := lv_sub hl [0, 1, 3, 4, 5] rfl
            exact ih (i0 + 1) _ H locs ls (by omega) (by rw [← ha]; exact (avl_go (b2i_n0.mp h54) (b2i_0.mp h66)).symm) hl hw
          · refine lv_goto (tgt := 87) S.1 S.2.1 d_B_couldGoWhole_69 rfl ?_
            have hl := lv_sub hl [2, 4, 5] rfl
            exact hexit a H locs ls (by rw [← ha]; exact (avl_by (b2i_n0.mp h66)).symm) hl hw
    have hl := lv_sub hl [0, 1, 2, 3, 4] rfl
    exact loop _ 0 0 H locs ls (Nat.zero_add _) rfl hl hw
  refine lv_if_ne (tgt := 12) S.1 S.2.1 d_B_couldGoWhole_5 rfl (fun h5 => ?_) (fun h5 => ?_)
  · refine lv_iconst (v := 0) S.1 S.2.1 d_B_couldGoWhole_12 (by decide) ?_
    refine W.eq (g2 := F0 m 13 ls [.int (opp (sI σ 1 o)), .ref (bx β)]) (congrArg (fun z => F0 m 13 ls [.int z, .ref (bx β)]) (show (0 : Int32) = opp (sI σ 1 o) from (if_neg h5).symm)) ?_
    exact cont _ _ ls hl hw
  · refine lv_iconst (v := 1) S.1 S.2.1 d_B_couldGoWhole_8 (by decide) ?_
    refine lv_goto (tgt := 13) S.1 S.2.1 d_B_couldGoWhole_9 rfl ?_
    refine W.eq (g2 := F0 m 13 ls [.int (opp (sI σ 1 o)), .ref (bx β)]) (congrArg (fun z => F0 m 13 ls [.int z, .ref (bx β)]) (show (1 : Int32) = opp (sI σ 1 o) from (if_pos h5).symm)) ?_
    exact cont _ _ ls hl hw
