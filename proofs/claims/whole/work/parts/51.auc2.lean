/-! CallBook$Auction (2): workOut -/
set_option maxHeartbeats 4000000 in
set_option maxRecDepth 100000 in
theorem c_A_workOut (l : Launch) (γ : mG) (M : mMap) (q0 l1 l2 r1 r2 c1 c2 n : Nat) (K1 K2 : List Nat) (oa : Nat → Nat) (I : Co) (hO : OR M oa I n) (hOK : oOK I n) (hn : n ≤ 250) (a : AU) (ha : M q0 = some (.inr (1, auc a))) (h1 : AL γ M l1 r1 c1 (K1.map oa)) (h2 : AL γ M l2 r2 c2 (K2.map oa)) (hL1 : Line I n 1 K1) (hL2 : Line I n 0 K2) (rf : Int32) : Met l y_A_workOut w_A_workOut ({ frames := 4, cells := 0, slots := 0, locals := 87 } : Room) (mPc γ M [.ref q0, .ref l1, .ref l2, .int rf]) (mQv γ (fun M' => M' = mU M q0 (.inr (1, auc (aAt I K1 K2 rf 2000))))) 0 0 (mA (gz γ)) := by
  refine m_enter (by decide) (Nat.le_of_ble_eq_true rfl) ?_
  intro p e s m below meth c ls S hr hlk hnm hl hw
  have hl : lv_has ls 11 [(0, .ref q0), (1, .ref l1), (2, .ref l2), (3, .int rf)] := hl
  obtain ⟨⟨md1, hl1⟩, -⟩ := id h1
  obtain ⟨⟨md2, hl2⟩, -⟩ := id h2
  have hl1A : ∀ e, (mU M q0 e) l1 = some (.inr (0, [.int md1, .ref r1, .int (nI (K1.map oa).length)])) := fun e => mU_to (m_kind hl1 ha (fun z => by cases z)) hl1
  have hl2A : ∀ e, (mU M q0 e) l2 = some (.inr (0, [.int md2, .ref r2, .int (nI (K2.map oa).length)])) := fun e => mU_to (m_kind hl2 ha (fun z => by cases z)) hl2
  have hA1 : ∀ e, AL γ (mU M q0 e) l1 r1 c1 (K1.map oa) := fun e => h1.setO ha (by decide)
  have hA2 : ∀ e, AL γ (mU M q0 e) l2 r2 c2 (K2.map oa) := fun e => h2.setO ha (by decide)
  have hOA : ∀ e, OR (mU M q0 e) oa I n := fun e o ho => mU_to (m_kind (hO o ho) ha (fun z => by cases z)) (hO o ho)
  have hm1 : ∀ y, y ∈ K1 → y < n := fun y hy => ((hL1.1 y).mp hy).1
  have hm2 : ∀ y, y ∈ K2 → y < n := fun y hy => ((hL2.1 y).mp hy).1
  have hs1 : ∀ y, y ∈ K1 → I 1 y = 1 := fun y hy => (onS_iff.mp ((hL1.1 y).mp hy).2).2
  have hs2 : ∀ y, y ∈ K2 → I 1 y = 0 := fun y hy => (onS_iff.mp ((hL2.1 y).mp hy).2).2
  have hml1 : (K1.map oa).length = K1.length := List.length_map _
  have hml2 : (K2.map oa).length = K2.length := List.length_map _
  have hlen1 : K1.length ≤ 250 := hL1.len hn
  have hlen2 : K2.length ≤ 250 := hL2.len hn
  refine lv_aload_n S.1 S.2.1 d_A_workOut_0 rfl (lv_at hl 0 rfl) ?_
  refine lv_iconst (v := (-1)) S.1 S.2.1 d_A_workOut_1 (by decide) ?_
  refine m_put S hw cl_A ha 0 (by decide) g132 (fun _ h => h) rfl rfl rfl (Nat.le_of_ble_eq_true rfl) d_A_workOut_2 (fun H locs hw => ?_)
  have hw : mW γ (mU M q0 (.inr (1, [.int (-1), .long a.2.1, .long a.2.2]))) s H locs := hw
  refine lv_aload_n S.1 S.2.1 d_A_workOut_5 rfl (lv_at hl 0 rfl) ?_
  refine lv_lconst (v := 0) S.1 S.2.1 d_A_workOut_6 (by decide) ?_
  refine m_put S hw cl_A (mU_eq _ _ _) 1 (by decide) g134 (fun _ h => h) rfl rfl rfl (Nat.le_of_ble_eq_true rfl) d_A_workOut_7 (fun H locs hw => ?_)
  have hw : mW γ (mU (mU M q0 (.inr (1, [.int (-1), .long a.2.1, .long a.2.2]))) q0 (.inr (1, [.int (-1), .long 0, .long a.2.2]))) s H locs := hw
  refine lv_aload_n S.1 S.2.1 d_A_workOut_10 rfl (lv_at hl 0 rfl) ?_
  refine lv_lconst (v := 0) S.1 S.2.1 d_A_workOut_11 (by decide) ?_
  refine m_put S hw cl_A (mU_eq _ _ _) 2 (by decide) g136 (fun _ h => h) rfl rfl rfl (Nat.le_of_ble_eq_true rfl) d_A_workOut_12 (fun H locs hw => ?_)
  have hw : mW γ (mU (mU (mU M q0 (.inr (1, [.int (-1), .long a.2.1, .long a.2.2]))) q0 (.inr (1, [.int (-1), .long 0, .long a.2.2]))) q0 (.inr (1, [.int (-1), .long 0, .long 0]))) s H locs := hw
  rw [mU_uu, mU_uu] at hw
  refine lv_aload_n S.1 S.2.1 d_A_workOut_15 rfl (lv_at hl 1 rfl) ?_
  refine m_ci hw (va_runV (As := []) (rest := []) S (c_AL_size l γ (mU M q0 (.inr (1, auc (aAt I K1 K2 rf 0)))) l1 md1 _ _ (hl1A _)) (m_cwV 0 S g619 g186 g187 g44 g188 rfl rfl ⟨by decide +kernel, by decide +kernel, by decide +kernel⟩ ⟨(Nat.le_of_ble_eq_true rfl), (Nat.le_of_ble_eq_true rfl)⟩) (hw.preV (hl1A _) cl_AL.1) rfl rfl hl.1 rfl (lv_room (Nat.le_of_ble_eq_true rfl)) d_A_workOut_16 ⟨(Nat.zero_le _), (Nat.zero_le _)⟩) (fun r1 M1 H locs hp hw => ?_)
  obtain ⟨rfl, hM1⟩ := hp
  rw [hM1] at hw
  refine lv_istore S.1 S.2.1 d_A_workOut_19 hl (by decide) rfl (fun ls hl => ?_)
  have hl : lv_has ls 11 [(4, .int (nI (K1.map oa).length)), (0, .ref q0), (1, .ref l1), (2, .ref l2), (3, .int rf)] := hl
  refine lv_iconst (v := 0) S.1 S.2.1 d_A_workOut_21 (by decide) ?_
  refine lv_istore S.1 S.2.1 d_A_workOut_22 hl (by decide) rfl (fun ls hl => ?_)
  have hl : lv_has ls 11 [(5, .int 0), (4, .int (nI (K1.map oa).length)), (0, .ref q0), (1, .ref l1), (2, .ref l2), (3, .int rf)] := hl
  refine lv_aload_n S.1 S.2.1 d_A_workOut_24 rfl (lv_at hl 3 rfl) ?_
  refine m_cl hw (va_runS (As := [.ref l1]) (rest := []) S (c_A_leftOf l γ (mU M q0 (.inr (1, auc (aAt I K1 K2 rf 0)))) l1 r1 c1 n K1 oa I (hOA _) (hA1 _) hm1 hlen1) (m_cwS 1 S g620 g621 g47 g622 rfl rfl ⟨by decide +kernel, by decide +kernel, by decide +kernel⟩ ⟨(Nat.le_of_ble_eq_true rfl), (Nat.le_of_ble_eq_true rfl)⟩) hw.preS rfl rfl hl.1 rfl (lv_room (Nat.le_of_ble_eq_true rfl)) d_A_workOut_25 ⟨(Nat.zero_le _), (Nat.zero_le _)⟩) (fun r1 M1 H locs hp hw => ?_)
  obtain ⟨rfl, hM1⟩ := hp
  rw [hM1] at hw
  refine lv_lstore S.1 S.2.1 d_A_workOut_28 hl (by decide) rfl (fun ls hl => ?_)
  have hl : lv_has ls 11 [(6, .long (lSum I K1)), (5, .int 0), (4, .int (nI (K1.map oa).length)), (0, .ref q0), (1, .ref l1), (2, .ref l2), (3, .int rf)] := hl
  refine lv_lconst (v := 0) S.1 S.2.1 d_A_workOut_30 (by decide) ?_
  refine lv_lstore S.1 S.2.1 d_A_workOut_31 hl (by decide) rfl (fun ls hl => ?_)
  have hl : lv_has ls 11 [(8, .long 0), (6, .long (lSum I K1)), (5, .int 0), (4, .int (nI (K1.map oa).length)), (0, .ref q0), (1, .ref l1), (2, .ref l2), (3, .int rf)] := hl
  refine lv_iconst (v := 1) S.1 S.2.1 d_A_workOut_33 (by decide) ?_
  refine lv_istore S.1 S.2.1 d_A_workOut_34 hl (by decide) rfl (fun ls hl => ?_)
  have hl : lv_has ls 11 [(10, .int 1), (8, .long 0), (6, .long (lSum I K1)), (5, .int 0), (4, .int (nI (K1.map oa).length)), (0, .ref q0), (1, .ref l1), (2, .ref l2), (3, .int rf)] := hl
  have loop : ∀ (d pp k0 j0 : Nat) (w0 g0 : Int64) (H : Heap) (locs : List Loc) (ls : Array Slot), pp + d = 2000 → k0 ≤ K1.length → j0 ≤ K2.length → w0 = lSum I (K1.take k0) → g0 = lSum I (K2.take j0) → (∀ x, x ∈ K1.drop k0 → tk I x (nI (pp + 1)) = false) → (∀ x, x ∈ K2.take j0 → tk I x (nI (pp + 1)) = true) → lv_has ls 11 [(10, .int (nI (pp + 1))), (8, .long g0), (6, .long w0), (5, .int (nI j0)), (4, .int (nI k0)), (3, .int rf), (2, .ref l2), (1, .ref l1), (0, .ref q0)] → mW γ (mU M q0 (.inr (1, auc (aAt I K1 K2 rf pp)))) s H locs → W p l e ({ frames := 4, cells := 0, slots := 0, locals := 87 } : Room) s m #[.ref q0, .ref l1, .ref l2, .int rf] below meth c H locs 0 0 (MQ below (mQv γ (fun M' => M' = mU M q0 (.inr (1, auc (aAt I K1 K2 rf 2000))))) #[.ref q0, .ref l1, .ref l2, .int rf] s 0 0 (mA (gz γ))) (F0 m 36 ls []) := by
    intro d
    induction d with
    | zero =>
      intro pp k0 j0 w0 g0 H locs ls hp hk hj hw0 hg0 hd1 ht2 hl hw
      have hp2 : pp = 2000 := by omega
      subst hp2
      refine lv_iload S.1 S.2.1 d_A_workOut_36 (lv_at hl 0 rfl) ?_
      refine lv_sipush (v := 2000) S.1 S.2.1 d_A_workOut_38 (by decide) ?_
      refine lv_icmp_gt (tgt := 159) S.1 S.2.1 d_A_workOut_41 rfl (fun _ => ?_) (fun h => absurd (show nI 2000 < nI (2000 + 1) from nI_lt (by omega) (by omega)) h)
      exact m_vret S hlk hr hw rfl (Nat.le_refl _) (Nat.le_refl _) d_A_workOut_159
    | succ d ih =>
      intro pp k0 j0 w0 g0 H locs ls hp hk hj hw0 hg0 hd1 ht2 hl hw
      have hpi : (nI (pp + 1)).toInt ≤ (nI (pp + 1 + 1)).toInt := by rw [nI_toInt (by omega), nI_toInt (by omega)]; omega
      have in2 : ∀ (e0 j k : Nat) (wt g : Int64) (H : Heap) (locs : List Loc) (ls : Array Slot), j + e0 = K2.length → k ≤ K1.length → wt = lSum I (K1.take k) → (∀ x, x ∈ K1.drop k → tk I x (nI (pp + 1)) = false) → wt = sIf I (fun r => tk I r (nI (pp + 1))) K1 → g = lSum I (K2.take j) → (∀ x, x ∈ K2.take j → tk I x (nI (pp + 1)) = true) → lv_has ls 11 [(10, .int (nI (pp + 1))), (8, .long g), (6, .long wt), (5, .int (nI j)), (4, .int (nI k)), (3, .int rf), (2, .ref l2), (1, .ref l1), (0, .ref q0)] → mW γ (mU M q0 (.inr (1, auc (aAt I K1 K2 rf pp)))) s H locs → W p l e ({ frames := 4, cells := 0, slots := 0, locals := 87 } : Room) s m #[.ref q0, .ref l1, .ref l2, .int rf] below meth c H locs 0 0 (MQ below (mQv γ (fun M' => M' = mU M q0 (.inr (1, auc (aAt I K1 K2 rf 2000))))) #[.ref q0, .ref l1, .ref l2, .int rf] s 0 0 (mA (gz γ))) (F0 m 92 ls []) := by
        intro e0
        induction e0 with
        | zero =>
          intro j k wt g H locs ls hje hk2 hwt hd2 hws hg htj hl hw
          refine lv_iload S.1 S.2.1 d_A_workOut_92 (lv_at hl 3 rfl) ?_
          refine lv_aload_n S.1 S.2.1 d_A_workOut_94 rfl (lv_at hl 6 rfl) ?_
          refine m_ci hw (va_runV (As := []) (rest := [.int (nI j)]) S (c_AL_size l γ (mU M q0 (.inr (1, auc (aAt I K1 K2 rf pp)))) l2 md2 _ _ (hl2A _)) (m_cwV 0 S g619 g186 g187 g44 g188 rfl rfl ⟨by decide +kernel, by decide +kernel, by decide +kernel⟩ ⟨(Nat.le_of_ble_eq_true rfl), (Nat.le_of_ble_eq_true rfl)⟩) (hw.preV (hl2A _) cl_AL.1) rfl rfl hl.1 rfl (lv_room (Nat.le_of_ble_eq_true rfl)) d_A_workOut_95 ⟨(Nat.zero_le _), (Nat.zero_le _)⟩) (fun r1 M1 H locs hp hw => ?_)
          obtain ⟨rfl, hM1⟩ := hp
          rw [hM1] at hw
          refine lv_icmp_ge (tgt := 142) S.1 S.2.1 d_A_workOut_98 rfl (fun _ => ?_) (fun h => absurd (nI_le (by omega) (by omega)) h)
          have hgs : g = sIf I (fun r => tk I r (nI (pp + 1))) K2 := by rw [sIf_cut htj (fun x hx => by rw [List.drop_eq_nil_of_le (by omega)] at hx; cases hx)]; exact hg
          refine lv_aload_n S.1 S.2.1 d_A_workOut_142 rfl (lv_at hl 8 rfl) ?_
          refine lv_iload S.1 S.2.1 d_A_workOut_143 (lv_at hl 0 rfl) ?_
          refine lv_lload S.1 S.2.1 d_A_workOut_145 (lv_at hl 2 rfl) ?_
          refine lv_lload S.1 S.2.1 d_A_workOut_147 (lv_at hl 1 rfl) ?_
          refine lv_iload_n S.1 S.2.1 d_A_workOut_149 rfl (lv_at hl 5 rfl) ?_
          refine m_cv hw (va_runV (As := [.int (nI (pp + 1)), .long wt, .long g, .int rf]) (rest := []) S (c_A_weigh l γ (mU M q0 (.inr (1, auc (aAt I K1 K2 rf pp)))) q0 (aAt I K1 K2 rf pp) (mU_eq _ _ _) (nI (pp + 1)) wt g rf) (m_cwV 4 S g626 g628 g19 g47 g629 rfl rfl ⟨by decide +kernel, by decide +kernel, by decide +kernel⟩ ⟨(Nat.le_of_ble_eq_true rfl), (Nat.le_of_ble_eq_true rfl)⟩) (hw.preV (mU_eq _ _ _) cl_A.1) rfl rfl hl.1 rfl (lv_room (Nat.le_of_ble_eq_true rfl)) d_A_workOut_150 ⟨(Nat.zero_le _), (Nat.zero_le _)⟩) (fun M1 H locs hp hw => ?_)
          have hpe : M1 = mU M q0 (.inr (1, auc (aAt I K1 K2 rf (pp + 1)))) := by rw [hp, mU_uu, hws, hgs]; rfl
          rw [hpe] at hw
          refine lv_iinc (k := 0) (v := nI (pp + 1 + 1)) S.1 S.2.1 d_A_workOut_153 hl rfl (nI_1 (pp + 1)) (by decide) rfl (fun ls hl => ?_)
          have hl : lv_has ls 11 [(10, .int (nI (pp + 1 + 1))), (8, .long g), (6, .long wt), (5, .int (nI j)), (4, .int (nI k)), (3, .int rf), (2, .ref l2), (1, .ref l1), (0, .ref q0)] := hl
          refine lv_goto (tgt := 36) S.1 S.2.1 d_A_workOut_156 rfl ?_
          have hl := lv_sub hl [0, 1, 2, 3, 4, 5, 6, 7, 8] rfl
          exact ih (pp + 1) k j wt g H locs ls (by omega) hk2 (by omega) hwt hg (fun x hx => tk_b (hs1 x (List.mem_of_mem_drop hx)) hpi (hd2 x hx)) (fun x hx => tk_s (hs2 x (List.mem_of_mem_take hx)) hpi (htj x hx)) hl hw
        | succ e0 ih2 =>
          intro j k wt g H locs ls hje hk2 hwt hd2 hws hg htj hl hw
          have hbd : j < K2.length := by omega
          have hmj := hm2 K2[j] (List.getElem_mem hbd)
          refine lv_iload S.1 S.2.1 d_A_workOut_92 (lv_at hl 3 rfl) ?_
          refine lv_aload_n S.1 S.2.1 d_A_workOut_94 rfl (lv_at hl 6 rfl) ?_
          refine m_ci hw (va_runV (As := []) (rest := [.int (nI j)]) S (c_AL_size l γ (mU M q0 (.inr (1, auc (aAt I K1 K2 rf pp)))) l2 md2 _ _ (hl2A _)) (m_cwV 0 S g619 g186 g187 g44 g188 rfl rfl ⟨by decide +kernel, by decide +kernel, by decide +kernel⟩ ⟨(Nat.le_of_ble_eq_true rfl), (Nat.le_of_ble_eq_true rfl)⟩) (hw.preV (hl2A _) cl_AL.1) rfl rfl hl.1 rfl (lv_room (Nat.le_of_ble_eq_true rfl)) d_A_workOut_95 ⟨(Nat.zero_le _), (Nat.zero_le _)⟩) (fun r1 M1 H locs hp hw => ?_)
          obtain ⟨rfl, hM1⟩ := hp
          rw [hM1] at hw
          refine lv_icmp_ge (tgt := 142) S.1 S.2.1 d_A_workOut_98 rfl (fun h => absurd h (nI_ge (by omega) (by omega))) (fun _ => ?_)
          refine lv_aload_n S.1 S.2.1 d_A_workOut_101 rfl (lv_at hl 6 rfl) ?_
          refine lv_iload S.1 S.2.1 d_A_workOut_102 (lv_at hl 3 rfl) ?_
          refine m_cq hw (va_runV (As := [.int (nI j)]) (rest := []) S (c_AL_get l γ (mU M q0 (.inr (1, auc (aAt I K1 K2 rf pp)))) l2 r2 c2 (K2.map oa) (hA2 _) j (by omega)) (m_cwV 1 S g623 g190 g191 g44 g192 rfl rfl ⟨by decide +kernel, by decide +kernel, by decide +kernel⟩ ⟨(Nat.le_of_ble_eq_true rfl), (Nat.le_of_ble_eq_true rfl)⟩) (hw.preV (hl2A _) cl_AL.1) rfl rfl hl.1 rfl (lv_room (Nat.le_of_ble_eq_true rfl)) d_A_workOut_104 ⟨(Nat.zero_le _), (Nat.zero_le _)⟩) (fun r1 M1 H locs hp hw => ?_)
          obtain ⟨rfl, hM1⟩ := hp
          rw [hM1] at hw
          have hge := map_at (oa := oa) hbd
          refine W.eq (g2 := F0 m 107 ls [.ref (oa K2[j])]) (by rw [hge]; rfl) ?_
          refine m_cast S hw cl_O (hOA _ _ hmj) g624 d_A_workOut_107 ?_
          refine lv_iload S.1 S.2.1 d_A_workOut_110 (lv_at hl 0 rfl) ?_
          refine m_ci hw (va_runV (As := [.int (nI (pp + 1))]) (rest := []) S (c_O_takes l γ (mU M q0 (.inr (1, auc (aAt I K1 K2 rf pp)))) (oa K2[j]) _ _ _ _ _ _ _ _ _ _ (hOA _ _ hmj) (nI (pp + 1))) (m_cwV 1 S g625 g263 g264 g54 g265 rfl rfl ⟨by decide +kernel, by decide +kernel, by decide +kernel⟩ ⟨(Nat.le_of_ble_eq_true rfl), (Nat.le_of_ble_eq_true rfl)⟩) (hw.preV (hOA _ _ hmj) cl_O.1) rfl rfl hl.1 rfl (lv_room (Nat.le_of_ble_eq_true rfl)) d_A_workOut_112 ⟨(Nat.zero_le _), (Nat.zero_le _)⟩) (fun r1 M1 H locs hp hw => ?_)
          obtain ⟨rfl, hM1⟩ := hp
          rw [hM1] at hw
          refine W.eq (g2 := F0 m 115 ls [.int (b2i (tk I K2[j] (nI (pp + 1))))]) rfl ?_
          refine lv_if_eq (tgt := 142) S.1 S.2.1 d_A_workOut_115 rfl (fun h115 => ?_) (fun h115 => ?_)
          · have hgs : g = sIf I (fun r => tk I r (nI (pp + 1))) K2 := by rw [sIf_cut htj (hL2.suf hOK hbd (b2i_0.mp h115))]; exact hg
            refine lv_aload_n S.1 S.2.1 d_A_workOut_142 rfl (lv_at hl 8 rfl) ?_
            refine lv_iload S.1 S.2.1 d_A_workOut_143 (lv_at hl 0 rfl) ?_
            refine lv_lload S.1 S.2.1 d_A_workOut_145 (lv_at hl 2 rfl) ?_
            refine lv_lload S.1 S.2.1 d_A_workOut_147 (lv_at hl 1 rfl) ?_
            refine lv_iload_n S.1 S.2.1 d_A_workOut_149 rfl (lv_at hl 5 rfl) ?_
            refine m_cv hw (va_runV (As := [.int (nI (pp + 1)), .long wt, .long g, .int rf]) (rest := []) S (c_A_weigh l γ (mU M q0 (.inr (1, auc (aAt I K1 K2 rf pp)))) q0 (aAt I K1 K2 rf pp) (mU_eq _ _ _) (nI (pp + 1)) wt g rf) (m_cwV 4 S g626 g628 g19 g47 g629 rfl rfl ⟨by decide +kernel, by decide +kernel, by decide +kernel⟩ ⟨(Nat.le_of_ble_eq_true rfl), (Nat.le_of_ble_eq_true rfl)⟩) (hw.preV (mU_eq _ _ _) cl_A.1) rfl rfl hl.1 rfl (lv_room (Nat.le_of_ble_eq_true rfl)) d_A_workOut_150 ⟨(Nat.zero_le _), (Nat.zero_le _)⟩) (fun M1 H locs hp hw => ?_)
            have hpe : M1 = mU M q0 (.inr (1, auc (aAt I K1 K2 rf (pp + 1)))) := by rw [hp, mU_uu, hws, hgs]; rfl
            rw [hpe] at hw
            refine lv_iinc (k := 0) (v := nI (pp + 1 + 1)) S.1 S.2.1 d_A_workOut_153 hl rfl (nI_1 (pp + 1)) (by decide) rfl (fun ls hl => ?_)
            have hl : lv_has ls 11 [(10, .int (nI (pp + 1 + 1))), (8, .long g), (6, .long wt), (5, .int (nI j)), (4, .int (nI k)), (3, .int rf), (2, .ref l2), (1, .ref l1), (0, .ref q0)] := hl
            refine lv_goto (tgt := 36) S.1 S.2.1 d_A_workOut_156 rfl ?_
            have hl := lv_sub hl [0, 1, 2, 3, 4, 5, 6, 7, 8] rfl
            exact ih (pp + 1) k j wt g H locs ls (by omega) hk2 (by omega) hwt hg (fun x hx => tk_b (hs1 x (List.mem_of_mem_drop hx)) hpi (hd2 x hx)) (fun x hx => tk_s (hs2 x (List.mem_of_mem_take hx)) hpi (htj x hx)) hl hw
          · refine lv_lload S.1 S.2.1 d_A_workOut_118 (lv_at hl 1 rfl) ?_
            refine lv_aload_n S.1 S.2.1 d_A_workOut_120 rfl (lv_at hl 6 rfl) ?_
            refine lv_iload S.1 S.2.1 d_A_workOut_121 (lv_at hl 3 rfl) ?_
            refine m_cq hw (va_runV (As := [.int (nI j)]) (rest := [.long g]) S (c_AL_get l γ (mU M q0 (.inr (1, auc (aAt I K1 K2 rf pp)))) l2 r2 c2 (K2.map oa) (hA2 _) j (by omega)) (m_cwV 1 S g623 g190 g191 g44 g192 rfl rfl ⟨by decide +kernel, by decide +kernel, by decide +kernel⟩ ⟨(Nat.le_of_ble_eq_true rfl), (Nat.le_of_ble_eq_true rfl)⟩) (hw.preV (hl2A _) cl_AL.1) rfl rfl hl.1 rfl (lv_room (Nat.le_of_ble_eq_true rfl)) d_A_workOut_123 ⟨(Nat.zero_le _), (Nat.zero_le _)⟩) (fun r1 M1 H locs hp hw => ?_)
            obtain ⟨rfl, hM1⟩ := hp
            rw [hM1] at hw
            have hge := map_at (oa := oa) hbd
            refine W.eq (g2 := F0 m 126 ls [.ref (oa K2[j]), .long g]) (by rw [hge]; rfl) ?_
            refine m_cast S hw cl_O (hOA _ _ hmj) g624 d_A_workOut_126 ?_
            refine m_get S hw cl_O (hOA _ _ hmj) 6 (by decide) g397 (fun _ h => h) rfl d_A_workOut_129 ?_
            refine lv_i2l S.1 S.2.1 d_A_workOut_132 rfl ?_
            refine lv_ladd S.1 S.2.1 d_A_workOut_133 ?_
            refine lv_lstore S.1 S.2.1 d_A_workOut_134 hl (by decide) rfl (fun ls hl => ?_)
            have hl : lv_has ls 11 [(8, .long (g + ((I 3 (K2[j])).toInt64))), (10, .int (nI (pp + 1))), (6, .long wt), (5, .int (nI j)), (4, .int (nI k)), (3, .int rf), (2, .ref l2), (1, .ref l1), (0, .ref q0)] := hl
            refine lv_iinc (k := 3) (v := nI (j + 1)) S.1 S.2.1 d_A_workOut_136 hl rfl (nI_1 j) (by decide) rfl (fun ls hl => ?_)
            have hl : lv_has ls 11 [(5, .int (nI (j + 1))), (8, .long (g + ((I 3 (K2[j])).toInt64))), (10, .int (nI (pp + 1))), (6, .long wt), (4, .int (nI k)), (3, .int rf), (2, .ref l2), (1, .ref l1), (0, .ref q0)] := hl
            refine lv_goto (tgt := 92) S.1 S.2.1 d_A_workOut_139 rfl ?_
            have hl := lv_sub hl [2, 1, 3, 0, 4, 5, 6, 7, 8] rfl
            exact ih2 (j + 1) k wt _ H locs ls (by omega) hk2 hwt hd2 hws (by rw [lSum_up hbd, hg]) (hL2.pre hOK hbd (b2i_n0.mp h115)) hl hw
      have in1 : ∀ (k : Nat) (wt : Int64) (H : Heap) (locs : List Loc) (ls : Array Slot), k ≤ K1.length → wt = lSum I (K1.take k) → (∀ x, x ∈ K1.drop k → tk I x (nI (pp + 1)) = false) → lv_has ls 11 [(10, .int (nI (pp + 1))), (8, .long g0), (6, .long wt), (5, .int (nI j0)), (4, .int (nI k)), (3, .int rf), (2, .ref l2), (1, .ref l1), (0, .ref q0)] → mW γ (mU M q0 (.inr (1, auc (aAt I K1 K2 rf pp)))) s H locs → W p l e ({ frames := 4, cells := 0, slots := 0, locals := 87 } : Room) s m #[.ref q0, .ref l1, .ref l2, .int rf] below meth c H locs 0 0 (MQ below (mQv γ (fun M' => M' = mU M q0 (.inr (1, auc (aAt I K1 K2 rf 2000))))) #[.ref q0, .ref l1, .ref l2, .int rf] s 0 0 (mA (gz γ))) (F0 m 44 ls []) := by
        intro k
        induction k with
        | zero =>
          intro wt H locs ls hk2 hwt hd2 hl hw
          refine lv_iload S.1 S.2.1 d_A_workOut_44 (lv_at hl 4 rfl) ?_
          refine lv_if_le (tgt := 92) S.1 S.2.1 d_A_workOut_46 rfl (fun _ => ?_) (fun h => absurd (show nI 0 ≤ 0 from by decide +kernel) h)
          have hl := lv_sub hl [0, 1, 2, 3, 4, 5, 6, 7, 8] rfl
          exact in2 (K2.length - j0) j0 0 wt g0 H locs ls (by omega) hk2 hwt hd2 (by rw [sIf_cut (fun x hx => by rw [List.take_zero] at hx; cases hx) hd2]; exact hwt) hg0 ht2 hl hw
        | succ k ih1 =>
          intro wt H locs ls hk2 hwt hd2 hl hw
          have hbd : k < K1.length := by omega
          have hmk := hm1 K1[k] (List.getElem_mem hbd)
          refine lv_iload S.1 S.2.1 d_A_workOut_44 (lv_at hl 4 rfl) ?_
          refine lv_if_le (tgt := 92) S.1 S.2.1 d_A_workOut_46 rfl (fun h => absurd h (nI_nle (by omega) (by omega))) (fun _ => ?_)
          refine lv_aload_n S.1 S.2.1 d_A_workOut_49 rfl (lv_at hl 7 rfl) ?_
          refine lv_iload S.1 S.2.1 d_A_workOut_50 (lv_at hl 4 rfl) ?_
          refine lv_iconst (v := 1) S.1 S.2.1 d_A_workOut_52 (by decide) ?_
          refine lv_isub S.1 S.2.1 d_A_workOut_53 ?_
          refine W.eq (g2 := F0 m 54 ls [.int (nI k), .ref l1]) (by rw [nI_pred]) ?_
          refine m_cq hw (va_runV (As := [.int (nI k)]) (rest := []) S (c_AL_get l γ (mU M q0 (.inr (1, auc (aAt I K1 K2 rf pp)))) l1 r1 c1 (K1.map oa) (hA1 _) k (by omega)) (m_cwV 1 S g623 g190 g191 g44 g192 rfl rfl ⟨by decide +kernel, by decide +kernel, by decide +kernel⟩ ⟨(Nat.le_of_ble_eq_true rfl), (Nat.le_of_ble_eq_true rfl)⟩) (hw.preV (hl1A _) cl_AL.1) rfl rfl hl.1 rfl (lv_room (Nat.le_of_ble_eq_true rfl)) d_A_workOut_54 ⟨(Nat.zero_le _), (Nat.zero_le _)⟩) (fun r1 M1 H locs hp hw => ?_)
          obtain ⟨rfl, hM1⟩ := hp
          rw [hM1] at hw
          have hge := map_at (oa := oa) hbd
          refine W.eq (g2 := F0 m 57 ls [.ref (oa K1[k])]) (by rw [hge]; rfl) ?_
          refine m_cast S hw cl_O (hOA _ _ hmk) g624 d_A_workOut_57 ?_
          refine lv_iload S.1 S.2.1 d_A_workOut_60 (lv_at hl 0 rfl) ?_
          refine m_ci hw (va_runV (As := [.int (nI (pp + 1))]) (rest := []) S (c_O_takes l γ (mU M q0 (.inr (1, auc (aAt I K1 K2 rf pp)))) (oa K1[k]) _ _ _ _ _ _ _ _ _ _ (hOA _ _ hmk) (nI (pp + 1))) (m_cwV 1 S g625 g263 g264 g54 g265 rfl rfl ⟨by decide +kernel, by decide +kernel, by decide +kernel⟩ ⟨(Nat.le_of_ble_eq_true rfl), (Nat.le_of_ble_eq_true rfl)⟩) (hw.preV (hOA _ _ hmk) cl_O.1) rfl rfl hl.1 rfl (lv_room (Nat.le_of_ble_eq_true rfl)) d_A_workOut_62 ⟨(Nat.zero_le _), (Nat.zero_le _)⟩) (fun r1 M1 H locs hp hw => ?_)
          obtain ⟨rfl, hM1⟩ := hp
          rw [hM1] at hw
          refine W.eq (g2 := F0 m 65 ls [.int (b2i (tk I K1[k] (nI (pp + 1))))]) rfl ?_
          refine lv_if_ne (tgt := 92) S.1 S.2.1 d_A_workOut_65 rfl (fun h65 => ?_) (fun h65 => ?_)
          · have hl := lv_sub hl [0, 1, 2, 3, 4, 5, 6, 7, 8] rfl
            exact in2 (K2.length - j0) j0 (k + 1) wt g0 H locs ls (by omega) hk2 hwt hd2 (by rw [sIf_cut (hL1.pre hOK hbd (b2i_n0.mp h65)) hd2]; exact hwt) hg0 ht2 hl hw
          · refine lv_iinc (k := 4) (v := nI k) S.1 S.2.1 d_A_workOut_68 hl rfl (pk_m1 k) (by decide) rfl (fun ls hl => ?_)
            have hl : lv_has ls 11 [(4, .int (nI k)), (10, .int (nI (pp + 1))), (8, .long g0), (6, .long wt), (5, .int (nI j0)), (3, .int rf), (2, .ref l2), (1, .ref l1), (0, .ref q0)] := hl
            refine lv_lload S.1 S.2.1 d_A_workOut_71 (lv_at hl 3 rfl) ?_
            refine lv_aload_n S.1 S.2.1 d_A_workOut_73 rfl (lv_at hl 7 rfl) ?_
            refine lv_iload S.1 S.2.1 d_A_workOut_74 (lv_at hl 0 rfl) ?_
            refine m_cq hw (va_runV (As := [.int (nI k)]) (rest := [.long wt]) S (c_AL_get l γ (mU M q0 (.inr (1, auc (aAt I K1 K2 rf pp)))) l1 r1 c1 (K1.map oa) (hA1 _) k (by omega)) (m_cwV 1 S g623 g190 g191 g44 g192 rfl rfl ⟨by decide +kernel, by decide +kernel, by decide +kernel⟩ ⟨(Nat.le_of_ble_eq_true rfl), (Nat.le_of_ble_eq_true rfl)⟩) (hw.preV (hl1A _) cl_AL.1) rfl rfl hl.1 rfl (lv_room (Nat.le_of_ble_eq_true rfl)) d_A_workOut_76 ⟨(Nat.zero_le _), (Nat.zero_le _)⟩) (fun r1 M1 H locs hp hw => ?_)
            obtain ⟨rfl, hM1⟩ := hp
            rw [hM1] at hw
            have hge := map_at (oa := oa) hbd
            refine W.eq (g2 := F0 m 79 ls [.ref (oa K1[k]), .long wt]) (by rw [hge]; rfl) ?_
            refine m_cast S hw cl_O (hOA _ _ hmk) g624 d_A_workOut_79 ?_
            refine m_get S hw cl_O (hOA _ _ hmk) 6 (by decide) g397 (fun _ h => h) rfl d_A_workOut_82 ?_
            refine lv_i2l S.1 S.2.1 d_A_workOut_85 rfl ?_
            refine lv_lsub S.1 S.2.1 d_A_workOut_86 ?_
            refine lv_lstore S.1 S.2.1 d_A_workOut_87 hl (by decide) rfl (fun ls hl => ?_)
            have hl : lv_has ls 11 [(6, .long (wt - ((I 3 (K1[k])).toInt64))), (4, .int (nI k)), (10, .int (nI (pp + 1))), (8, .long g0), (5, .int (nI j0)), (3, .int rf), (2, .ref l2), (1, .ref l1), (0, .ref q0)] := hl
            refine lv_goto (tgt := 44) S.1 S.2.1 d_A_workOut_89 rfl ?_
            have hl := lv_sub hl [2, 3, 0, 4, 1, 5, 6, 7, 8] rfl
            refine ih1 _ H locs ls (by omega) (by rw [hwt]; exact lSum_dn hbd) (fun x hx => ?_) hl hw
            rw [drop_at hbd] at hx
            rcases List.mem_cons.mp hx with e | e
            · rw [e]; exact b2i_0.mp h65
            · exact hd2 x e
      refine lv_iload S.1 S.2.1 d_A_workOut_36 (lv_at hl 0 rfl) ?_
      refine lv_sipush (v := 2000) S.1 S.2.1 d_A_workOut_38 (by decide) ?_
      refine lv_icmp_gt (tgt := 159) S.1 S.2.1 d_A_workOut_41 rfl (fun h => absurd h (show ¬ nI 2000 < nI (pp + 1) from nI_nlt (by omega) (by omega))) (fun _ => ?_)
      have hl := lv_sub hl [0, 1, 2, 3, 4, 5, 6, 7, 8] rfl
      exact in1 k0 w0 H locs ls hk hw0 hd1 hl hw
  have hl := lv_sub hl [0, 1, 2, 3, 4, 8, 7, 6, 5] rfl
  rw [hml1] at hl
  exact loop 2000 0 K1.length 0 _ 0 H locs ls rfl (Nat.le_refl _) (Nat.zero_le _) (by rw [List.take_of_length_le (Nat.le_refl _)]) rfl (fun x hx => by rw [List.drop_length] at hx; cases hx) (fun x hx => by rw [List.take_zero] at hx; cases hx) hl hw
