/-! CallBook.tradeWithShown -/
theorem hit_left {σ : St} {o r : Nat} (hI : Inv0 σ) (hr : r < sn σ) (hor : o ≠ r) (hs : rs (sI σ) r = true) (hl : 1 ≤ (sI σ 3 o).toInt) (h3 : ¬ sI (xHit0 σ o r) 3 r = 0) : (sI (xOut (xHit0 σ o r) r) 3 r).toInt = (sI σ 3 r).toInt - (hQ σ o r).toInt ∧ 1 ≤ (sI (xOut (xHit0 σ o r) r) 3 r).toInt ∧ (sI (xOut (xHit0 σ o r) r) 3 r).toInt ≤ 100000 ∧ (0 < (sI (xOut (xHit0 σ o r) r) 8 r).toInt → (sI (xOut (xHit0 σ o r) r) 3 r).toInt ≤ 50 * (sI (xOut (xHit0 σ o r) r) 8 r).toInt) := by
  obtain ⟨k1, k2, k3, k4, k5⟩ := hI.2.2.2.2 r hr hs
  obtain ⟨q1, q2, q3, q4, -⟩ := hit_q (o := o) hI hr hs hl
  have e3 : (sI (xHit0 σ o r) 3 r).toInt = (sI σ 3 r).toInt - (hQ σ o r).toInt := by rw [hit_3r hor]; exact i_sub (by omega) (by omega)
  have e8 : sI (xHit0 σ o r) 8 r = sI σ 8 r := congrFun (hit_f (by decide) (by decide) (by decide)) r
  have n3 : (sI (xHit0 σ o r) 3 r).toInt ≠ 0 := fun z => h3 (Int32.toInt_inj.mp (z.trans i0.symm))
  have o3 : sI (xOut (xHit0 σ o r) r) 3 r = sI (xHit0 σ o r) 3 r := congrFun (out_f (by decide)) r
  have o8 : sI (xOut (xHit0 σ o r) r) 8 r = sI (xHit0 σ o r) 8 r := congrFun (out_f (by decide)) r
  rw [o3, o8, e8, e3]
  rw [e3] at n3
  refine ⟨rfl, by omega, by omega, fun hp => ?_⟩
  have := k5 hp
  omega
set_option maxHeartbeats 4000000 in
set_option maxRecDepth 100000 in
theorem c_B_tradeWithShown (l : Launch) (γ : mG) (M : mMap) (β : BK) (oa cp : Nat → Nat) (L : Nat → List Nat) (σ : St) (hC : CB γ M β oa cp L σ) (hI : Inv0 σ) (hL : LN σ L) (o r1 : Nat) (ho : o < sn σ) (hr1 : r1 < sn σ) (hor : o ≠ r1) (h5 : sI σ 5 o = -1) (hlv : 1 ≤ (sI σ 3 o).toInt) (hs1 : rs (sI σ) r1 = true) (hk : (L (sj (sI σ 1 r1)))[0]? = some r1) (htn : stn σ < 30000) (hrk : (srk σ).toInt ≤ 1000000000) : Met l y_B_tradeWithShown w_B_tradeWithShown ({ frames := 9, cells := 1 + gN (cp 3) (stn σ), slots := 4 + sN (cp 3) (stn σ), locals := 227 } : Room) (mPc γ M [.ref (bx β), .ref (oa o), .ref (oa r1)]) (mQv γ (fun M' => ∃ L', CB γ M' β oa (va_up cp 3 (cN (cp 3) (stn σ))) L' (xHit σ o r1) ∧ Inv0 (xHit σ o r1) ∧ LN (xHit σ o r1) L' ∧ frC M M')) (1 + gN (cp 3) (stn σ)) (4 + sN (cp 3) (stn σ)) (mA (gz γ)) := by
  refine m_enter (by decide) (Nat.le_of_ble_eq_true rfl) ?_
  intro p e s m below meth c ls S hr hlk hnm hl hw
  have hl : lv_has ls 4 [(0, .ref (bx β)), (1, .ref (oa o)), (2, .ref (oa r1))] := hl
  have hn := hI.1
  have hOo := hC.ord o ho
  have hOr := hC.ord r1 hr1
  have hne := hC.ord.ne hn ho hr1 hor
  have hrk1 : (srk (xOut (xHit0 σ o r1) r1)).toInt ≤ 2000000000 := by show (srk σ).toInt ≤ _; omega
  refine lv_aload_n S.1 S.2.1 d_B_tradeWithShown_0 rfl (lv_at hl 1 rfl) ?_
  refine m_get S hw cl_O hOo 6 (by decide) g398 (fun _ h => h) rfl d_B_tradeWithShown_1 ?_
  refine lv_aload_n S.1 S.2.1 d_B_tradeWithShown_4 rfl (lv_at hl 2 rfl) ?_
  refine m_get S hw cl_O hOr 7 (by decide) g400 (fun _ h => h) rfl d_B_tradeWithShown_5 ?_
  refine va_mmin S.1 S.2.1 (S.2.2.1.trans hl.1.symm) S.2.2.2.1 (S.2.2.2.2 _ (gc g526)) (S.2.2.2.2 _ (gc g241)) (S.2.2.2.2 _ (gc g56)) (S.2.2.2.2 _ (gc g242)) (Nat.le_of_ble_eq_true rfl) (Nat.le_of_ble_eq_true rfl) (Nat.zero_le _) (Nat.zero_le _) d_B_tradeWithShown_8 ?_
  refine W.eq (g2 := F0 m 11 ls [.int (hQ σ o r1)]) (congrArg (fun z => F0 m 11 ls [.int z]) rfl) ?_
  refine lv_istore_n S.1 S.2.1 d_B_tradeWithShown_11 rfl hl (by decide) rfl (fun ls hl => ?_)
  have hl : lv_has ls 4 [(3, .int (hQ σ o r1)), (0, .ref (bx β)), (1, .ref (oa o)), (2, .ref (oa r1))] := hl
  refine lv_aload_n S.1 S.2.1 d_B_tradeWithShown_12 rfl (lv_at hl 3 rfl) ?_
  refine lv_dup S.1 S.2.1 d_B_tradeWithShown_13 rfl ?_
  refine m_get S hw cl_O hOr 7 (by decide) g400 (fun _ h => h) rfl d_B_tradeWithShown_14 ?_
  refine lv_iload_n S.1 S.2.1 d_B_tradeWithShown_17 rfl (lv_at hl 0 rfl) ?_
  refine lv_isub S.1 S.2.1 d_B_tradeWithShown_18 ?_
  refine m_put S hw cl_O hOr 7 (by decide) g400 (fun _ h => h) rfl rfl rfl (Nat.le_of_ble_eq_true rfl) d_B_tradeWithShown_19 (fun H locs hw => ?_)
  have hw : mW γ (mU M (oa r1) (.inr (2, [.int (nI r1), .int ((sI σ) 0 r1), .int ((sI σ) 1 r1), .int ((sI σ) 8 r1), .int ((sI σ) 6 r1), .int ((sI σ) 2 r1), .int ((sI σ) 3 r1), .int (((sI σ) 4 r1) - (hQ σ o r1)), .int ((sI σ) 5 r1), .int ((sI σ) 7 r1)]))) s H locs := hw
  rw [← oc_4] at hw
  obtain ⟨hC1, hf1⟩ := hC.setO hn hr1 (J := s1 (sI σ) 4 r1 (sI σ 4 r1 - hQ σ o r1)) (fun f x hx => s1_o hx) (e := .inr (2, oc (s1 (sI σ) 4 r1 (sI σ 4 r1 - hQ σ o r1)) r1)) rfl
  have hb1 : (s1 (sI σ) 4 r1 (sI σ 4 r1 - hQ σ o r1)) 1 o = sI σ 1 o := by rw [s1_f (by decide)]
  have hp1 : (s1 (sI σ) 4 r1 (sI σ 4 r1 - hQ σ o r1)) 2 r1 = sI σ 2 r1 := by rw [s1_f (by decide)]
  obtain ⟨hIX, hLX⟩ := hit_inv (r := r1) hI hL h5
  have hside : sI (xHit0 σ o r1) 1 r1 = sI σ 1 r1 := congrFun (hit_f (by decide) (by decide) (by decide)) r1
  have hr5 : ¬ sI (xHit0 σ o r1) 5 r1 = -1 := by rw [congrFun (hit_f (by decide) (by decide) (by decide)) r1]; intro z; rw [rs_iff, z, i_m1] at hs1; omega
  have hLj : Line (sI (xHit0 σ o r1)) (sn σ) (sI σ 1 r1) (L (sj (sI σ 1 r1))) := sj_val (hI.2.1.1 r1 hr1).2.2 hLX
  have hnd := hLj.nodup
  have hmem : ∀ y, y ∈ L (sj (sI σ 1 r1)) → y < sn σ := fun y hy => ((hLj.1 y).mp hy).1
  have hk0 : (L (sj (sI (xHit0 σ o r1) 1 r1)))[0]? = some r1 := by rw [hside]; exact hk
  have tail : ∀ (M2 : mMap) (H : Heap) (locs : List Loc) (ls : Array Slot), CB γ M2 β oa (va_up cp 3 (cN (cp 3) (stn σ))) L (xHit0 σ o r1) → frC M M2 → lv_has ls 4 [(3, .int (hQ σ o r1)), (0, .ref (bx β)), (1, .ref (oa o)), (2, .ref (oa r1))] → mW γ M2 s H locs → W p l e ({ frames := 9, cells := 1 + gN (cp 3) (stn σ), slots := 4 + sN (cp 3) (stn σ), locals := 227 } : Room) s m #[.ref (bx β), .ref (oa o), .ref (oa r1)] below meth c H locs (0 + (1 + gN (cp 3) (stn σ))) (0 + (4 + sN (cp 3) (stn σ))) (MQ below (mQv γ (fun M' => ∃ L', CB γ M' β oa (va_up cp 3 (cN (cp 3) (stn σ))) L' (xHit σ o r1) ∧ Inv0 (xHit σ o r1) ∧ LN (xHit σ o r1) L' ∧ frC M M')) #[.ref (bx β), .ref (oa o), .ref (oa r1)] s (1 + gN (cp 3) (stn σ)) (4 + sN (cp 3) (stn σ)) (mA (gz γ))) (F0 m 54 ls []) := by
    intro M2 H locs ls hC2 hf2 hl hw
    have hlenL : (L (sj (sI σ 1 r1))).length ≤ 250 := Line.len hLj hn
    refine lv_aload_n S.1 S.2.1 d_B_tradeWithShown_54 rfl (lv_at hl 3 rfl) ?_
    refine m_get S hw cl_O (hC2.ord r1 hr1) 6 (by decide) g398 (fun _ h => h) rfl d_B_tradeWithShown_55 ?_
    refine lv_if_ne (tgt := 69) S.1 S.2.1 d_B_tradeWithShown_58 rfl (fun h58 => ?_) (fun h58 => ?_)
    · refine lv_aload_n S.1 S.2.1 d_B_tradeWithShown_69 rfl (lv_at hl 3 rfl) ?_
      refine m_get S hw cl_O (hC2.ord r1 hr1) 7 (by decide) g400 (fun _ h => h) rfl d_B_tradeWithShown_70 ?_
      refine lv_if_ne (tgt := 93) S.1 S.2.1 d_B_tradeWithShown_73 rfl (fun h73 => ?_) (fun h73 => ?_)
      · exact m_vret S hlk hr hw (⟨L, by unfold xHit; rw [if_neg h58, if_neg h73]; exact hC2, by unfold xHit; rw [if_neg h58, if_neg h73]; exact hIX.of (fun _ => hit_rok hI hr1 hor hs1 hlv h58 h73), by unfold xHit; rw [if_neg h58, if_neg h73]; exact hLX, hf2⟩) (Nat.le_of_eq (Nat.zero_add _)) (Nat.le_of_eq (Nat.zero_add _)) d_B_tradeWithShown_93
      · refine lv_aload_n S.1 S.2.1 d_B_tradeWithShown_76 rfl (lv_at hl 1 rfl) ?_
        refine lv_aload_n S.1 S.2.1 d_B_tradeWithShown_77 rfl (lv_at hl 3 rfl) ?_
        refine m_get S hw cl_O (hC2.ord r1 hr1) 2 (by decide) g389 (fun _ h => h) rfl d_B_tradeWithShown_78 ?_
        refine m_cq hw (va_runV (As := [.int ((sI (xHit0 σ o r1)) 1 r1)]) (rest := []) S (c_B_side l γ M2 β σ.2.1 hC2.book (sI (xHit0 σ o r1) 1 r1)) (m_cwV 1 S g181 g183 g0 g41 g184 rfl rfl ⟨by decide +kernel, by decide +kernel, by decide +kernel⟩ ⟨(Nat.le_of_ble_eq_true rfl), (Nat.le_of_ble_eq_true rfl)⟩) (hw.preV hC2.book cl_B.1) rfl rfl hl.1 rfl (lv_room (Nat.le_of_ble_eq_true rfl)) d_B_tradeWithShown_81 ⟨(by show 0 + (1 + gN (cp 3) (stn σ)) + 0 ≤ 1 + gN (cp 3) (stn σ); omega), (by show 0 + (4 + sN (cp 3) (stn σ)) + 0 ≤ 4 + sN (cp 3) (stn σ); omega)⟩) (fun r1 M1 H locs hp hw => ?_)
        obtain ⟨rfl, hM1⟩ := hp
        rw [hM1] at hw
        have hg2 := hw.noe
        obtain ⟨r0, hA0⟩ := hC2.list (sj_or (sI (xHit0 σ o r1) 1 r1))
        have hE0 : mEl M2 2 ((L (sj (sI (xHit0 σ o r1) 1 r1))).map oa) := hC2.ord.el (by rw [hside]; exact hmem)
        obtain ⟨hk1, hk2⟩ := map_first (oa := oa) hk0 (by rw [hside]; exact hnd) (by rw [hside]; exact hmem) (fun a b ha hb e => hC2.ord.inj hn ha hb e)
        refine lv_aload_n S.1 S.2.1 d_B_tradeWithShown_84 rfl (lv_at hl 3 rfl) ?_
        refine m_cv hw (va_runV (As := [.ref (oa r1)]) (rest := []) S (c_S_leave l γ M2 (bsd β (sj (sI (xHit0 σ o r1) 1 r1))) (bal β (sj (sI (xHit0 σ o r1) 1 r1))) r0 ((va_up cp 3 (cN (cp 3) (stn σ))) (sj (sI (xHit0 σ o r1) 1 r1))) ((L (sj (sI (xHit0 σ o r1) 1 r1))).map oa) (hC2.side (sj_or _)) hA0 hE0 (oa r1) _ _ _ _ _ _ _ _ _ _ (hC2.ord r1 hr1) 0 hk1 hk2 (by rw [List.length_map, hside]; exact hlenL)) (m_cwV 1 S g567 g568 g569 g45 g570 rfl rfl ⟨by decide +kernel, by decide +kernel, by decide +kernel⟩ ⟨(Nat.le_of_ble_eq_true rfl), (Nat.le_of_ble_eq_true rfl)⟩) (hw.preV (hC2.side (sj_or _)) cl_S.1) rfl rfl hl.1 rfl (lv_room (Nat.le_of_ble_eq_true rfl)) d_B_tradeWithShown_85 ⟨(by show 0 + (1 + gN (cp 3) (stn σ)) + 0 + 0 ≤ 1 + gN (cp 3) (stn σ); omega), (by show 0 + (4 + sN (cp 3) (stn σ)) + 0 + 0 ≤ 4 + sN (cp 3) (stn σ); omega)⟩) (fun M1 H locs hp hw => ?_)
        obtain ⟨hA9, hF9⟩ := hp
        obtain ⟨hC3, hf3⟩ := hC2.left hn hr1 hg2 hA0 hA9 hF9
        obtain ⟨hI3, hL3⟩ := LN.out hIX hLX hr1 hk0
        obtain ⟨L3, hL3e⟩ : ∃ z : Nat → List Nat, z = (fun k' => if k' = sj (sI (xHit0 σ o r1) 1 r1) then (L (sj (sI (xHit0 σ o r1) 1 r1))).eraseIdx 0 else L k') := ⟨_, rfl⟩
        rw [← hL3e] at hC3 hL3
        refine lv_aload_n S.1 S.2.1 d_B_tradeWithShown_88 rfl (lv_at hl 1 rfl) ?_
        refine lv_aload_n S.1 S.2.1 d_B_tradeWithShown_89 rfl (lv_at hl 3 rfl) ?_
        have hsO : sI (xOut (xHit0 σ o r1) r1) 1 r1 = sI (xHit0 σ o r1) 1 r1 := congrFun (out_f (by decide)) r1
        have hLo : (L3) (sj (sI (xOut (xHit0 σ o r1) r1) 1 r1)) = (L (sj (sI (xHit0 σ o r1) 1 r1))).eraseIdx 0 := by rw [hL3e, hsO]; exact if_pos rfl
        have hO3 : Line (sI (xOut (xHit0 σ o r1) r1)) (sn σ) (sI σ 1 r1) ((L (sj (sI (xHit0 σ o r1) 1 r1))).eraseIdx 0) := by have h9 := sj_val (L := L3) (b := sI σ 1 r1) (hI.2.1.1 r1 hr1).2.2 hL3; rw [← hLo, hsO, hside]; exact h9
        have hlen3 : ((L (sj (sI (xHit0 σ o r1) 1 r1))).eraseIdx 0).length + 1 = (L (sj (sI (xHit0 σ o r1) 1 r1))).length := by rw [List.length_eraseIdx, if_pos (List.getElem?_eq_some_iff.mp hk0).1]; have := (List.getElem?_eq_some_iff.mp hk0).1; omega
        have hcap : ((L (sj (sI (xHit0 σ o r1) 1 r1))).eraseIdx 0).length ≠ (va_up cp 3 (cN (cp 3) (stn σ))) (sj (sI (xHit0 σ o r1) 1 r1)) := by have h9 := hA0.2.1; rw [List.length_map] at h9; omega
        have hgN : gN ((va_up cp 3 (cN (cp 3) (stn σ))) (sj (sI (xOut (xHit0 σ o r1) r1) 1 r1))) (((L3) (sj (sI (xOut (xHit0 σ o r1) r1) 1 r1))).map oa).length = 0 := by rw [hLo, List.length_map, hsO]; exact if_neg hcap
        have hsN : sN ((va_up cp 3 (cN (cp 3) (stn σ))) (sj (sI (xOut (xHit0 σ o r1) r1) 1 r1))) (((L3) (sj (sI (xOut (xHit0 σ o r1) r1) 1 r1))).map oa).length = 0 := by rw [hLo, List.length_map, hsO]; exact if_neg hcap
        have hcN : cN ((va_up cp 3 (cN (cp 3) (stn σ))) (sj (sI (xOut (xHit0 σ o r1) r1) 1 r1))) (((L3) (sj (sI (xOut (xHit0 σ o r1) r1) 1 r1))).map oa).length = (va_up cp 3 (cN (cp 3) (stn σ))) (sj (sI (xOut (xHit0 σ o r1) r1) 1 r1)) := by rw [hLo, List.length_map, hsO]; exact if_neg hcap
        have hr3 : sI (xOut (xHit0 σ o r1) r1) 5 r1 = -1 := s1_ss (sI (xHit0 σ o r1)) 5 r1 (-1)
        refine m_cv hw (va_runV (As := [.ref (oa r1)]) (rest := []) S (c_B_rest l γ M1 β oa (va_up cp 3 (cN (cp 3) (stn σ))) L3 (xOut (xHit0 σ o r1) r1) hC3 hn r1 hr1 (hI3.2.2.1 r1 hr1).1 (by rw [hLo]; intro y hy; have h9 := (hO3.1 y).mp hy; refine ⟨h9.1, fun z => ?_⟩; rw [onS_iff, rs_iff, z, hr3, i_m1] at h9; omega) (by rw [hLo]; rw [hside] at hlen3 ⊢; omega)) (m_cwV 1 S g490 g492 g9 g41 g493 rfl rfl ⟨by decide +kernel, by decide +kernel, by decide +kernel⟩ ⟨(Nat.le_of_ble_eq_true rfl), (Nat.le_of_ble_eq_true rfl)⟩) (hw.preV hC3.book cl_B.1) rfl rfl hl.1 rfl (lv_room (Nat.le_of_ble_eq_true rfl)) d_B_tradeWithShown_90 ⟨(by rw [hgN]; show 0 + (1 + gN (cp 3) (stn σ)) + 0 + 0 + 0 ≤ 1 + gN (cp 3) (stn σ); omega), (by rw [hsN]; show 0 + (4 + sN (cp 3) (stn σ)) + 0 + 0 + 0 ≤ 4 + sN (cp 3) (stn σ); omega)⟩) (fun M1 H locs hp hw => ?_)
        obtain ⟨k, hk9, hhi, hlo, hC4, hf4⟩ := hp
        rw [hcN, up_same] at hC4
        have e3 : (sI (xOut (xHit0 σ o r1) r1) 3 r1).toInt = (sI σ 3 r1).toInt - (hQ σ o r1).toInt ∧ 1 ≤ (sI (xOut (xHit0 σ o r1) r1) 3 r1).toInt ∧ (sI (xOut (xHit0 σ o r1) r1) 3 r1).toInt ≤ 100000 ∧ (0 < (sI (xOut (xHit0 σ o r1) r1) 8 r1).toInt → (sI (xOut (xHit0 σ o r1) r1) 3 r1).toInt ≤ 50 * (sI (xOut (xHit0 σ o r1) r1) 8 r1).toInt) := hit_left hI hr1 hor hs1 hlv h58
        obtain ⟨hI4, hL4⟩ := LN.rest hI3 hL3 hr1 hr3 hrk1 e3.2.1 e3.2.2.1 e3.2.2.2 hk9 hhi hlo
        rw [xRest_out] at hC4 hI4 hL4
        exact m_vret S hlk hr hw (⟨_, by unfold xHit; rw [if_neg h58, if_pos h73]; exact hC4, by unfold xHit; rw [if_neg h58, if_pos h73]; exact hI4, by unfold xHit; rw [if_neg h58, if_pos h73]; exact hL4, hf2.tr (hf3.tr hf4)⟩) (by rw [hgN]; show 0 + (1 + gN (cp 3) (stn σ)) + 0 + 0 + 0 ≤ 1 + gN (cp 3) (stn σ); omega) (by rw [hsN]; show 0 + (4 + sN (cp 3) (stn σ)) + 0 + 0 + 0 ≤ 4 + sN (cp 3) (stn σ); omega) d_B_tradeWithShown_93
    · refine lv_aload_n S.1 S.2.1 d_B_tradeWithShown_61 rfl (lv_at hl 1 rfl) ?_
      refine lv_aload_n S.1 S.2.1 d_B_tradeWithShown_62 rfl (lv_at hl 3 rfl) ?_
      refine m_cv hw (va_runV (As := [.ref (oa r1)]) (rest := []) S (c_B_finishR l γ M2 β oa (va_up cp 3 (cN (cp 3) (stn σ))) L (xHit0 σ o r1) hC2 hn r1 hr1 hr5 (by rw [hside]; exact hnd) (by rw [hside]; exact hmem) (by rw [hside]; exact hlenL) 0 hk0) (m_cwV 1 S g563 g565 g16 g41 g566 rfl rfl ⟨by decide +kernel, by decide +kernel, by decide +kernel⟩ ⟨(Nat.le_of_ble_eq_true rfl), (Nat.le_of_ble_eq_true rfl)⟩) (hw.preV hC2.book cl_B.1) rfl rfl hl.1 rfl (lv_room (Nat.le_of_ble_eq_true rfl)) d_B_tradeWithShown_63 ⟨(by show 0 + (1 + gN (cp 3) (stn σ)) + 0 ≤ 1 + gN (cp 3) (stn σ); omega), (by show 0 + (4 + sN (cp 3) (stn σ)) + 0 ≤ 4 + sN (cp 3) (stn σ); omega)⟩) (fun M1 H locs hp hw => ?_)
      obtain ⟨hC3, hf3⟩ := hp
      refine lv_goto (tgt := 93) S.1 S.2.1 d_B_tradeWithShown_66 rfl ?_
      exact m_vret S hlk hr hw (⟨_, by unfold xHit; rw [if_pos h58]; exact hC3, by unfold xHit; rw [if_pos h58]; exact (LN.ende hIX hLX hr1 hk0).1, by unfold xHit; rw [if_pos h58]; exact (LN.ende hIX hLX hr1 hk0).2, hf2.tr hf3⟩) (by show 0 + (1 + gN (cp 3) (stn σ)) + 0 ≤ 1 + gN (cp 3) (stn σ); omega) (by show 0 + (4 + sN (cp 3) (stn σ)) + 0 ≤ 4 + sN (cp 3) (stn σ); omega) d_B_tradeWithShown_93
  refine lv_aload_n S.1 S.2.1 d_B_tradeWithShown_22 rfl (lv_at hl 2 rfl) ?_
  refine m_get S hw cl_O (hC1.ord o ho) 2 (by decide) g389 (fun _ h => h) rfl d_B_tradeWithShown_23 ?_
  refine W.eq (g2 := F0 m 26 ls [.int (sI σ 1 o)]) (congrArg (fun z => F0 m 26 ls [.int z]) hb1) ?_
  refine lv_if_eq (tgt := 43) S.1 S.2.1 d_B_tradeWithShown_26 rfl (fun h26 => ?_) (fun h26 => ?_)
  · refine lv_aload_n S.1 S.2.1 d_B_tradeWithShown_43 rfl (lv_at hl 1 rfl) ?_
    refine lv_aload_n S.1 S.2.1 d_B_tradeWithShown_44 rfl (lv_at hl 3 rfl) ?_
    refine lv_aload_n S.1 S.2.1 d_B_tradeWithShown_45 rfl (lv_at hl 2 rfl) ?_
    refine lv_aload_n S.1 S.2.1 d_B_tradeWithShown_46 rfl (lv_at hl 3 rfl) ?_
    refine m_get S hw cl_O (hC1.ord r1 hr1) 5 (by decide) g395 (fun _ h => h) rfl d_B_tradeWithShown_47 ?_
    refine W.eq (g2 := F0 m 50 ls [.int (sI σ 2 r1), .ref (oa o), .ref (oa r1), .ref (bx β)]) (congrArg (fun z => F0 m 50 ls [.int z, .ref (oa o), .ref (oa r1), .ref (bx β)]) hp1) ?_
    refine lv_iload_n S.1 S.2.1 d_B_tradeWithShown_50 rfl (lv_at hl 0 rfl) ?_
    refine m_cv hw (va_runV (As := [.ref (oa r1), .ref (oa o), .int (sI σ 2 r1), .int (hQ σ o r1)]) (rest := []) S (c_B_exchange l γ (mU M (oa r1) (.inr (2, oc (s1 (sI σ) 4 r1 (sI σ 4 r1 - hQ σ o r1)) r1))) β oa cp L ((sn σ, s1 (sI σ) 4 r1 (sI σ 4 r1 - hQ σ o r1)), σ.2) hC1 hn r1 o hr1 ho (fun z => hor z.symm) htn (sI σ 2 r1) (hQ σ o r1)) (m_cwV 4 S g527 g529 g15 g41 g530 rfl rfl ⟨by decide +kernel, by decide +kernel, by decide +kernel⟩ ⟨(Nat.le_of_ble_eq_true rfl), (Nat.le_of_ble_eq_true rfl)⟩) (hw.preV hC1.book cl_B.1) rfl rfl hl.1 rfl (lv_room (Nat.le_of_ble_eq_true rfl)) d_B_tradeWithShown_51 ⟨(Nat.le_of_eq (Nat.zero_add _)), (Nat.le_of_eq (Nat.zero_add _))⟩) (fun M1 H locs hp hw => ?_)
    obtain ⟨hC2, hf2⟩ := hp
    rw [gv_gv (fun z => hor z.symm), dI_comm (fun z => hor z.symm)] at hC2
    have hC2 : CB γ M1 β oa (va_up cp 3 (cN (cp 3) (stn σ))) L (xHit0 σ o r1) := by unfold xHit0; rw [if_pos h26, if_pos h26]; exact hC2
    exact tail M1 H locs ls hC2 (hf1.tr hf2) hl hw
  · refine lv_aload_n S.1 S.2.1 d_B_tradeWithShown_29 rfl (lv_at hl 1 rfl) ?_
    refine lv_aload_n S.1 S.2.1 d_B_tradeWithShown_30 rfl (lv_at hl 2 rfl) ?_
    refine lv_aload_n S.1 S.2.1 d_B_tradeWithShown_31 rfl (lv_at hl 3 rfl) ?_
    refine lv_aload_n S.1 S.2.1 d_B_tradeWithShown_32 rfl (lv_at hl 3 rfl) ?_
    refine m_get S hw cl_O (hC1.ord r1 hr1) 5 (by decide) g395 (fun _ h => h) rfl d_B_tradeWithShown_33 ?_
    refine W.eq (g2 := F0 m 36 ls [.int (sI σ 2 r1), .ref (oa r1), .ref (oa o), .ref (bx β)]) (congrArg (fun z => F0 m 36 ls [.int z, .ref (oa r1), .ref (oa o), .ref (bx β)]) hp1) ?_
    refine lv_iload_n S.1 S.2.1 d_B_tradeWithShown_36 rfl (lv_at hl 0 rfl) ?_
    refine m_cv hw (va_runV (As := [.ref (oa o), .ref (oa r1), .int (sI σ 2 r1), .int (hQ σ o r1)]) (rest := []) S (c_B_exchange l γ (mU M (oa r1) (.inr (2, oc (s1 (sI σ) 4 r1 (sI σ 4 r1 - hQ σ o r1)) r1))) β oa cp L ((sn σ, s1 (sI σ) 4 r1 (sI σ 4 r1 - hQ σ o r1)), σ.2) hC1 hn o r1 ho hr1 hor htn (sI σ 2 r1) (hQ σ o r1)) (m_cwV 4 S g527 g529 g15 g41 g530 rfl rfl ⟨by decide +kernel, by decide +kernel, by decide +kernel⟩ ⟨(Nat.le_of_ble_eq_true rfl), (Nat.le_of_ble_eq_true rfl)⟩) (hw.preV hC1.book cl_B.1) rfl rfl hl.1 rfl (lv_room (Nat.le_of_ble_eq_true rfl)) d_B_tradeWithShown_37 ⟨(Nat.le_of_eq (Nat.zero_add _)), (Nat.le_of_eq (Nat.zero_add _))⟩) (fun M1 H locs hp hw => ?_)
    obtain ⟨hC2, hf2⟩ := hp
    rw [gv_gv hor] at hC2
    have hC2 : CB γ M1 β oa (va_up cp 3 (cN (cp 3) (stn σ))) L (xHit0 σ o r1) := by unfold xHit0; rw [if_neg h26, if_neg h26]; exact hC2
    refine lv_goto (tgt := 54) S.1 S.2.1 d_B_tradeWithShown_40 rfl ?_
    exact tail M1 H locs ls hC2 (hf1.tr hf2) hl hw
