/-! The law's cases -/
set_option maxHeartbeats 4000000 in
set_option maxRecDepth 100000 in
theorem k_band {γ : mG} {p : Program} {l : Launch} {e : Env} {s : State} {m : MethodId} {below : List Frame} {meth : Method} {c : Code} {b n : Nat} {xs : Nat → Int32} {β : BK} {μ : RK} {a k t : Nat} {M : mMap} {H : Heap} {locs : List Loc} {ls : Array Slot} {cells slots : Nat} (hlT : xTr l) (C : LX γ p s m c b n xs) (hk : 7 * k + 7 ≤ n) (hLS : LSt γ M β μ a k t) (hc : cells ≤ 100 + kC t + 3 * k) (hs : slots ≤ 127000 + kS t + 756 * k) (hl : lv_has ls 8 [(4, .int (nI (7 * k))), (3, .ref a), (2, .ref (rx μ)), (1, .ref (bx β)), (0, .ref b)]) (hw : mW γ M s H locs) (kk : Kon γ p l e s m below meth c b β μ a k) : W p l e room_1 s m #[.ref b] below meth c H locs cells slots (lw_Z below #[.ref b] s) (F0 m 501 ls []) := by
  obtain ⟨S, hx, hX, hbz, hnn⟩ := C
  obtain ⟨oa, cp, L, σ, ε, f, hC, hR, ha, hI, hL, hcp, hcpl, rfl⟩ := hLS
  have hk1 : k + 1 ≤ 512 := by omega
  obtain ⟨hT0, hrk0⟩ := hI.t (by omega)
  have hI0 := hI.1
  have hn := hI0.1
  have hO := hI0.2.1
  by_cases hv : (rg 1 2000 (xs (7 * k + 1)) && rg 0 2000 (xs (7 * k + 2))) = false
  · have hrm := room_ok (k := k + 1) (c := cells + 1) (s := slots + 6) hT0 (by omega) (by omega) (by omega)
    refine lv_aload_n S.1 S.2.1 d_L_law_501 rfl (lv_at hl 3 rfl) ?_
    refine lv_aload_n S.1 S.2.1 d_L_law_502 rfl (lv_at hl 4 rfl) ?_
    refine lv_iload S.1 S.2.1 d_L_law_503 (lv_at hl 0 rfl) ?_
    refine lv_iconst (v := 1) S.1 S.2.1 d_L_law_505 (by decide) ?_
    refine lv_iadd S.1 S.2.1 d_L_law_506 ?_
    refine m_scr (j := 7 * k + 1) S hX hbz hnn hw (nI_p (a := 7 * k) (b := 1)) (by omega) d_L_law_507 ?_
    refine lv_aload_n S.1 S.2.1 d_L_law_508 rfl (lv_at hl 4 rfl) ?_
    refine lv_iload S.1 S.2.1 d_L_law_509 (lv_at hl 0 rfl) ?_
    refine lv_iconst (v := 2) S.1 S.2.1 d_L_law_511 (by decide) ?_
    refine lv_iadd S.1 S.2.1 d_L_law_512 ?_
    refine m_scr (j := 7 * k + 2) S hX hbz hnn hw (nI_p (a := 7 * k) (b := 2)) (by omega) d_L_law_513 ?_
    refine lv_aload_n S.1 S.2.1 d_L_law_514 rfl (lv_at hl 1 rfl) ?_
    refine m_ci hw (m_runSW (n := 4) (As := [.ref (bx β), .int (xs (7 * k + 1)), .int (xs (7 * k + 2)), .ref a]) (rest := []) S (h_bandA l hlT γ M β oa cp L σ hC a (xs (7 * k + 1)) (xs (7 * k + 2)) hv) g654 g655 g40 g656 rfl rfl ⟨by decide +kernel, by decide +kernel, by decide +kernel⟩ ⟨(Nat.le_of_ble_eq_true rfl), (Nat.le_of_ble_eq_true rfl)⟩ (hw.preXS hx) rfl hl.1 (lv_room (Nat.le_of_ble_eq_true rfl)) d_L_law_515 ⟨hrm.1, hrm.2⟩ rfl) (fun r1 M1 H locs hp hw => ?_)
    obtain ⟨rfl, hM1⟩ := hp
    rw [hM1] at hw
    refine lv_istore S.1 S.2.1 d_L_law_518 hl (by decide) rfl (fun ls hl => ?_)
    have hl : lv_has ls 8 [(5, .int 1), (4, .int (nI (7 * k))), (3, .ref a), (2, .ref (rx μ)), (1, .ref (bx β)), (0, .ref b)] := hl
    refine lv_aload_n S.1 S.2.1 d_L_law_520 rfl (lv_at hl 3 rfl) ?_
    refine lv_aload_n S.1 S.2.1 d_L_law_521 rfl (lv_at hl 5 rfl) ?_
    refine lv_iload S.1 S.2.1 d_L_law_522 (lv_at hl 1 rfl) ?_
    refine lv_iconst (v := 1) S.1 S.2.1 d_L_law_524 (by decide) ?_
    refine lv_iadd S.1 S.2.1 d_L_law_525 ?_
    refine m_scr (j := 7 * k + 1) S hX hbz hnn hw (nI_p (a := 7 * k) (b := 1)) (by omega) d_L_law_526 ?_
    refine lv_aload_n S.1 S.2.1 d_L_law_527 rfl (lv_at hl 5 rfl) ?_
    refine lv_iload S.1 S.2.1 d_L_law_528 (lv_at hl 1 rfl) ?_
    refine lv_iconst (v := 2) S.1 S.2.1 d_L_law_530 (by decide) ?_
    refine lv_iadd S.1 S.2.1 d_L_law_531 ?_
    refine m_scr (j := 7 * k + 2) S hX hbz hnn hw (nI_p (a := 7 * k) (b := 2)) (by omega) d_L_law_532 ?_
    refine m_ci hw (va_runV (As := [.int (xs (7 * k + 1)), .int (xs (7 * k + 2))]) (rest := []) S (c_M_bandA l γ M μ σ ε hR (xs (7 * k + 1)) (xs (7 * k + 2)) hv) (m_cwV 2 S g872 g873 g874 g48 g875 rfl rfl ⟨by decide +kernel, by decide +kernel, by decide +kernel⟩ ⟨(Nat.le_of_ble_eq_true rfl), (Nat.le_of_ble_eq_true rfl)⟩) (hw.preV hR.1 cl_M.1) rfl rfl hl.1 rfl (lv_room (Nat.le_of_ble_eq_true rfl)) d_L_law_533 ⟨hrm.1, hrm.2⟩) (fun r2 M2 H locs hp hw => ?_)
    have hLS' := LSt.of (k := k + 1) hC hR ha hp hI.up hL hcp hcpl
    have hR2 := hp.1
    refine lv_istore S.1 S.2.1 d_L_law_536 hl (by decide) rfl (fun ls hl => ?_)
    have hl : lv_has ls 8 [(6, .int r2), (5, .int 1), (4, .int (nI (7 * k))), (3, .ref a), (2, .ref (rx μ)), (1, .ref (bx β)), (0, .ref b)] := hl
    refine lv_aload_n S.1 S.2.1 d_L_law_538 rfl (lv_at hl 4 rfl) ?_
    refine m_ci hw (va_runV (As := []) (rest := []) S (c_M_thrown l γ M2 μ σ (1, ε.2) hR2 ) (m_cwV 0 S g770 g771 g772 g48 g773 rfl rfl ⟨by decide +kernel, by decide +kernel, by decide +kernel⟩ ⟨(Nat.le_of_ble_eq_true rfl), (Nat.le_of_ble_eq_true rfl)⟩) (hw.preV hR2.1 cl_M.1) rfl rfl hl.1 rfl (lv_room (Nat.le_of_ble_eq_true rfl)) d_L_law_539 ⟨hrm.1, hrm.2⟩) (fun r3 M3 H locs hp hw => ?_)
    obtain ⟨rfl, hM3⟩ := hp
    rw [hM3] at hw
    refine lv_iload S.1 S.2.1 d_L_law_542 (lv_at hl 1 rfl) ?_
    refine lv_icmp_eq (tgt := 549) S.1 S.2.1 d_L_law_544 rfl (fun _ => ?_) (fun h => absurd (show (1 : Int32) = 1 from rfl) h)
    refine lv_iload S.1 S.2.1 d_L_law_549 (lv_at hl 1 rfl) ?_
    refine lv_if_ne (tgt := 566) S.1 S.2.1 d_L_law_551 rfl (fun _ => ?_) (fun h => absurd h (show ¬ (1 : Int32) = 0 by decide))
    refine lv_goto (tgt := 932) S.1 S.2.1 d_L_law_566 rfl ?_
    have hl := lv_sub hl [2, 3, 4, 5, 6] rfl
    exact kk M2 (stn σ) H locs ls _ _ hLS' (by omega) (by omega) hl hw
  · have hv1 : rg 1 2000 (xs (7 * k + 1)) = true := by cases h : rg 1 2000 (xs (7 * k + 1)) with | true => rfl | false => exact absurd (by rw [h]; rfl) hv
    have hv2 : rg 0 2000 (xs (7 * k + 2)) = true := by cases h : rg 0 2000 (xs (7 * k + 2)) with | true => rfl | false => exact absurd (by rw [h, Bool.and_false]) hv
    have hrm := room_ok (t := stn σ) (k := k + 1) (c := cells + (0)) (s := slots + (0)) hT0 (by omega) (by omega) (by omega)
    refine lv_aload_n S.1 S.2.1 d_L_law_501 rfl (lv_at hl 3 rfl) ?_
    refine lv_aload_n S.1 S.2.1 d_L_law_502 rfl (lv_at hl 4 rfl) ?_
    refine lv_iload S.1 S.2.1 d_L_law_503 (lv_at hl 0 rfl) ?_
    refine lv_iconst (v := 1) S.1 S.2.1 d_L_law_505 (by decide) ?_
    refine lv_iadd S.1 S.2.1 d_L_law_506 ?_
    refine m_scr (j := 7 * k + 1) S hX hbz hnn hw (nI_p (a := 7 * k) (b := 1)) (by omega) d_L_law_507 ?_
    refine lv_aload_n S.1 S.2.1 d_L_law_508 rfl (lv_at hl 4 rfl) ?_
    refine lv_iload S.1 S.2.1 d_L_law_509 (lv_at hl 0 rfl) ?_
    refine lv_iconst (v := 2) S.1 S.2.1 d_L_law_511 (by decide) ?_
    refine lv_iadd S.1 S.2.1 d_L_law_512 ?_
    refine m_scr (j := 7 * k + 2) S hX hbz hnn hw (nI_p (a := 7 * k) (b := 2)) (by omega) d_L_law_513 ?_
    refine lv_aload_n S.1 S.2.1 d_L_law_514 rfl (lv_at hl 1 rfl) ?_
    refine m_ci hw (m_runSW (n := 4) (As := [.ref (bx β), .int (xs (7 * k + 1)), .int (xs (7 * k + 2)), .ref a]) (rest := []) S (h_band l γ M β oa cp L σ hC a f ha (xs (7 * k + 1)) (xs (7 * k + 2)) hv1 hv2) g654 g655 g40 g656 rfl rfl ⟨by decide +kernel, by decide +kernel, by decide +kernel⟩ ⟨(Nat.le_of_ble_eq_true rfl), (Nat.le_of_ble_eq_true rfl)⟩ (hw.preXS hx) rfl hl.1 (lv_room (Nat.le_of_ble_eq_true rfl)) d_L_law_515 ⟨hrm.1, hrm.2⟩ rfl) (fun r1 M1 H locs hp hw => ?_)
    obtain ⟨rfl, M9, hp, hM1⟩ := hp
    obtain ⟨hC1, hf1⟩ := hp
    have ha9 : M9 a = some (ouc γ f) := hf1.out ha
    have hC9 : CB γ M1 β oa cp L (oBand σ (xs (7 * k + 1)) (xs (7 * k + 2))) := by rw [hM1]; exact CB.frB hC1 (frB.out ha9)
    have ha1 : M1 a = some (ouc γ (vp_updL f 0 ((srf σ).toInt64))) := by rw [hM1]; exact mU_eq _ _ _
    have hR1 : RM γ M1 μ σ ε := hR.fr ha (by rw [hM1]; exact frL.c hf1)
    refine lv_istore S.1 S.2.1 d_L_law_518 hl (by decide) rfl (fun ls hl => ?_)
    have hl : lv_has ls 8 [(5, .int 0), (4, .int (nI (7 * k))), (3, .ref a), (2, .ref (rx μ)), (1, .ref (bx β)), (0, .ref b)] := hl
    refine lv_aload_n S.1 S.2.1 d_L_law_520 rfl (lv_at hl 3 rfl) ?_
    refine lv_aload_n S.1 S.2.1 d_L_law_521 rfl (lv_at hl 5 rfl) ?_
    refine lv_iload S.1 S.2.1 d_L_law_522 (lv_at hl 1 rfl) ?_
    refine lv_iconst (v := 1) S.1 S.2.1 d_L_law_524 (by decide) ?_
    refine lv_iadd S.1 S.2.1 d_L_law_525 ?_
    refine m_scr (j := 7 * k + 1) S hX hbz hnn hw (nI_p (a := 7 * k) (b := 1)) (by omega) d_L_law_526 ?_
    refine lv_aload_n S.1 S.2.1 d_L_law_527 rfl (lv_at hl 5 rfl) ?_
    refine lv_iload S.1 S.2.1 d_L_law_528 (lv_at hl 1 rfl) ?_
    refine lv_iconst (v := 2) S.1 S.2.1 d_L_law_530 (by decide) ?_
    refine lv_iadd S.1 S.2.1 d_L_law_531 ?_
    refine m_scr (j := 7 * k + 2) S hX hbz hnn hw (nI_p (a := 7 * k) (b := 2)) (by omega) d_L_law_532 ?_
    refine m_ci hw (va_runV (As := [.int (xs (7 * k + 1)), .int (xs (7 * k + 2))]) (rest := []) S (c_M_band l γ M1 μ σ ε hR1 (xs (7 * k + 1)) (xs (7 * k + 2)) hv1 hv2) (m_cwV 2 S g872 g873 g874 g48 g875 rfl rfl ⟨by decide +kernel, by decide +kernel, by decide +kernel⟩ ⟨(Nat.le_of_ble_eq_true rfl), (Nat.le_of_ble_eq_true rfl)⟩) (hw.preV hR1.1 cl_M.1) rfl rfl hl.1 rfl (lv_room (Nat.le_of_ble_eq_true rfl)) d_L_law_533 ⟨hrm.1, hrm.2⟩) (fun r2 M2 H locs hp hw => ?_)
    obtain ⟨rfl, hq⟩ := hp
    have hLS' := LSt.of (k := k + 1) hC9 hR1 ha1 hq (rin_band hI hv1 hv2).up hL hcp hcpl
    have ha2 := hq.2.out hR1 ha1
    have hR2 := hq.1
    refine lv_istore S.1 S.2.1 d_L_law_536 hl (by decide) rfl (fun ls hl => ?_)
    have hl : lv_has ls 8 [(6, .int (srf σ)), (5, .int 0), (4, .int (nI (7 * k))), (3, .ref a), (2, .ref (rx μ)), (1, .ref (bx β)), (0, .ref b)] := hl
    refine lv_aload_n S.1 S.2.1 d_L_law_538 rfl (lv_at hl 4 rfl) ?_
    refine m_ci hw (va_runV (As := []) (rest := []) S (c_M_thrown l γ M2 μ (oBand σ (xs (7 * k + 1)) (xs (7 * k + 2))) (0, ε.2) hR2 ) (m_cwV 0 S g770 g771 g772 g48 g773 rfl rfl ⟨by decide +kernel, by decide +kernel, by decide +kernel⟩ ⟨(Nat.le_of_ble_eq_true rfl), (Nat.le_of_ble_eq_true rfl)⟩) (hw.preV hR2.1 cl_M.1) rfl rfl hl.1 rfl (lv_room (Nat.le_of_ble_eq_true rfl)) d_L_law_539 ⟨hrm.1, hrm.2⟩) (fun r3 M3 H locs hp hw => ?_)
    obtain ⟨rfl, hM3⟩ := hp
    rw [hM3] at hw
    refine lv_iload S.1 S.2.1 d_L_law_542 (lv_at hl 1 rfl) ?_
    refine lv_icmp_eq (tgt := 549) S.1 S.2.1 d_L_law_544 rfl (fun _ => ?_) (fun h => absurd (show (0 : Int32) = 0 from rfl) h)
    refine lv_iload S.1 S.2.1 d_L_law_549 (lv_at hl 1 rfl) ?_
    refine lv_if_ne (tgt := 566) S.1 S.2.1 d_L_law_551 rfl (fun h => absurd (show (0 : Int32) = 0 by decide) h) (fun _ => ?_)
    refine lv_aload_n S.1 S.2.1 d_L_law_554 rfl (lv_at hl 3 rfl) ?_
    refine lv_iconst (v := 0) S.1 S.2.1 d_L_law_555 (by decide) ?_
    refine m_lald (f := vp_updL f 0 ((srf σ).toInt64)) S hw ha2 (by unfold vp_in; decide) d_L_law_556 ?_
    refine W.eq (g2 := F0 m 557 ls [.long ((srf σ).toInt64)]) (congrArg (fun z => F0 m 557 ls [.long z]) (show (vp_updL f 0 ((srf σ).toInt64)) (0 : Int32).toNatClampNeg = (srf σ).toInt64 from rfl)) ?_
    refine lv_iload S.1 S.2.1 d_L_law_557 (lv_at hl 0 rfl) ?_
    refine lv_i2l S.1 S.2.1 d_L_law_559 rfl ?_
    refine W.lcmp S.1 S.2.1 d_L_law_560 ?_
    refine lv_if_eq (tgt := 566) S.1 S.2.1 d_L_law_561 rfl (fun _ => ?_) (fun h => absurd ((lg_cmp_eq _ _).mpr rfl) h)
    refine lv_goto (tgt := 932) S.1 S.2.1 d_L_law_566 rfl ?_
    have hl := lv_sub hl [2, 3, 4, 5, 6] rfl
    exact kk M2 (stn σ) H locs ls _ _ hLS' (by omega) (by omega) hl hw
set_option maxHeartbeats 4000000 in
set_option maxRecDepth 100000 in
theorem k_clearing {γ : mG} {p : Program} {l : Launch} {e : Env} {s : State} {m : MethodId} {below : List Frame} {meth : Method} {c : Code} {b n : Nat} {xs : Nat → Int32} {β : BK} {μ : RK} {a k t : Nat} {M : mMap} {H : Heap} {locs : List Loc} {ls : Array Slot} {cells slots : Nat} (hlT : xTr l) (C : LX γ p s m c b n xs) (hk : 7 * k + 7 ≤ n) (hLS : LSt γ M β μ a k t) (hc : cells ≤ 100 + kC t + 3 * k) (hs : slots ≤ 127000 + kS t + 756 * k) (hl : lv_has ls 8 [(4, .int (nI (7 * k))), (3, .ref a), (2, .ref (rx μ)), (1, .ref (bx β)), (0, .ref b)]) (hw : mW γ M s H locs) (kk : Kon γ p l e s m below meth c b β μ a k) : W p l e room_1 s m #[.ref b] below meth c H locs cells slots (lw_Z below #[.ref b] s) (F0 m 569 ls []) := by
  obtain ⟨S, hx, hX, hbz, hnn⟩ := C
  obtain ⟨oa, cp, L, σ, ε, f, hC, hR, ha, hI, hL, hcp, hcpl, rfl⟩ := hLS
  have hk1 : k + 1 ≤ 512 := by omega
  obtain ⟨hT0, hrk0⟩ := hI.t (by omega)
  have hI0 := hI.1
  have hn := hI0.1
  have hO := hI0.2.1
  by_cases hv : rg 0 2 (xs (7 * k + 1)) = false
  · have hrm := room_ok (k := k + 1) (c := cells + 1) (s := slots + 6) hT0 (by omega) (by omega) (by omega)
    refine lv_aload_n S.1 S.2.1 d_L_law_569 rfl (lv_at hl 3 rfl) ?_
    refine lv_aload_n S.1 S.2.1 d_L_law_570 rfl (lv_at hl 4 rfl) ?_
    refine lv_iload S.1 S.2.1 d_L_law_571 (lv_at hl 0 rfl) ?_
    refine lv_iconst (v := 1) S.1 S.2.1 d_L_law_573 (by decide) ?_
    refine lv_iadd S.1 S.2.1 d_L_law_574 ?_
    refine m_scr (j := 7 * k + 1) S hX hbz hnn hw (nI_p (a := 7 * k) (b := 1)) (by omega) d_L_law_575 ?_
    refine lv_aload_n S.1 S.2.1 d_L_law_576 rfl (lv_at hl 1 rfl) ?_
    refine m_ci hw (m_runSW (n := 3) (As := [.ref (bx β), .int (xs (7 * k + 1)), .ref a]) (rest := []) S (h_clearingA l hlT γ M β oa cp L σ hC a (xs (7 * k + 1)) hv) g661 g662 g40 g663 rfl rfl ⟨by decide +kernel, by decide +kernel, by decide +kernel⟩ ⟨(Nat.le_of_ble_eq_true rfl), (Nat.le_of_ble_eq_true rfl)⟩ (hw.preXS hx) rfl hl.1 (lv_room (Nat.le_of_ble_eq_true rfl)) d_L_law_577 ⟨hrm.1, hrm.2⟩ rfl) (fun r1 M1 H locs hp hw => ?_)
    obtain ⟨rfl, hM1⟩ := hp
    rw [hM1] at hw
    refine lv_istore S.1 S.2.1 d_L_law_580 hl (by decide) rfl (fun ls hl => ?_)
    have hl : lv_has ls 8 [(5, .int 1), (4, .int (nI (7 * k))), (3, .ref a), (2, .ref (rx μ)), (1, .ref (bx β)), (0, .ref b)] := hl
    refine lv_aload_n S.1 S.2.1 d_L_law_582 rfl (lv_at hl 3 rfl) ?_
    refine lv_aload_n S.1 S.2.1 d_L_law_583 rfl (lv_at hl 5 rfl) ?_
    refine lv_iload S.1 S.2.1 d_L_law_584 (lv_at hl 1 rfl) ?_
    refine lv_iconst (v := 1) S.1 S.2.1 d_L_law_586 (by decide) ?_
    refine lv_iadd S.1 S.2.1 d_L_law_587 ?_
    refine m_scr (j := 7 * k + 1) S hX hbz hnn hw (nI_p (a := 7 * k) (b := 1)) (by omega) d_L_law_588 ?_
    refine m_cl hw (va_runV (As := [.int (xs (7 * k + 1))]) (rest := []) S (c_M_clearingA l γ M μ σ ε hR (xs (7 * k + 1)) hv) (m_cwV 1 S g876 g877 g878 g48 g879 rfl rfl ⟨by decide +kernel, by decide +kernel, by decide +kernel⟩ ⟨(Nat.le_of_ble_eq_true rfl), (Nat.le_of_ble_eq_true rfl)⟩) (hw.preV hR.1 cl_M.1) rfl rfl hl.1 rfl (lv_room (Nat.le_of_ble_eq_true rfl)) d_L_law_589 ⟨hrm.1, hrm.2⟩) (fun r2 M2 H locs hp hw => ?_)
    have hLS' := LSt.of (k := k + 1) hC hR ha hp hI.up hL hcp hcpl
    have hR2 := hp.1
    refine lv_lstore S.1 S.2.1 d_L_law_592 hl (by decide) rfl (fun ls hl => ?_)
    have hl : lv_has ls 8 [(6, .long r2), (5, .int 1), (4, .int (nI (7 * k))), (3, .ref a), (2, .ref (rx μ)), (1, .ref (bx β)), (0, .ref b)] := hl
    refine lv_aload_n S.1 S.2.1 d_L_law_594 rfl (lv_at hl 4 rfl) ?_
    refine m_ci hw (va_runV (As := []) (rest := []) S (c_M_thrown l γ M2 μ σ (1, ε.2) hR2 ) (m_cwV 0 S g770 g771 g772 g48 g773 rfl rfl ⟨by decide +kernel, by decide +kernel, by decide +kernel⟩ ⟨(Nat.le_of_ble_eq_true rfl), (Nat.le_of_ble_eq_true rfl)⟩) (hw.preV hR2.1 cl_M.1) rfl rfl hl.1 rfl (lv_room (Nat.le_of_ble_eq_true rfl)) d_L_law_595 ⟨hrm.1, hrm.2⟩) (fun r3 M3 H locs hp hw => ?_)
    obtain ⟨rfl, hM3⟩ := hp
    rw [hM3] at hw
    refine lv_iload S.1 S.2.1 d_L_law_598 (lv_at hl 1 rfl) ?_
    refine lv_icmp_eq (tgt := 605) S.1 S.2.1 d_L_law_600 rfl (fun _ => ?_) (fun h => absurd (show (1 : Int32) = 1 from rfl) h)
    refine lv_iload S.1 S.2.1 d_L_law_605 (lv_at hl 1 rfl) ?_
    refine lv_if_ne (tgt := 621) S.1 S.2.1 d_L_law_607 rfl (fun _ => ?_) (fun h => absurd h (show ¬ (1 : Int32) = 0 by decide))
    refine lv_goto (tgt := 932) S.1 S.2.1 d_L_law_621 rfl ?_
    have hl := lv_sub hl [2, 3, 4, 5, 6] rfl
    exact kk M2 (stn σ) H locs ls _ _ hLS' (by omega) (by omega) hl hw
  · have hv1 : rg 0 2 (xs (7 * k + 1)) = true := by simpa using hv
    have hrm := room_ok (t := stn σ) (k := k + 1) (c := cells + (0)) (s := slots + (0)) hT0 (by omega) (by omega) (by omega)
    refine lv_aload_n S.1 S.2.1 d_L_law_569 rfl (lv_at hl 3 rfl) ?_
    refine lv_aload_n S.1 S.2.1 d_L_law_570 rfl (lv_at hl 4 rfl) ?_
    refine lv_iload S.1 S.2.1 d_L_law_571 (lv_at hl 0 rfl) ?_
    refine lv_iconst (v := 1) S.1 S.2.1 d_L_law_573 (by decide) ?_
    refine lv_iadd S.1 S.2.1 d_L_law_574 ?_
    refine m_scr (j := 7 * k + 1) S hX hbz hnn hw (nI_p (a := 7 * k) (b := 1)) (by omega) d_L_law_575 ?_
    refine lv_aload_n S.1 S.2.1 d_L_law_576 rfl (lv_at hl 1 rfl) ?_
    refine m_ci hw (m_runSW (n := 3) (As := [.ref (bx β), .int (xs (7 * k + 1)), .ref a]) (rest := []) S (h_clearing l γ M β oa cp L σ hC a f ha hI0 hL (xs (7 * k + 1)) hv1) g661 g662 g40 g663 rfl rfl ⟨by decide +kernel, by decide +kernel, by decide +kernel⟩ ⟨(Nat.le_of_ble_eq_true rfl), (Nat.le_of_ble_eq_true rfl)⟩ (hw.preXS hx) rfl hl.1 (lv_room (Nat.le_of_ble_eq_true rfl)) d_L_law_577 ⟨hrm.1, hrm.2⟩ rfl) (fun r1 M1 H locs hp hw => ?_)
    obtain ⟨rfl, M9, hp, hM1⟩ := hp
    obtain ⟨hC1, hf1⟩ := hp
    have ha9 : M9 a = some (ouc γ f) := hf1.out ha
    have hC9 : CB γ M1 β oa cp L σ := by rw [hM1]; exact CB.frB hC1 (frB.out ha9)
    have ha1 : M1 a = some (ouc γ (vp_updL f 0 (clr (aAt (sI σ) (L 1) (L 2) (srf σ) 2000) (xs (7 * k + 1))))) := by rw [hM1]; exact mU_eq _ _ _
    have hR1 : RM γ M1 μ σ ε := hR.fr ha (by rw [hM1]; exact frL.w hf1)
    refine lv_istore S.1 S.2.1 d_L_law_580 hl (by decide) rfl (fun ls hl => ?_)
    have hl : lv_has ls 8 [(5, .int 0), (4, .int (nI (7 * k))), (3, .ref a), (2, .ref (rx μ)), (1, .ref (bx β)), (0, .ref b)] := hl
    refine lv_aload_n S.1 S.2.1 d_L_law_582 rfl (lv_at hl 3 rfl) ?_
    refine lv_aload_n S.1 S.2.1 d_L_law_583 rfl (lv_at hl 5 rfl) ?_
    refine lv_iload S.1 S.2.1 d_L_law_584 (lv_at hl 1 rfl) ?_
    refine lv_iconst (v := 1) S.1 S.2.1 d_L_law_586 (by decide) ?_
    refine lv_iadd S.1 S.2.1 d_L_law_587 ?_
    refine m_scr (j := 7 * k + 1) S hX hbz hnn hw (nI_p (a := 7 * k) (b := 1)) (by omega) d_L_law_588 ?_
    refine m_cl hw (va_runV (As := [.int (xs (7 * k + 1))]) (rest := []) S (c_M_clearing l γ M1 μ σ ε hR1 L hI0 hL hI.2.1 (xs (7 * k + 1)) hv1) (m_cwV 1 S g876 g877 g878 g48 g879 rfl rfl ⟨by decide +kernel, by decide +kernel, by decide +kernel⟩ ⟨(Nat.le_of_ble_eq_true rfl), (Nat.le_of_ble_eq_true rfl)⟩) (hw.preV hR1.1 cl_M.1) rfl rfl hl.1 rfl (lv_room (Nat.le_of_ble_eq_true rfl)) d_L_law_589 ⟨hrm.1, hrm.2⟩) (fun r2 M2 H locs hp hw => ?_)
    obtain ⟨rfl, wf, of9, aa9, hq⟩ := hp
    have hLS' := LSt.of (k := k + 1) hC9 hR1 ha1 hq hI.up hL hcp hcpl
    have ha2 := hq.2.out hR1 ha1
    have hR2 := hq.1
    refine lv_lstore S.1 S.2.1 d_L_law_592 hl (by decide) rfl (fun ls hl => ?_)
    have hl : lv_has ls 8 [(6, .long (clr (aAt (sI σ) (L 1) (L 2) (srf σ) 2000) (xs (7 * k + 1)))), (5, .int 0), (4, .int (nI (7 * k))), (3, .ref a), (2, .ref (rx μ)), (1, .ref (bx β)), (0, .ref b)] := hl
    refine lv_aload_n S.1 S.2.1 d_L_law_594 rfl (lv_at hl 4 rfl) ?_
    refine m_ci hw (va_runV (As := []) (rest := []) S (c_M_thrown l γ M2 μ σ (0, wf, of9, aa9) hR2 ) (m_cwV 0 S g770 g771 g772 g48 g773 rfl rfl ⟨by decide +kernel, by decide +kernel, by decide +kernel⟩ ⟨(Nat.le_of_ble_eq_true rfl), (Nat.le_of_ble_eq_true rfl)⟩) (hw.preV hR2.1 cl_M.1) rfl rfl hl.1 rfl (lv_room (Nat.le_of_ble_eq_true rfl)) d_L_law_595 ⟨hrm.1, hrm.2⟩) (fun r3 M3 H locs hp hw => ?_)
    obtain ⟨rfl, hM3⟩ := hp
    rw [hM3] at hw
    refine lv_iload S.1 S.2.1 d_L_law_598 (lv_at hl 1 rfl) ?_
    refine lv_icmp_eq (tgt := 605) S.1 S.2.1 d_L_law_600 rfl (fun _ => ?_) (fun h => absurd (show (0 : Int32) = 0 from rfl) h)
    refine lv_iload S.1 S.2.1 d_L_law_605 (lv_at hl 1 rfl) ?_
    refine lv_if_ne (tgt := 621) S.1 S.2.1 d_L_law_607 rfl (fun h => absurd (show (0 : Int32) = 0 by decide) h) (fun _ => ?_)
    refine lv_aload_n S.1 S.2.1 d_L_law_610 rfl (lv_at hl 3 rfl) ?_
    refine lv_iconst (v := 0) S.1 S.2.1 d_L_law_611 (by decide) ?_
    refine m_lald (f := vp_updL f 0 (clr (aAt (sI σ) (L 1) (L 2) (srf σ) 2000) (xs (7 * k + 1)))) S hw ha2 (by unfold vp_in; decide) d_L_law_612 ?_
    refine W.eq (g2 := F0 m 613 ls [.long (clr (aAt (sI σ) (L 1) (L 2) (srf σ) 2000) (xs (7 * k + 1)))]) (congrArg (fun z => F0 m 613 ls [.long z]) (show (vp_updL f 0 (clr (aAt (sI σ) (L 1) (L 2) (srf σ) 2000) (xs (7 * k + 1)))) (0 : Int32).toNatClampNeg = clr (aAt (sI σ) (L 1) (L 2) (srf σ) 2000) (xs (7 * k + 1)) from rfl)) ?_
    refine lv_lload S.1 S.2.1 d_L_law_613 (lv_at hl 0 rfl) ?_
    refine W.lcmp S.1 S.2.1 d_L_law_615 ?_
    refine lv_if_eq (tgt := 621) S.1 S.2.1 d_L_law_616 rfl (fun _ => ?_) (fun h => absurd ((lg_cmp_eq _ _).mpr rfl) h)
    refine lv_goto (tgt := 932) S.1 S.2.1 d_L_law_621 rfl ?_
    have hl := lv_sub hl [2, 3, 4, 5, 6] rfl
    exact kk M2 (stn σ) H locs ls _ _ hLS' (by omega) (by omega) hl hw
set_option maxHeartbeats 4000000 in
set_option maxRecDepth 100000 in
theorem k_order {γ : mG} {p : Program} {l : Launch} {e : Env} {s : State} {m : MethodId} {below : List Frame} {meth : Method} {c : Code} {b n : Nat} {xs : Nat → Int32} {β : BK} {μ : RK} {a k t : Nat} {M : mMap} {H : Heap} {locs : List Loc} {ls : Array Slot} {cells slots : Nat} (hlT : xTr l) (C : LX γ p s m c b n xs) (hk : 7 * k + 7 ≤ n) (hLS : LSt γ M β μ a k t) (hc : cells ≤ 100 + kC t + 3 * k) (hs : slots ≤ 127000 + kS t + 756 * k) (hl : lv_has ls 8 [(4, .int (nI (7 * k))), (3, .ref a), (2, .ref (rx μ)), (1, .ref (bx β)), (0, .ref b)]) (hw : mW γ M s H locs) (kk : Kon γ p l e s m below meth c b β μ a k) : W p l e room_1 s m #[.ref b] below meth c H locs cells slots (lw_Z below #[.ref b] s) (F0 m 624 ls []) := by
  obtain ⟨S, hx, hX, hbz, hnn⟩ := C
  obtain ⟨oa, cp, L, σ, ε, f, hC, hR, ha, hI, hL, hcp, hcpl, rfl⟩ := hLS
  have hk1 : k + 1 ≤ 512 := by omega
  obtain ⟨hT0, hrk0⟩ := hI.t (by omega)
  have hI0 := hI.1
  have hn := hI0.1
  have hO := hI0.2.1
  by_cases hj : ∃ o, o < sn σ ∧ (xs (7 * k + 1)) = nI o
  · obtain ⟨o, ho, ej⟩ := hj
    by_cases hv : rg 0 8 (xs (7 * k + 2)) = false
    · have hrm := room_ok (k := k + 1) (c := cells + 1) (s := slots + 6) hT0 (by omega) (by omega) (by omega)
      refine lv_aload_n S.1 S.2.1 d_L_law_624 rfl (lv_at hl 3 rfl) ?_
      refine lv_aload_n S.1 S.2.1 d_L_law_625 rfl (lv_at hl 4 rfl) ?_
      refine lv_iload S.1 S.2.1 d_L_law_626 (lv_at hl 0 rfl) ?_
      refine lv_iconst (v := 1) S.1 S.2.1 d_L_law_628 (by decide) ?_
      refine lv_iadd S.1 S.2.1 d_L_law_629 ?_
      refine m_scr (j := 7 * k + 1) S hX hbz hnn hw (nI_p (a := 7 * k) (b := 1)) (by omega) d_L_law_630 ?_
      refine W.eq (g2 := F0 m 631 ls [.int (nI o), .ref (bx β)]) (congrArg (fun z => F0 m 631 ls [.int z, .ref (bx β)]) ej) ?_
      refine lv_aload_n S.1 S.2.1 d_L_law_631 rfl (lv_at hl 4 rfl) ?_
      refine lv_iload S.1 S.2.1 d_L_law_632 (lv_at hl 0 rfl) ?_
      refine lv_iconst (v := 2) S.1 S.2.1 d_L_law_634 (by decide) ?_
      refine lv_iadd S.1 S.2.1 d_L_law_635 ?_
      refine m_scr (j := 7 * k + 2) S hX hbz hnn hw (nI_p (a := 7 * k) (b := 2)) (by omega) d_L_law_636 ?_
      refine lv_aload_n S.1 S.2.1 d_L_law_637 rfl (lv_at hl 1 rfl) ?_
      refine m_ci hw (m_runSW (n := 4) (As := [.ref (bx β), .int (nI o), .int (xs (7 * k + 2)), .ref a]) (rest := []) S (h_orderW l hlT γ M β oa cp L σ hC a hn o ho (xs (7 * k + 2)) hv) g668 g669 g40 g670 rfl rfl ⟨by decide +kernel, by decide +kernel, by decide +kernel⟩ ⟨(Nat.le_of_ble_eq_true rfl), (Nat.le_of_ble_eq_true rfl)⟩ (hw.preXS hx) rfl hl.1 (lv_room (Nat.le_of_ble_eq_true rfl)) d_L_law_638 ⟨hrm.1, hrm.2⟩ rfl) (fun r1 M1 H locs hp hw => ?_)
      obtain ⟨rfl, hM1⟩ := hp
      rw [hM1] at hw
      refine lv_istore S.1 S.2.1 d_L_law_641 hl (by decide) rfl (fun ls hl => ?_)
      have hl : lv_has ls 8 [(5, .int 1), (4, .int (nI (7 * k))), (3, .ref a), (2, .ref (rx μ)), (1, .ref (bx β)), (0, .ref b)] := hl
      refine lv_aload_n S.1 S.2.1 d_L_law_643 rfl (lv_at hl 3 rfl) ?_
      refine lv_aload_n S.1 S.2.1 d_L_law_644 rfl (lv_at hl 5 rfl) ?_
      refine lv_iload S.1 S.2.1 d_L_law_645 (lv_at hl 1 rfl) ?_
      refine lv_iconst (v := 1) S.1 S.2.1 d_L_law_647 (by decide) ?_
      refine lv_iadd S.1 S.2.1 d_L_law_648 ?_
      refine m_scr (j := 7 * k + 1) S hX hbz hnn hw (nI_p (a := 7 * k) (b := 1)) (by omega) d_L_law_649 ?_
      refine W.eq (g2 := F0 m 650 ls [.int (nI o), .ref (rx μ)]) (congrArg (fun z => F0 m 650 ls [.int z, .ref (rx μ)]) ej) ?_
      refine lv_aload_n S.1 S.2.1 d_L_law_650 rfl (lv_at hl 5 rfl) ?_
      refine lv_iload S.1 S.2.1 d_L_law_651 (lv_at hl 1 rfl) ?_
      refine lv_iconst (v := 2) S.1 S.2.1 d_L_law_653 (by decide) ?_
      refine lv_iadd S.1 S.2.1 d_L_law_654 ?_
      refine m_scr (j := 7 * k + 2) S hX hbz hnn hw (nI_p (a := 7 * k) (b := 2)) (by omega) d_L_law_655 ?_
      refine m_ci hw (va_runV (As := [.int (nI o), .int (xs (7 * k + 2))]) (rest := []) S (c_M_orderW l γ M μ σ ε hR hn o ho (xs (7 * k + 2)) hv) (m_cwV 2 S g880 g881 g882 g48 g883 rfl rfl ⟨by decide +kernel, by decide +kernel, by decide +kernel⟩ ⟨(Nat.le_of_ble_eq_true rfl), (Nat.le_of_ble_eq_true rfl)⟩) (hw.preV hR.1 cl_M.1) rfl rfl hl.1 rfl (lv_room (Nat.le_of_ble_eq_true rfl)) d_L_law_656 ⟨hrm.1, hrm.2⟩) (fun r2 M2 H locs hp hw => ?_)
      have hLS' := LSt.of (k := k + 1) hC hR ha hp hI.up hL hcp hcpl
      have hR2 := hp.1
      refine lv_istore S.1 S.2.1 d_L_law_659 hl (by decide) rfl (fun ls hl => ?_)
      have hl : lv_has ls 8 [(6, .int r2), (5, .int 1), (4, .int (nI (7 * k))), (3, .ref a), (2, .ref (rx μ)), (1, .ref (bx β)), (0, .ref b)] := hl
      refine lv_aload_n S.1 S.2.1 d_L_law_661 rfl (lv_at hl 4 rfl) ?_
      refine m_ci hw (va_runV (As := []) (rest := []) S (c_M_thrown l γ M2 μ σ (1, ε.2) hR2 ) (m_cwV 0 S g770 g771 g772 g48 g773 rfl rfl ⟨by decide +kernel, by decide +kernel, by decide +kernel⟩ ⟨(Nat.le_of_ble_eq_true rfl), (Nat.le_of_ble_eq_true rfl)⟩) (hw.preV hR2.1 cl_M.1) rfl rfl hl.1 rfl (lv_room (Nat.le_of_ble_eq_true rfl)) d_L_law_662 ⟨hrm.1, hrm.2⟩) (fun r3 M3 H locs hp hw => ?_)
      obtain ⟨rfl, hM3⟩ := hp
      rw [hM3] at hw
      refine lv_iload S.1 S.2.1 d_L_law_665 (lv_at hl 1 rfl) ?_
      refine lv_icmp_eq (tgt := 672) S.1 S.2.1 d_L_law_667 rfl (fun _ => ?_) (fun h => absurd (show (1 : Int32) = 1 from rfl) h)
      refine lv_iload S.1 S.2.1 d_L_law_672 (lv_at hl 1 rfl) ?_
      refine lv_if_ne (tgt := 689) S.1 S.2.1 d_L_law_674 rfl (fun _ => ?_) (fun h => absurd h (show ¬ (1 : Int32) = 0 by decide))
      refine lv_goto (tgt := 932) S.1 S.2.1 d_L_law_689 rfl ?_
      have hl := lv_sub hl [2, 3, 4, 5, 6] rfl
      exact kk M2 (stn σ) H locs ls _ _ hLS' (by omega) (by omega) hl hw
    · have hv1 : rg 0 8 (xs (7 * k + 2)) = true := by simpa using hv
      have hrm := room_ok (t := stn σ) (k := k + 1) (c := cells + (0)) (s := slots + (0)) hT0 (by omega) (by omega) (by omega)
      refine lv_aload_n S.1 S.2.1 d_L_law_624 rfl (lv_at hl 3 rfl) ?_
      refine lv_aload_n S.1 S.2.1 d_L_law_625 rfl (lv_at hl 4 rfl) ?_
      refine lv_iload S.1 S.2.1 d_L_law_626 (lv_at hl 0 rfl) ?_
      refine lv_iconst (v := 1) S.1 S.2.1 d_L_law_628 (by decide) ?_
      refine lv_iadd S.1 S.2.1 d_L_law_629 ?_
      refine m_scr (j := 7 * k + 1) S hX hbz hnn hw (nI_p (a := 7 * k) (b := 1)) (by omega) d_L_law_630 ?_
      refine W.eq (g2 := F0 m 631 ls [.int (nI o), .ref (bx β)]) (congrArg (fun z => F0 m 631 ls [.int z, .ref (bx β)]) ej) ?_
      refine lv_aload_n S.1 S.2.1 d_L_law_631 rfl (lv_at hl 4 rfl) ?_
      refine lv_iload S.1 S.2.1 d_L_law_632 (lv_at hl 0 rfl) ?_
      refine lv_iconst (v := 2) S.1 S.2.1 d_L_law_634 (by decide) ?_
      refine lv_iadd S.1 S.2.1 d_L_law_635 ?_
      refine m_scr (j := 7 * k + 2) S hX hbz hnn hw (nI_p (a := 7 * k) (b := 2)) (by omega) d_L_law_636 ?_
      refine lv_aload_n S.1 S.2.1 d_L_law_637 rfl (lv_at hl 1 rfl) ?_
      refine m_ci hw (m_runSW (n := 4) (As := [.ref (bx β), .int (nI o), .int (xs (7 * k + 2)), .ref a]) (rest := []) S (h_order l γ M β oa cp L σ hC a f ha hI0 o ho (xs (7 * k + 2)) hv1) g668 g669 g40 g670 rfl rfl ⟨by decide +kernel, by decide +kernel, by decide +kernel⟩ ⟨(Nat.le_of_ble_eq_true rfl), (Nat.le_of_ble_eq_true rfl)⟩ (hw.preXS hx) rfl hl.1 (lv_room (Nat.le_of_ble_eq_true rfl)) d_L_law_638 ⟨hrm.1, hrm.2⟩ rfl) (fun r1 M1 H locs hp hw => ?_)
      obtain ⟨rfl, M9, hp, hM1⟩ := hp
      have hM2 := hp
      have ha9 : M9 a = some (ouc γ f) := by rw [hM2]; exact ha
      have hC9 : CB γ M1 β oa cp L σ := by rw [hM1]; exact CB.frB (by rw [hM2]; exact hC) (frB.out ha9)
      have ha1 : M1 a = some (ouc γ (vp_updL f 0 ((och (sI σ) o (xs (7 * k + 2))).toInt64))) := by rw [hM1]; exact mU_eq _ _ _
      have hR1 : RM γ M1 μ σ ε := hR.fr ha (by rw [hM1]; exact by rw [hM2]; exact frL.rf)
      refine lv_istore S.1 S.2.1 d_L_law_641 hl (by decide) rfl (fun ls hl => ?_)
      have hl : lv_has ls 8 [(5, .int 0), (4, .int (nI (7 * k))), (3, .ref a), (2, .ref (rx μ)), (1, .ref (bx β)), (0, .ref b)] := hl
      refine lv_aload_n S.1 S.2.1 d_L_law_643 rfl (lv_at hl 3 rfl) ?_
      refine lv_aload_n S.1 S.2.1 d_L_law_644 rfl (lv_at hl 5 rfl) ?_
      refine lv_iload S.1 S.2.1 d_L_law_645 (lv_at hl 1 rfl) ?_
      refine lv_iconst (v := 1) S.1 S.2.1 d_L_law_647 (by decide) ?_
      refine lv_iadd S.1 S.2.1 d_L_law_648 ?_
      refine m_scr (j := 7 * k + 1) S hX hbz hnn hw (nI_p (a := 7 * k) (b := 1)) (by omega) d_L_law_649 ?_
      refine W.eq (g2 := F0 m 650 ls [.int (nI o), .ref (rx μ)]) (congrArg (fun z => F0 m 650 ls [.int z, .ref (rx μ)]) ej) ?_
      refine lv_aload_n S.1 S.2.1 d_L_law_650 rfl (lv_at hl 5 rfl) ?_
      refine lv_iload S.1 S.2.1 d_L_law_651 (lv_at hl 1 rfl) ?_
      refine lv_iconst (v := 2) S.1 S.2.1 d_L_law_653 (by decide) ?_
      refine lv_iadd S.1 S.2.1 d_L_law_654 ?_
      refine m_scr (j := 7 * k + 2) S hX hbz hnn hw (nI_p (a := 7 * k) (b := 2)) (by omega) d_L_law_655 ?_
      refine m_ci hw (va_runV (As := [.int (nI o), .int (xs (7 * k + 2))]) (rest := []) S (c_M_order l γ M1 μ σ ε hR1 hn o ho (hO.1 o ho).2.2 (xs (7 * k + 2)) hv1) (m_cwV 2 S g880 g881 g882 g48 g883 rfl rfl ⟨by decide +kernel, by decide +kernel, by decide +kernel⟩ ⟨(Nat.le_of_ble_eq_true rfl), (Nat.le_of_ble_eq_true rfl)⟩) (hw.preV hR1.1 cl_M.1) rfl rfl hl.1 rfl (lv_room (Nat.le_of_ble_eq_true rfl)) d_L_law_656 ⟨hrm.1, hrm.2⟩) (fun r2 M2 H locs hp hw => ?_)
      obtain ⟨rfl, hq⟩ := hp
      have hLS' := LSt.of (k := k + 1) hC9 hR1 ha1 hq hI.up hL hcp hcpl
      have ha2 := hq.2.out hR1 ha1
      have hR2 := hq.1
      refine lv_istore S.1 S.2.1 d_L_law_659 hl (by decide) rfl (fun ls hl => ?_)
      have hl : lv_has ls 8 [(6, .int (och (sI σ) o (xs (7 * k + 2)))), (5, .int 0), (4, .int (nI (7 * k))), (3, .ref a), (2, .ref (rx μ)), (1, .ref (bx β)), (0, .ref b)] := hl
      refine lv_aload_n S.1 S.2.1 d_L_law_661 rfl (lv_at hl 4 rfl) ?_
      refine m_ci hw (va_runV (As := []) (rest := []) S (c_M_thrown l γ M2 μ σ (0, ε.2) hR2 ) (m_cwV 0 S g770 g771 g772 g48 g773 rfl rfl ⟨by decide +kernel, by decide +kernel, by decide +kernel⟩ ⟨(Nat.le_of_ble_eq_true rfl), (Nat.le_of_ble_eq_true rfl)⟩) (hw.preV hR2.1 cl_M.1) rfl rfl hl.1 rfl (lv_room (Nat.le_of_ble_eq_true rfl)) d_L_law_662 ⟨hrm.1, hrm.2⟩) (fun r3 M3 H locs hp hw => ?_)
      obtain ⟨rfl, hM3⟩ := hp
      rw [hM3] at hw
      refine lv_iload S.1 S.2.1 d_L_law_665 (lv_at hl 1 rfl) ?_
      refine lv_icmp_eq (tgt := 672) S.1 S.2.1 d_L_law_667 rfl (fun _ => ?_) (fun h => absurd (show (0 : Int32) = 0 from rfl) h)
      refine lv_iload S.1 S.2.1 d_L_law_672 (lv_at hl 1 rfl) ?_
      refine lv_if_ne (tgt := 689) S.1 S.2.1 d_L_law_674 rfl (fun h => absurd (show (0 : Int32) = 0 by decide) h) (fun _ => ?_)
      refine lv_aload_n S.1 S.2.1 d_L_law_677 rfl (lv_at hl 3 rfl) ?_
      refine lv_iconst (v := 0) S.1 S.2.1 d_L_law_678 (by decide) ?_
      refine m_lald (f := vp_updL f 0 ((och (sI σ) o (xs (7 * k + 2))).toInt64)) S hw ha2 (by unfold vp_in; decide) d_L_law_679 ?_
      refine W.eq (g2 := F0 m 680 ls [.long ((och (sI σ) o (xs (7 * k + 2))).toInt64)]) (congrArg (fun z => F0 m 680 ls [.long z]) (show (vp_updL f 0 ((och (sI σ) o (xs (7 * k + 2))).toInt64)) (0 : Int32).toNatClampNeg = (och (sI σ) o (xs (7 * k + 2))).toInt64 from rfl)) ?_
      refine lv_iload S.1 S.2.1 d_L_law_680 (lv_at hl 0 rfl) ?_
      refine lv_i2l S.1 S.2.1 d_L_law_682 rfl ?_
      refine W.lcmp S.1 S.2.1 d_L_law_683 ?_
      refine lv_if_eq (tgt := 689) S.1 S.2.1 d_L_law_684 rfl (fun _ => ?_) (fun h => absurd ((lg_cmp_eq _ _).mpr rfl) h)
      refine lv_goto (tgt := 932) S.1 S.2.1 d_L_law_689 rfl ?_
      have hl := lv_sub hl [2, 3, 4, 5, 6] rfl
      exact kk M2 (stn σ) H locs ls _ _ hLS' (by omega) (by omega) hl hw
  · have hj' : ∀ o, o < sn σ → ¬ (xs (7 * k + 1)) = nI o := fun o ho e9 => hj ⟨o, ho, e9⟩
    have hrm := room_ok (k := k + 1) (c := cells + 1) (s := slots + 6) hT0 (by omega) (by omega) (by omega)
    refine lv_aload_n S.1 S.2.1 d_L_law_624 rfl (lv_at hl 3 rfl) ?_
    refine lv_aload_n S.1 S.2.1 d_L_law_625 rfl (lv_at hl 4 rfl) ?_
    refine lv_iload S.1 S.2.1 d_L_law_626 (lv_at hl 0 rfl) ?_
    refine lv_iconst (v := 1) S.1 S.2.1 d_L_law_628 (by decide) ?_
    refine lv_iadd S.1 S.2.1 d_L_law_629 ?_
    refine m_scr (j := 7 * k + 1) S hX hbz hnn hw (nI_p (a := 7 * k) (b := 1)) (by omega) d_L_law_630 ?_
    refine lv_aload_n S.1 S.2.1 d_L_law_631 rfl (lv_at hl 4 rfl) ?_
    refine lv_iload S.1 S.2.1 d_L_law_632 (lv_at hl 0 rfl) ?_
    refine lv_iconst (v := 2) S.1 S.2.1 d_L_law_634 (by decide) ?_
    refine lv_iadd S.1 S.2.1 d_L_law_635 ?_
    refine m_scr (j := 7 * k + 2) S hX hbz hnn hw (nI_p (a := 7 * k) (b := 2)) (by omega) d_L_law_636 ?_
    refine lv_aload_n S.1 S.2.1 d_L_law_637 rfl (lv_at hl 1 rfl) ?_
    refine m_ci hw (m_runSW (n := 4) (As := [.ref (bx β), .int (xs (7 * k + 1)), .int (xs (7 * k + 2)), .ref a]) (rest := []) S (h_orderJ l hlT γ M β oa cp L σ hC a hn (xs (7 * k + 1)) hj' (xs (7 * k + 2))) g668 g669 g40 g670 rfl rfl ⟨by decide +kernel, by decide +kernel, by decide +kernel⟩ ⟨(Nat.le_of_ble_eq_true rfl), (Nat.le_of_ble_eq_true rfl)⟩ (hw.preXS hx) rfl hl.1 (lv_room (Nat.le_of_ble_eq_true rfl)) d_L_law_638 ⟨hrm.1, hrm.2⟩ rfl) (fun r1 M1 H locs hp hw => ?_)
    obtain ⟨rfl, hM1⟩ := hp
    rw [hM1] at hw
    refine lv_istore S.1 S.2.1 d_L_law_641 hl (by decide) rfl (fun ls hl => ?_)
    have hl : lv_has ls 8 [(5, .int 1), (4, .int (nI (7 * k))), (3, .ref a), (2, .ref (rx μ)), (1, .ref (bx β)), (0, .ref b)] := hl
    refine lv_aload_n S.1 S.2.1 d_L_law_643 rfl (lv_at hl 3 rfl) ?_
    refine lv_aload_n S.1 S.2.1 d_L_law_644 rfl (lv_at hl 5 rfl) ?_
    refine lv_iload S.1 S.2.1 d_L_law_645 (lv_at hl 1 rfl) ?_
    refine lv_iconst (v := 1) S.1 S.2.1 d_L_law_647 (by decide) ?_
    refine lv_iadd S.1 S.2.1 d_L_law_648 ?_
    refine m_scr (j := 7 * k + 1) S hX hbz hnn hw (nI_p (a := 7 * k) (b := 1)) (by omega) d_L_law_649 ?_
    refine lv_aload_n S.1 S.2.1 d_L_law_650 rfl (lv_at hl 5 rfl) ?_
    refine lv_iload S.1 S.2.1 d_L_law_651 (lv_at hl 1 rfl) ?_
    refine lv_iconst (v := 2) S.1 S.2.1 d_L_law_653 (by decide) ?_
    refine lv_iadd S.1 S.2.1 d_L_law_654 ?_
    refine m_scr (j := 7 * k + 2) S hX hbz hnn hw (nI_p (a := 7 * k) (b := 2)) (by omega) d_L_law_655 ?_
    refine m_ci hw (va_runV (As := [.int (xs (7 * k + 1)), .int (xs (7 * k + 2))]) (rest := []) S (c_M_orderJ l γ M μ σ ε hR hn (xs (7 * k + 1)) hj' (xs (7 * k + 2))) (m_cwV 2 S g880 g881 g882 g48 g883 rfl rfl ⟨by decide +kernel, by decide +kernel, by decide +kernel⟩ ⟨(Nat.le_of_ble_eq_true rfl), (Nat.le_of_ble_eq_true rfl)⟩) (hw.preV hR.1 cl_M.1) rfl rfl hl.1 rfl (lv_room (Nat.le_of_ble_eq_true rfl)) d_L_law_656 ⟨hrm.1, hrm.2⟩) (fun r2 M2 H locs hp hw => ?_)
    have hLS' := LSt.of (k := k + 1) hC hR ha hp hI.up hL hcp hcpl
    have hR2 := hp.1
    refine lv_istore S.1 S.2.1 d_L_law_659 hl (by decide) rfl (fun ls hl => ?_)
    have hl : lv_has ls 8 [(6, .int r2), (5, .int 1), (4, .int (nI (7 * k))), (3, .ref a), (2, .ref (rx μ)), (1, .ref (bx β)), (0, .ref b)] := hl
    refine lv_aload_n S.1 S.2.1 d_L_law_661 rfl (lv_at hl 4 rfl) ?_
    refine m_ci hw (va_runV (As := []) (rest := []) S (c_M_thrown l γ M2 μ σ (1, ε.2) hR2 ) (m_cwV 0 S g770 g771 g772 g48 g773 rfl rfl ⟨by decide +kernel, by decide +kernel, by decide +kernel⟩ ⟨(Nat.le_of_ble_eq_true rfl), (Nat.le_of_ble_eq_true rfl)⟩) (hw.preV hR2.1 cl_M.1) rfl rfl hl.1 rfl (lv_room (Nat.le_of_ble_eq_true rfl)) d_L_law_662 ⟨hrm.1, hrm.2⟩) (fun r3 M3 H locs hp hw => ?_)
    obtain ⟨rfl, hM3⟩ := hp
    rw [hM3] at hw
    refine lv_iload S.1 S.2.1 d_L_law_665 (lv_at hl 1 rfl) ?_
    refine lv_icmp_eq (tgt := 672) S.1 S.2.1 d_L_law_667 rfl (fun _ => ?_) (fun h => absurd (show (1 : Int32) = 1 from rfl) h)
    refine lv_iload S.1 S.2.1 d_L_law_672 (lv_at hl 1 rfl) ?_
    refine lv_if_ne (tgt := 689) S.1 S.2.1 d_L_law_674 rfl (fun _ => ?_) (fun h => absurd h (show ¬ (1 : Int32) = 0 by decide))
    refine lv_goto (tgt := 932) S.1 S.2.1 d_L_law_689 rfl ?_
    have hl := lv_sub hl [2, 3, 4, 5, 6] rfl
    exact kk M2 (stn σ) H locs ls _ _ hLS' (by omega) (by omega) hl hw
set_option maxHeartbeats 4000000 in
set_option maxRecDepth 100000 in
theorem k_cancel {γ : mG} {p : Program} {l : Launch} {e : Env} {s : State} {m : MethodId} {below : List Frame} {meth : Method} {c : Code} {b n : Nat} {xs : Nat → Int32} {β : BK} {μ : RK} {a k t : Nat} {M : mMap} {H : Heap} {locs : List Loc} {ls : Array Slot} {cells slots : Nat} (hlT : xTr l) (C : LX γ p s m c b n xs) (hk : 7 * k + 7 ≤ n) (hLS : LSt γ M β μ a k t) (hc : cells ≤ 100 + kC t + 3 * k) (hs : slots ≤ 127000 + kS t + 756 * k) (hl : lv_has ls 8 [(4, .int (nI (7 * k))), (3, .ref a), (2, .ref (rx μ)), (1, .ref (bx β)), (0, .ref b)]) (hw : mW γ M s H locs) (kk : Kon γ p l e s m below meth c b β μ a k) : W p l e room_1 s m #[.ref b] below meth c H locs cells slots (lw_Z below #[.ref b] s) (F0 m 246 ls []) := by
  obtain ⟨S, hx, hX, hbz, hnn⟩ := C
  obtain ⟨oa, cp, L, σ, ε, f, hC, hR, ha, hI, hL, hcp, hcpl, rfl⟩ := hLS
  have hk1 : k + 1 ≤ 512 := by omega
  obtain ⟨hT0, hrk0⟩ := hI.t (by omega)
  have hI0 := hI.1
  have hn := hI0.1
  have hO := hI0.2.1
  by_cases hj : ∃ o, o < sn σ ∧ (xs (7 * k + 1)) = nI o
  · obtain ⟨o, ho, ej⟩ := hj
    by_cases hv : sI σ 5 o = -1
    · have hrm := room_ok (k := k + 1) (c := cells + 1) (s := slots + 6) hT0 (by omega) (by omega) (by omega)
      refine lv_aload_n S.1 S.2.1 d_L_law_246 rfl (lv_at hl 3 rfl) ?_
      refine lv_aload_n S.1 S.2.1 d_L_law_247 rfl (lv_at hl 4 rfl) ?_
      refine lv_iload S.1 S.2.1 d_L_law_248 (lv_at hl 0 rfl) ?_
      refine lv_iconst (v := 1) S.1 S.2.1 d_L_law_250 (by decide) ?_
      refine lv_iadd S.1 S.2.1 d_L_law_251 ?_
      refine m_scr (j := 7 * k + 1) S hX hbz hnn hw (nI_p (a := 7 * k) (b := 1)) (by omega) d_L_law_252 ?_
      refine W.eq (g2 := F0 m 253 ls [.int (nI o), .ref (bx β)]) (congrArg (fun z => F0 m 253 ls [.int z, .ref (bx β)]) ej) ?_
      refine lv_aload_n S.1 S.2.1 d_L_law_253 rfl (lv_at hl 1 rfl) ?_
      refine m_ci hw (m_runSW (n := 3) (As := [.ref (bx β), .int (nI o), .ref a]) (rest := []) S (h_cancelS l hlT γ M β oa cp L σ hC a hn o ho hv) g579 g580 g40 g581 rfl rfl ⟨by decide +kernel, by decide +kernel, by decide +kernel⟩ ⟨(Nat.le_of_ble_eq_true rfl), (Nat.le_of_ble_eq_true rfl)⟩ (hw.preXS hx) rfl hl.1 (lv_room (Nat.le_of_ble_eq_true rfl)) d_L_law_254 ⟨hrm.1, hrm.2⟩ rfl) (fun r1 M1 H locs hp hw => ?_)
      obtain ⟨rfl, hM1⟩ := hp
      rw [hM1] at hw
      refine lv_istore S.1 S.2.1 d_L_law_257 hl (by decide) rfl (fun ls hl => ?_)
      have hl : lv_has ls 8 [(5, .int 2), (4, .int (nI (7 * k))), (3, .ref a), (2, .ref (rx μ)), (1, .ref (bx β)), (0, .ref b)] := hl
      refine lv_aload_n S.1 S.2.1 d_L_law_259 rfl (lv_at hl 3 rfl) ?_
      refine lv_aload_n S.1 S.2.1 d_L_law_260 rfl (lv_at hl 5 rfl) ?_
      refine lv_iload S.1 S.2.1 d_L_law_261 (lv_at hl 1 rfl) ?_
      refine lv_iconst (v := 1) S.1 S.2.1 d_L_law_263 (by decide) ?_
      refine lv_iadd S.1 S.2.1 d_L_law_264 ?_
      refine m_scr (j := 7 * k + 1) S hX hbz hnn hw (nI_p (a := 7 * k) (b := 1)) (by omega) d_L_law_265 ?_
      refine W.eq (g2 := F0 m 266 ls [.int (nI o), .ref (rx μ)]) (congrArg (fun z => F0 m 266 ls [.int z, .ref (rx μ)]) ej) ?_
      refine m_ci hw (va_runV (As := [.int (nI o)]) (rest := []) S (c_M_cancelS l γ M μ σ ε hR hn o ho hv) (m_cwV 1 S g840 g841 g842 g48 g843 rfl rfl ⟨by decide +kernel, by decide +kernel, by decide +kernel⟩ ⟨(Nat.le_of_ble_eq_true rfl), (Nat.le_of_ble_eq_true rfl)⟩) (hw.preV hR.1 cl_M.1) rfl rfl hl.1 rfl (lv_room (Nat.le_of_ble_eq_true rfl)) d_L_law_266 ⟨hrm.1, hrm.2⟩) (fun r2 M2 H locs hp hw => ?_)
      have hLS' := LSt.of (k := k + 1) hC hR ha hp hI.up hL hcp hcpl
      have hR2 := hp.1
      refine lv_istore S.1 S.2.1 d_L_law_269 hl (by decide) rfl (fun ls hl => ?_)
      have hl : lv_has ls 8 [(6, .int r2), (5, .int 2), (4, .int (nI (7 * k))), (3, .ref a), (2, .ref (rx μ)), (1, .ref (bx β)), (0, .ref b)] := hl
      refine lv_aload_n S.1 S.2.1 d_L_law_271 rfl (lv_at hl 4 rfl) ?_
      refine m_ci hw (va_runV (As := []) (rest := []) S (c_M_thrown l γ M2 μ σ (2, ε.2) hR2 ) (m_cwV 0 S g770 g771 g772 g48 g773 rfl rfl ⟨by decide +kernel, by decide +kernel, by decide +kernel⟩ ⟨(Nat.le_of_ble_eq_true rfl), (Nat.le_of_ble_eq_true rfl)⟩) (hw.preV hR2.1 cl_M.1) rfl rfl hl.1 rfl (lv_room (Nat.le_of_ble_eq_true rfl)) d_L_law_272 ⟨hrm.1, hrm.2⟩) (fun r3 M3 H locs hp hw => ?_)
      obtain ⟨rfl, hM3⟩ := hp
      rw [hM3] at hw
      refine lv_iload S.1 S.2.1 d_L_law_275 (lv_at hl 1 rfl) ?_
      refine lv_icmp_eq (tgt := 282) S.1 S.2.1 d_L_law_277 rfl (fun _ => ?_) (fun h => absurd (show (2 : Int32) = 2 from rfl) h)
      refine lv_iload S.1 S.2.1 d_L_law_282 (lv_at hl 1 rfl) ?_
      refine lv_if_ne (tgt := 299) S.1 S.2.1 d_L_law_284 rfl (fun _ => ?_) (fun h => absurd h (show ¬ (2 : Int32) = 0 by decide))
      refine lv_goto (tgt := 932) S.1 S.2.1 d_L_law_299 rfl ?_
      have hl := lv_sub hl [2, 3, 4, 5, 6] rfl
      exact kk M2 (stn σ) H locs ls _ _ hLS' (by omega) (by omega) hl hw
    · have hrm := room_ok (t := stn σ) (k := k + 1) (c := cells + (0)) (s := slots + (0)) hT0 (by omega) (by omega) (by omega)
      refine lv_aload_n S.1 S.2.1 d_L_law_246 rfl (lv_at hl 3 rfl) ?_
      refine lv_aload_n S.1 S.2.1 d_L_law_247 rfl (lv_at hl 4 rfl) ?_
      refine lv_iload S.1 S.2.1 d_L_law_248 (lv_at hl 0 rfl) ?_
      refine lv_iconst (v := 1) S.1 S.2.1 d_L_law_250 (by decide) ?_
      refine lv_iadd S.1 S.2.1 d_L_law_251 ?_
      refine m_scr (j := 7 * k + 1) S hX hbz hnn hw (nI_p (a := 7 * k) (b := 1)) (by omega) d_L_law_252 ?_
      refine W.eq (g2 := F0 m 253 ls [.int (nI o), .ref (bx β)]) (congrArg (fun z => F0 m 253 ls [.int z, .ref (bx β)]) ej) ?_
      refine lv_aload_n S.1 S.2.1 d_L_law_253 rfl (lv_at hl 1 rfl) ?_
      refine m_ci hw (m_runSW (n := 3) (As := [.ref (bx β), .int (nI o), .ref a]) (rest := []) S (h_cancel l γ M β oa cp L σ hC a f ha hI0 hL o ho hv) g579 g580 g40 g581 rfl rfl ⟨by decide +kernel, by decide +kernel, by decide +kernel⟩ ⟨(Nat.le_of_ble_eq_true rfl), (Nat.le_of_ble_eq_true rfl)⟩ (hw.preXS hx) rfl hl.1 (lv_room (Nat.le_of_ble_eq_true rfl)) d_L_law_254 ⟨hrm.1, hrm.2⟩ rfl) (fun r1 M1 H locs hp hw => ?_)
      obtain ⟨rfl, M9, hp, hM1⟩ := hp
      obtain ⟨L1, hC1, hI1, hL1, hf1⟩ := hp
      have ha9 : M9 a = some (ouc γ f) := hf1.out ha
      have hC9 : CB γ M1 β oa cp L1 (xEnd σ o) := by rw [hM1]; exact CB.frB hC1 (frB.out ha9)
      have ha1 : M1 a = some (ouc γ (vp_updL f 0 ((sI σ 3 o).toInt64))) := by rw [hM1]; exact mU_eq _ _ _
      have hR1 : RM γ M1 μ σ ε := hR.fr ha (by rw [hM1]; exact frL.c hf1)
      refine lv_istore S.1 S.2.1 d_L_law_257 hl (by decide) rfl (fun ls hl => ?_)
      have hl : lv_has ls 8 [(5, .int 0), (4, .int (nI (7 * k))), (3, .ref a), (2, .ref (rx μ)), (1, .ref (bx β)), (0, .ref b)] := hl
      refine lv_aload_n S.1 S.2.1 d_L_law_259 rfl (lv_at hl 3 rfl) ?_
      refine lv_aload_n S.1 S.2.1 d_L_law_260 rfl (lv_at hl 5 rfl) ?_
      refine lv_iload S.1 S.2.1 d_L_law_261 (lv_at hl 1 rfl) ?_
      refine lv_iconst (v := 1) S.1 S.2.1 d_L_law_263 (by decide) ?_
      refine lv_iadd S.1 S.2.1 d_L_law_264 ?_
      refine m_scr (j := 7 * k + 1) S hX hbz hnn hw (nI_p (a := 7 * k) (b := 1)) (by omega) d_L_law_265 ?_
      refine W.eq (g2 := F0 m 266 ls [.int (nI o), .ref (rx μ)]) (congrArg (fun z => F0 m 266 ls [.int z, .ref (rx μ)]) ej) ?_
      refine m_ci hw (va_runV (As := [.int (nI o)]) (rest := []) S (c_M_cancel l γ M1 μ σ ε hR1 hn o ho (rs_t hI0 ho hv)) (m_cwV 1 S g840 g841 g842 g48 g843 rfl rfl ⟨by decide +kernel, by decide +kernel, by decide +kernel⟩ ⟨(Nat.le_of_ble_eq_true rfl), (Nat.le_of_ble_eq_true rfl)⟩) (hw.preV hR1.1 cl_M.1) rfl rfl hl.1 rfl (lv_room (Nat.le_of_ble_eq_true rfl)) d_L_law_266 ⟨hrm.1, hrm.2⟩) (fun r2 M2 H locs hp hw => ?_)
      obtain ⟨rfl, hq⟩ := hp
      have hLS' := LSt.of (k := k + 1) hC9 hR1 ha1 hq (rin_end hI ho hI1).up hL1 hcp hcpl
      have ha2 := hq.2.out hR1 ha1
      have hR2 := hq.1
      refine lv_istore S.1 S.2.1 d_L_law_269 hl (by decide) rfl (fun ls hl => ?_)
      have hl : lv_has ls 8 [(6, .int (sI σ 3 o)), (5, .int 0), (4, .int (nI (7 * k))), (3, .ref a), (2, .ref (rx μ)), (1, .ref (bx β)), (0, .ref b)] := hl
      refine lv_aload_n S.1 S.2.1 d_L_law_271 rfl (lv_at hl 4 rfl) ?_
      refine m_ci hw (va_runV (As := []) (rest := []) S (c_M_thrown l γ M2 μ (xEnd σ o) (0, ε.2) hR2 ) (m_cwV 0 S g770 g771 g772 g48 g773 rfl rfl ⟨by decide +kernel, by decide +kernel, by decide +kernel⟩ ⟨(Nat.le_of_ble_eq_true rfl), (Nat.le_of_ble_eq_true rfl)⟩) (hw.preV hR2.1 cl_M.1) rfl rfl hl.1 rfl (lv_room (Nat.le_of_ble_eq_true rfl)) d_L_law_272 ⟨hrm.1, hrm.2⟩) (fun r3 M3 H locs hp hw => ?_)
      obtain ⟨rfl, hM3⟩ := hp
      rw [hM3] at hw
      refine lv_iload S.1 S.2.1 d_L_law_275 (lv_at hl 1 rfl) ?_
      refine lv_icmp_eq (tgt := 282) S.1 S.2.1 d_L_law_277 rfl (fun _ => ?_) (fun h => absurd (show (0 : Int32) = 0 from rfl) h)
      refine lv_iload S.1 S.2.1 d_L_law_282 (lv_at hl 1 rfl) ?_
      refine lv_if_ne (tgt := 299) S.1 S.2.1 d_L_law_284 rfl (fun h => absurd (show (0 : Int32) = 0 by decide) h) (fun _ => ?_)
      refine lv_aload_n S.1 S.2.1 d_L_law_287 rfl (lv_at hl 3 rfl) ?_
      refine lv_iconst (v := 0) S.1 S.2.1 d_L_law_288 (by decide) ?_
      refine m_lald (f := vp_updL f 0 ((sI σ 3 o).toInt64)) S hw ha2 (by unfold vp_in; decide) d_L_law_289 ?_
      refine W.eq (g2 := F0 m 290 ls [.long ((sI σ 3 o).toInt64)]) (congrArg (fun z => F0 m 290 ls [.long z]) (show (vp_updL f 0 ((sI σ 3 o).toInt64)) (0 : Int32).toNatClampNeg = (sI σ 3 o).toInt64 from rfl)) ?_
      refine lv_iload S.1 S.2.1 d_L_law_290 (lv_at hl 0 rfl) ?_
      refine lv_i2l S.1 S.2.1 d_L_law_292 rfl ?_
      refine W.lcmp S.1 S.2.1 d_L_law_293 ?_
      refine lv_if_eq (tgt := 299) S.1 S.2.1 d_L_law_294 rfl (fun _ => ?_) (fun h => absurd ((lg_cmp_eq _ _).mpr rfl) h)
      refine lv_goto (tgt := 932) S.1 S.2.1 d_L_law_299 rfl ?_
      have hl := lv_sub hl [2, 3, 4, 5, 6] rfl
      exact kk M2 (stn σ) H locs ls _ _ hLS' (by omega) (by omega) hl hw
  · have hj' : ∀ o, o < sn σ → ¬ (xs (7 * k + 1)) = nI o := fun o ho e9 => hj ⟨o, ho, e9⟩
    have hrm := room_ok (k := k + 1) (c := cells + 1) (s := slots + 6) hT0 (by omega) (by omega) (by omega)
    refine lv_aload_n S.1 S.2.1 d_L_law_246 rfl (lv_at hl 3 rfl) ?_
    refine lv_aload_n S.1 S.2.1 d_L_law_247 rfl (lv_at hl 4 rfl) ?_
    refine lv_iload S.1 S.2.1 d_L_law_248 (lv_at hl 0 rfl) ?_
    refine lv_iconst (v := 1) S.1 S.2.1 d_L_law_250 (by decide) ?_
    refine lv_iadd S.1 S.2.1 d_L_law_251 ?_
    refine m_scr (j := 7 * k + 1) S hX hbz hnn hw (nI_p (a := 7 * k) (b := 1)) (by omega) d_L_law_252 ?_
    refine lv_aload_n S.1 S.2.1 d_L_law_253 rfl (lv_at hl 1 rfl) ?_
    refine m_ci hw (m_runSW (n := 3) (As := [.ref (bx β), .int (xs (7 * k + 1)), .ref a]) (rest := []) S (h_cancelJ l hlT γ M β oa cp L σ hC a hn (xs (7 * k + 1)) hj') g579 g580 g40 g581 rfl rfl ⟨by decide +kernel, by decide +kernel, by decide +kernel⟩ ⟨(Nat.le_of_ble_eq_true rfl), (Nat.le_of_ble_eq_true rfl)⟩ (hw.preXS hx) rfl hl.1 (lv_room (Nat.le_of_ble_eq_true rfl)) d_L_law_254 ⟨hrm.1, hrm.2⟩ rfl) (fun r1 M1 H locs hp hw => ?_)
    obtain ⟨rfl, hM1⟩ := hp
    rw [hM1] at hw
    refine lv_istore S.1 S.2.1 d_L_law_257 hl (by decide) rfl (fun ls hl => ?_)
    have hl : lv_has ls 8 [(5, .int 1), (4, .int (nI (7 * k))), (3, .ref a), (2, .ref (rx μ)), (1, .ref (bx β)), (0, .ref b)] := hl
    refine lv_aload_n S.1 S.2.1 d_L_law_259 rfl (lv_at hl 3 rfl) ?_
    refine lv_aload_n S.1 S.2.1 d_L_law_260 rfl (lv_at hl 5 rfl) ?_
    refine lv_iload S.1 S.2.1 d_L_law_261 (lv_at hl 1 rfl) ?_
    refine lv_iconst (v := 1) S.1 S.2.1 d_L_law_263 (by decide) ?_
    refine lv_iadd S.1 S.2.1 d_L_law_264 ?_
    refine m_scr (j := 7 * k + 1) S hX hbz hnn hw (nI_p (a := 7 * k) (b := 1)) (by omega) d_L_law_265 ?_
    refine m_ci hw (va_runV (As := [.int (xs (7 * k + 1))]) (rest := []) S (c_M_cancelJ l γ M μ σ ε hR hn (xs (7 * k + 1)) hj') (m_cwV 1 S g840 g841 g842 g48 g843 rfl rfl ⟨by decide +kernel, by decide +kernel, by decide +kernel⟩ ⟨(Nat.le_of_ble_eq_true rfl), (Nat.le_of_ble_eq_true rfl)⟩) (hw.preV hR.1 cl_M.1) rfl rfl hl.1 rfl (lv_room (Nat.le_of_ble_eq_true rfl)) d_L_law_266 ⟨hrm.1, hrm.2⟩) (fun r2 M2 H locs hp hw => ?_)
    have hLS' := LSt.of (k := k + 1) hC hR ha hp hI.up hL hcp hcpl
    have hR2 := hp.1
    refine lv_istore S.1 S.2.1 d_L_law_269 hl (by decide) rfl (fun ls hl => ?_)
    have hl : lv_has ls 8 [(6, .int r2), (5, .int 1), (4, .int (nI (7 * k))), (3, .ref a), (2, .ref (rx μ)), (1, .ref (bx β)), (0, .ref b)] := hl
    refine lv_aload_n S.1 S.2.1 d_L_law_271 rfl (lv_at hl 4 rfl) ?_
    refine m_ci hw (va_runV (As := []) (rest := []) S (c_M_thrown l γ M2 μ σ (1, ε.2) hR2 ) (m_cwV 0 S g770 g771 g772 g48 g773 rfl rfl ⟨by decide +kernel, by decide +kernel, by decide +kernel⟩ ⟨(Nat.le_of_ble_eq_true rfl), (Nat.le_of_ble_eq_true rfl)⟩) (hw.preV hR2.1 cl_M.1) rfl rfl hl.1 rfl (lv_room (Nat.le_of_ble_eq_true rfl)) d_L_law_272 ⟨hrm.1, hrm.2⟩) (fun r3 M3 H locs hp hw => ?_)
    obtain ⟨rfl, hM3⟩ := hp
    rw [hM3] at hw
    refine lv_iload S.1 S.2.1 d_L_law_275 (lv_at hl 1 rfl) ?_
    refine lv_icmp_eq (tgt := 282) S.1 S.2.1 d_L_law_277 rfl (fun _ => ?_) (fun h => absurd (show (1 : Int32) = 1 from rfl) h)
    refine lv_iload S.1 S.2.1 d_L_law_282 (lv_at hl 1 rfl) ?_
    refine lv_if_ne (tgt := 299) S.1 S.2.1 d_L_law_284 rfl (fun _ => ?_) (fun h => absurd h (show ¬ (1 : Int32) = 0 by decide))
    refine lv_goto (tgt := 932) S.1 S.2.1 d_L_law_299 rfl ?_
    have hl := lv_sub hl [2, 3, 4, 5, 6] rfl
    exact kk M2 (stn σ) H locs ls _ _ hLS' (by omega) (by omega) hl hw
set_option maxHeartbeats 4000000 in
set_option maxRecDepth 100000 in
theorem k_cancelAll {γ : mG} {p : Program} {l : Launch} {e : Env} {s : State} {m : MethodId} {below : List Frame} {meth : Method} {c : Code} {b n : Nat} {xs : Nat → Int32} {β : BK} {μ : RK} {a k t : Nat} {M : mMap} {H : Heap} {locs : List Loc} {ls : Array Slot} {cells slots : Nat} (hlT : xTr l) (C : LX γ p s m c b n xs) (hk : 7 * k + 7 ≤ n) (hLS : LSt γ M β μ a k t) (hc : cells ≤ 100 + kC t + 3 * k) (hs : slots ≤ 127000 + kS t + 756 * k) (hl : lv_has ls 8 [(4, .int (nI (7 * k))), (3, .ref a), (2, .ref (rx μ)), (1, .ref (bx β)), (0, .ref b)]) (hw : mW γ M s H locs) (kk : Kon γ p l e s m below meth c b β μ a k) : W p l e room_1 s m #[.ref b] below meth c H locs cells slots (lw_Z below #[.ref b] s) (F0 m 302 ls []) := by
  obtain ⟨S, hx, hX, hbz, hnn⟩ := C
  obtain ⟨oa, cp, L, σ, ε, f, hC, hR, ha, hI, hL, hcp, hcpl, rfl⟩ := hLS
  have hk1 : k + 1 ≤ 512 := by omega
  obtain ⟨hT0, hrk0⟩ := hI.t (by omega)
  have hI0 := hI.1
  have hn := hI0.1
  have hO := hI0.2.1
  by_cases hv : rg 0 9 (xs (7 * k + 1)) = false
  · have hrm := room_ok (k := k + 1) (c := cells + 1) (s := slots + 6) hT0 (by omega) (by omega) (by omega)
    refine lv_aload_n S.1 S.2.1 d_L_law_302 rfl (lv_at hl 3 rfl) ?_
    refine lv_aload_n S.1 S.2.1 d_L_law_303 rfl (lv_at hl 4 rfl) ?_
    refine lv_iload S.1 S.2.1 d_L_law_304 (lv_at hl 0 rfl) ?_
    refine lv_iconst (v := 1) S.1 S.2.1 d_L_law_306 (by decide) ?_
    refine lv_iadd S.1 S.2.1 d_L_law_307 ?_
    refine m_scr (j := 7 * k + 1) S hX hbz hnn hw (nI_p (a := 7 * k) (b := 1)) (by omega) d_L_law_308 ?_
    refine lv_aload_n S.1 S.2.1 d_L_law_309 rfl (lv_at hl 1 rfl) ?_
    refine m_ci hw (m_runSW (n := 3) (As := [.ref (bx β), .int (xs (7 * k + 1)), .ref a]) (rest := []) S (h_cancelAllA l hlT γ M β oa cp L σ hC a (xs (7 * k + 1)) hv) g590 g591 g40 g592 rfl rfl ⟨by decide +kernel, by decide +kernel, by decide +kernel⟩ ⟨(Nat.le_of_ble_eq_true rfl), (Nat.le_of_ble_eq_true rfl)⟩ (hw.preXS hx) rfl hl.1 (lv_room (Nat.le_of_ble_eq_true rfl)) d_L_law_310 ⟨hrm.1, hrm.2⟩ rfl) (fun r1 M1 H locs hp hw => ?_)
    obtain ⟨rfl, hM1⟩ := hp
    rw [hM1] at hw
    refine lv_istore S.1 S.2.1 d_L_law_313 hl (by decide) rfl (fun ls hl => ?_)
    have hl : lv_has ls 8 [(5, .int 1), (4, .int (nI (7 * k))), (3, .ref a), (2, .ref (rx μ)), (1, .ref (bx β)), (0, .ref b)] := hl
    refine lv_aload_n S.1 S.2.1 d_L_law_315 rfl (lv_at hl 3 rfl) ?_
    refine lv_aload_n S.1 S.2.1 d_L_law_316 rfl (lv_at hl 5 rfl) ?_
    refine lv_iload S.1 S.2.1 d_L_law_317 (lv_at hl 1 rfl) ?_
    refine lv_iconst (v := 1) S.1 S.2.1 d_L_law_319 (by decide) ?_
    refine lv_iadd S.1 S.2.1 d_L_law_320 ?_
    refine m_scr (j := 7 * k + 1) S hX hbz hnn hw (nI_p (a := 7 * k) (b := 1)) (by omega) d_L_law_321 ?_
    refine m_ci hw (va_runV (As := [.int (xs (7 * k + 1))]) (rest := []) S (c_M_cancelAllA l γ M μ σ ε hR hn (xs (7 * k + 1)) hv) (m_cwV 1 S g848 g849 g850 g48 g851 rfl rfl ⟨by decide +kernel, by decide +kernel, by decide +kernel⟩ ⟨(Nat.le_of_ble_eq_true rfl), (Nat.le_of_ble_eq_true rfl)⟩) (hw.preV hR.1 cl_M.1) rfl rfl hl.1 rfl (lv_room (Nat.le_of_ble_eq_true rfl)) d_L_law_322 ⟨hrm.1, hrm.2⟩) (fun r2 M2 H locs hp hw => ?_)
    have hLS' := LSt.of (k := k + 1) hC hR ha hp hI.up hL hcp hcpl
    have hR2 := hp.1
    refine lv_istore S.1 S.2.1 d_L_law_325 hl (by decide) rfl (fun ls hl => ?_)
    have hl : lv_has ls 8 [(6, .int r2), (5, .int 1), (4, .int (nI (7 * k))), (3, .ref a), (2, .ref (rx μ)), (1, .ref (bx β)), (0, .ref b)] := hl
    refine lv_aload_n S.1 S.2.1 d_L_law_327 rfl (lv_at hl 4 rfl) ?_
    refine m_ci hw (va_runV (As := []) (rest := []) S (c_M_thrown l γ M2 μ σ (1, ε.2) hR2 ) (m_cwV 0 S g770 g771 g772 g48 g773 rfl rfl ⟨by decide +kernel, by decide +kernel, by decide +kernel⟩ ⟨(Nat.le_of_ble_eq_true rfl), (Nat.le_of_ble_eq_true rfl)⟩) (hw.preV hR2.1 cl_M.1) rfl rfl hl.1 rfl (lv_room (Nat.le_of_ble_eq_true rfl)) d_L_law_328 ⟨hrm.1, hrm.2⟩) (fun r3 M3 H locs hp hw => ?_)
    obtain ⟨rfl, hM3⟩ := hp
    rw [hM3] at hw
    refine lv_iload S.1 S.2.1 d_L_law_331 (lv_at hl 1 rfl) ?_
    refine lv_icmp_eq (tgt := 338) S.1 S.2.1 d_L_law_333 rfl (fun _ => ?_) (fun h => absurd (show (1 : Int32) = 1 from rfl) h)
    refine lv_iload S.1 S.2.1 d_L_law_338 (lv_at hl 1 rfl) ?_
    refine lv_if_ne (tgt := 355) S.1 S.2.1 d_L_law_340 rfl (fun _ => ?_) (fun h => absurd h (show ¬ (1 : Int32) = 0 by decide))
    refine lv_goto (tgt := 932) S.1 S.2.1 d_L_law_355 rfl ?_
    have hl := lv_sub hl [2, 3, 4, 5, 6] rfl
    exact kk M2 (stn σ) H locs ls _ _ hLS' (by omega) (by omega) hl hw
  · have hv1 : rg 0 9 (xs (7 * k + 1)) = true := by simpa using hv
    have htc : stn (xCan σ (xs (7 * k + 1)) (sn σ)).1 = stn σ := congrArg (fun z => z.2.1) (can_sn σ (xs (7 * k + 1)) (sn σ)).2.2
    have hrm := room_ok (t := stn σ) (k := k + 1) (c := cells + (0)) (s := slots + (0)) hT0 (by omega) (by omega) (by omega)
    refine lv_aload_n S.1 S.2.1 d_L_law_302 rfl (lv_at hl 3 rfl) ?_
    refine lv_aload_n S.1 S.2.1 d_L_law_303 rfl (lv_at hl 4 rfl) ?_
    refine lv_iload S.1 S.2.1 d_L_law_304 (lv_at hl 0 rfl) ?_
    refine lv_iconst (v := 1) S.1 S.2.1 d_L_law_306 (by decide) ?_
    refine lv_iadd S.1 S.2.1 d_L_law_307 ?_
    refine m_scr (j := 7 * k + 1) S hX hbz hnn hw (nI_p (a := 7 * k) (b := 1)) (by omega) d_L_law_308 ?_
    refine lv_aload_n S.1 S.2.1 d_L_law_309 rfl (lv_at hl 1 rfl) ?_
    refine m_ci hw (m_runSW (n := 3) (As := [.ref (bx β), .int (xs (7 * k + 1)), .ref a]) (rest := []) S (h_cancelAll l γ M β oa cp L σ hC a f ha hI0 hL (xs (7 * k + 1)) hv1) g590 g591 g40 g592 rfl rfl ⟨by decide +kernel, by decide +kernel, by decide +kernel⟩ ⟨(Nat.le_of_ble_eq_true rfl), (Nat.le_of_ble_eq_true rfl)⟩ (hw.preXS hx) rfl hl.1 (lv_room (Nat.le_of_ble_eq_true rfl)) d_L_law_310 ⟨hrm.1, hrm.2⟩ rfl) (fun r1 M1 H locs hp hw => ?_)
    obtain ⟨rfl, M9, hp, hM1⟩ := hp
    obtain ⟨L1, hC1, hI1, hL1, hf1⟩ := hp
    have ha9 : M9 a = some (ouc γ f) := hf1.out ha
    have hC9 : CB γ M1 β oa cp L1 ((xCan σ (xs (7 * k + 1)) (sn σ)).1) := by rw [hM1]; exact CB.frB hC1 (frB.out ha9)
    have ha1 : M1 a = some (ouc γ (vp_updL f 0 ((nI (xCan σ (xs (7 * k + 1)) (sn σ)).2).toInt64))) := by rw [hM1]; exact mU_eq _ _ _
    have hR1 : RM γ M1 μ σ ε := hR.fr ha (by rw [hM1]; exact frL.c hf1)
    refine lv_istore S.1 S.2.1 d_L_law_313 hl (by decide) rfl (fun ls hl => ?_)
    have hl : lv_has ls 8 [(5, .int 0), (4, .int (nI (7 * k))), (3, .ref a), (2, .ref (rx μ)), (1, .ref (bx β)), (0, .ref b)] := hl
    refine lv_aload_n S.1 S.2.1 d_L_law_315 rfl (lv_at hl 3 rfl) ?_
    refine lv_aload_n S.1 S.2.1 d_L_law_316 rfl (lv_at hl 5 rfl) ?_
    refine lv_iload S.1 S.2.1 d_L_law_317 (lv_at hl 1 rfl) ?_
    refine lv_iconst (v := 1) S.1 S.2.1 d_L_law_319 (by decide) ?_
    refine lv_iadd S.1 S.2.1 d_L_law_320 ?_
    refine m_scr (j := 7 * k + 1) S hX hbz hnn hw (nI_p (a := 7 * k) (b := 1)) (by omega) d_L_law_321 ?_
    refine m_ci hw (va_runV (As := [.int (xs (7 * k + 1))]) (rest := []) S (c_M_cancelAll l γ M1 μ σ ε hR1 hI0 (xs (7 * k + 1)) hv1) (m_cwV 1 S g848 g849 g850 g48 g851 rfl rfl ⟨by decide +kernel, by decide +kernel, by decide +kernel⟩ ⟨(Nat.le_of_ble_eq_true rfl), (Nat.le_of_ble_eq_true rfl)⟩) (hw.preV hR1.1 cl_M.1) rfl rfl hl.1 rfl (lv_room (Nat.le_of_ble_eq_true rfl)) d_L_law_322 ⟨hrm.1, hrm.2⟩) (fun r2 M2 H locs hp hw => ?_)
    obtain ⟨rfl, hq⟩ := hp
    have hLS' := LSt.of (k := k + 1) hC9 hR1 ha1 hq (rin_can hI (sn σ) (Nat.le_refl _)).up hL1 (by rw [htc]; exact hcp) hcpl
    have ha2 := hq.2.out hR1 ha1
    have hR2 := hq.1
    rw [htc] at hLS'
    refine lv_istore S.1 S.2.1 d_L_law_325 hl (by decide) rfl (fun ls hl => ?_)
    have hl : lv_has ls 8 [(6, .int (nI (xCan σ (xs (7 * k + 1)) (sn σ)).2)), (5, .int 0), (4, .int (nI (7 * k))), (3, .ref a), (2, .ref (rx μ)), (1, .ref (bx β)), (0, .ref b)] := hl
    refine lv_aload_n S.1 S.2.1 d_L_law_327 rfl (lv_at hl 4 rfl) ?_
    refine m_ci hw (va_runV (As := []) (rest := []) S (c_M_thrown l γ M2 μ ((xCan σ (xs (7 * k + 1)) (sn σ)).1) (0, ε.2) hR2 ) (m_cwV 0 S g770 g771 g772 g48 g773 rfl rfl ⟨by decide +kernel, by decide +kernel, by decide +kernel⟩ ⟨(Nat.le_of_ble_eq_true rfl), (Nat.le_of_ble_eq_true rfl)⟩) (hw.preV hR2.1 cl_M.1) rfl rfl hl.1 rfl (lv_room (Nat.le_of_ble_eq_true rfl)) d_L_law_328 ⟨hrm.1, hrm.2⟩) (fun r3 M3 H locs hp hw => ?_)
    obtain ⟨rfl, hM3⟩ := hp
    rw [hM3] at hw
    refine lv_iload S.1 S.2.1 d_L_law_331 (lv_at hl 1 rfl) ?_
    refine lv_icmp_eq (tgt := 338) S.1 S.2.1 d_L_law_333 rfl (fun _ => ?_) (fun h => absurd (show (0 : Int32) = 0 from rfl) h)
    refine lv_iload S.1 S.2.1 d_L_law_338 (lv_at hl 1 rfl) ?_
    refine lv_if_ne (tgt := 355) S.1 S.2.1 d_L_law_340 rfl (fun h => absurd (show (0 : Int32) = 0 by decide) h) (fun _ => ?_)
    refine lv_aload_n S.1 S.2.1 d_L_law_343 rfl (lv_at hl 3 rfl) ?_
    refine lv_iconst (v := 0) S.1 S.2.1 d_L_law_344 (by decide) ?_
    refine m_lald (f := vp_updL f 0 ((nI (xCan σ (xs (7 * k + 1)) (sn σ)).2).toInt64)) S hw ha2 (by unfold vp_in; decide) d_L_law_345 ?_
    refine W.eq (g2 := F0 m 346 ls [.long ((nI (xCan σ (xs (7 * k + 1)) (sn σ)).2).toInt64)]) (congrArg (fun z => F0 m 346 ls [.long z]) (show (vp_updL f 0 ((nI (xCan σ (xs (7 * k + 1)) (sn σ)).2).toInt64)) (0 : Int32).toNatClampNeg = (nI (xCan σ (xs (7 * k + 1)) (sn σ)).2).toInt64 from rfl)) ?_
    refine lv_iload S.1 S.2.1 d_L_law_346 (lv_at hl 0 rfl) ?_
    refine lv_i2l S.1 S.2.1 d_L_law_348 rfl ?_
    refine W.lcmp S.1 S.2.1 d_L_law_349 ?_
    refine lv_if_eq (tgt := 355) S.1 S.2.1 d_L_law_350 rfl (fun _ => ?_) (fun h => absurd ((lg_cmp_eq _ _).mpr rfl) h)
    refine lv_goto (tgt := 932) S.1 S.2.1 d_L_law_355 rfl ?_
    have hl := lv_sub hl [2, 3, 4, 5, 6] rfl
    exact kk M2 (stn σ) H locs ls _ _ hLS' (by omega) (by omega) hl hw
set_option maxHeartbeats 4000000 in
set_option maxRecDepth 100000 in
theorem k_depth {γ : mG} {p : Program} {l : Launch} {e : Env} {s : State} {m : MethodId} {below : List Frame} {meth : Method} {c : Code} {b n : Nat} {xs : Nat → Int32} {β : BK} {μ : RK} {a k t : Nat} {M : mMap} {H : Heap} {locs : List Loc} {ls : Array Slot} {cells slots : Nat} (hlT : xTr l) (C : LX γ p s m c b n xs) (hk : 7 * k + 7 ≤ n) (hLS : LSt γ M β μ a k t) (hc : cells ≤ 100 + kC t + 3 * k) (hs : slots ≤ 127000 + kS t + 756 * k) (hl : lv_has ls 8 [(4, .int (nI (7 * k))), (3, .ref a), (2, .ref (rx μ)), (1, .ref (bx β)), (0, .ref b)]) (hw : mW γ M s H locs) (kk : Kon γ p l e s m below meth c b β μ a k) : W p l e room_1 s m #[.ref b] below meth c H locs cells slots (lw_Z below #[.ref b] s) (F0 m 745 ls []) := by
  obtain ⟨S, hx, hX, hbz, hnn⟩ := C
  obtain ⟨oa, cp, L, σ, ε, f, hC, hR, ha, hI, hL, hcp, hcpl, rfl⟩ := hLS
  have hk1 : k + 1 ≤ 512 := by omega
  obtain ⟨hT0, hrk0⟩ := hI.t (by omega)
  have hI0 := hI.1
  have hn := hI0.1
  have hO := hI0.2.1
  by_cases hz1 : (xs (7 * k + 1)) = 0
  · by_cases hz3 : (xs (7 * k + 3)) = 0
    · by_cases hv : rg 0 2000 (xs (7 * k + 2)) = false
      · have hrm := room_ok (k := k + 1) (c := cells + 1) (s := slots + 6) hT0 (by omega) (by omega) (by omega)
        refine lv_aload_n S.1 S.2.1 d_L_law_745 rfl (lv_at hl 3 rfl) ?_
        refine lv_aload_n S.1 S.2.1 d_L_law_746 rfl (lv_at hl 4 rfl) ?_
        refine lv_iload S.1 S.2.1 d_L_law_747 (lv_at hl 0 rfl) ?_
        refine lv_iconst (v := 1) S.1 S.2.1 d_L_law_749 (by decide) ?_
        refine lv_iadd S.1 S.2.1 d_L_law_750 ?_
        refine m_scr (j := 7 * k + 1) S hX hbz hnn hw (nI_p (a := 7 * k) (b := 1)) (by omega) d_L_law_751 ?_
        refine lv_if_eq (tgt := 759) S.1 S.2.1 d_L_law_752 rfl (fun _ => ?_) (fun h => absurd hz1 h)
        refine lv_iconst (v := 0) S.1 S.2.1 d_L_law_759 (by decide) ?_
        refine lv_aload_n S.1 S.2.1 d_L_law_760 rfl (lv_at hl 4 rfl) ?_
        refine lv_iload S.1 S.2.1 d_L_law_761 (lv_at hl 0 rfl) ?_
        refine lv_iconst (v := 2) S.1 S.2.1 d_L_law_763 (by decide) ?_
        refine lv_iadd S.1 S.2.1 d_L_law_764 ?_
        refine m_scr (j := 7 * k + 2) S hX hbz hnn hw (nI_p (a := 7 * k) (b := 2)) (by omega) d_L_law_765 ?_
        refine lv_aload_n S.1 S.2.1 d_L_law_766 rfl (lv_at hl 4 rfl) ?_
        refine lv_iload S.1 S.2.1 d_L_law_767 (lv_at hl 0 rfl) ?_
        refine lv_iconst (v := 3) S.1 S.2.1 d_L_law_769 (by decide) ?_
        refine lv_iadd S.1 S.2.1 d_L_law_770 ?_
        refine m_scr (j := 7 * k + 3) S hX hbz hnn hw (nI_p (a := 7 * k) (b := 3)) (by omega) d_L_law_771 ?_
        refine lv_if_eq (tgt := 779) S.1 S.2.1 d_L_law_772 rfl (fun _ => ?_) (fun h => absurd hz3 h)
        refine lv_iconst (v := 0) S.1 S.2.1 d_L_law_779 (by decide) ?_
        refine lv_aload_n S.1 S.2.1 d_L_law_780 rfl (lv_at hl 1 rfl) ?_
        refine m_ci hw (m_runSW (n := 5) (As := [.ref (bx β), .int 0, .int (xs (7 * k + 2)), .int 0, .ref a]) (rest := []) S (h_depthA l hlT γ M β oa cp L σ hC a 0 (xs (7 * k + 2)) 0 hv) g675 g676 g40 g677 rfl rfl ⟨by decide +kernel, by decide +kernel, by decide +kernel⟩ ⟨(Nat.le_of_ble_eq_true rfl), (Nat.le_of_ble_eq_true rfl)⟩ (hw.preXS hx) rfl hl.1 (lv_room (Nat.le_of_ble_eq_true rfl)) d_L_law_781 ⟨hrm.1, hrm.2⟩ rfl) (fun r1 M1 H locs hp hw => ?_)
        obtain ⟨rfl, hM1⟩ := hp
        rw [hM1] at hw
        refine lv_istore S.1 S.2.1 d_L_law_784 hl (by decide) rfl (fun ls hl => ?_)
        have hl : lv_has ls 8 [(5, .int 1), (4, .int (nI (7 * k))), (3, .ref a), (2, .ref (rx μ)), (1, .ref (bx β)), (0, .ref b)] := hl
        refine lv_aload_n S.1 S.2.1 d_L_law_786 rfl (lv_at hl 3 rfl) ?_
        refine lv_aload_n S.1 S.2.1 d_L_law_787 rfl (lv_at hl 5 rfl) ?_
        refine lv_iload S.1 S.2.1 d_L_law_788 (lv_at hl 1 rfl) ?_
        refine lv_iconst (v := 1) S.1 S.2.1 d_L_law_790 (by decide) ?_
        refine lv_iadd S.1 S.2.1 d_L_law_791 ?_
        refine m_scr (j := 7 * k + 1) S hX hbz hnn hw (nI_p (a := 7 * k) (b := 1)) (by omega) d_L_law_792 ?_
        refine lv_if_eq (tgt := 800) S.1 S.2.1 d_L_law_793 rfl (fun _ => ?_) (fun h => absurd hz1 h)
        refine lv_iconst (v := 0) S.1 S.2.1 d_L_law_800 (by decide) ?_
        refine lv_aload_n S.1 S.2.1 d_L_law_801 rfl (lv_at hl 5 rfl) ?_
        refine lv_iload S.1 S.2.1 d_L_law_802 (lv_at hl 1 rfl) ?_
        refine lv_iconst (v := 2) S.1 S.2.1 d_L_law_804 (by decide) ?_
        refine lv_iadd S.1 S.2.1 d_L_law_805 ?_
        refine m_scr (j := 7 * k + 2) S hX hbz hnn hw (nI_p (a := 7 * k) (b := 2)) (by omega) d_L_law_806 ?_
        refine lv_aload_n S.1 S.2.1 d_L_law_807 rfl (lv_at hl 5 rfl) ?_
        refine lv_iload S.1 S.2.1 d_L_law_808 (lv_at hl 1 rfl) ?_
        refine lv_iconst (v := 3) S.1 S.2.1 d_L_law_810 (by decide) ?_
        refine lv_iadd S.1 S.2.1 d_L_law_811 ?_
        refine m_scr (j := 7 * k + 3) S hX hbz hnn hw (nI_p (a := 7 * k) (b := 3)) (by omega) d_L_law_812 ?_
        refine lv_if_eq (tgt := 820) S.1 S.2.1 d_L_law_813 rfl (fun _ => ?_) (fun h => absurd hz3 h)
        refine lv_iconst (v := 0) S.1 S.2.1 d_L_law_820 (by decide) ?_
        refine m_cl hw (va_runV (As := [.int 0, .int (xs (7 * k + 2)), .int 0]) (rest := []) S (c_M_depthA l γ M μ σ ε hR hn 0 (xs (7 * k + 2)) 0 hv) (m_cwV 3 S g888 g889 g890 g48 g891 rfl rfl ⟨by decide +kernel, by decide +kernel, by decide +kernel⟩ ⟨(Nat.le_of_ble_eq_true rfl), (Nat.le_of_ble_eq_true rfl)⟩) (hw.preV hR.1 cl_M.1) rfl rfl hl.1 rfl (lv_room (Nat.le_of_ble_eq_true rfl)) d_L_law_821 ⟨hrm.1, hrm.2⟩) (fun r2 M2 H locs hp hw => ?_)
        have hLS' := LSt.of (k := k + 1) hC hR ha hp hI.up hL hcp hcpl
        have hR2 := hp.1
        refine lv_lstore S.1 S.2.1 d_L_law_824 hl (by decide) rfl (fun ls hl => ?_)
        have hl : lv_has ls 8 [(6, .long r2), (5, .int 1), (4, .int (nI (7 * k))), (3, .ref a), (2, .ref (rx μ)), (1, .ref (bx β)), (0, .ref b)] := hl
        refine lv_aload_n S.1 S.2.1 d_L_law_826 rfl (lv_at hl 4 rfl) ?_
        refine m_ci hw (va_runV (As := []) (rest := []) S (c_M_thrown l γ M2 μ σ (1, ε.2) hR2 ) (m_cwV 0 S g770 g771 g772 g48 g773 rfl rfl ⟨by decide +kernel, by decide +kernel, by decide +kernel⟩ ⟨(Nat.le_of_ble_eq_true rfl), (Nat.le_of_ble_eq_true rfl)⟩) (hw.preV hR2.1 cl_M.1) rfl rfl hl.1 rfl (lv_room (Nat.le_of_ble_eq_true rfl)) d_L_law_827 ⟨hrm.1, hrm.2⟩) (fun r3 M3 H locs hp hw => ?_)
        obtain ⟨rfl, hM3⟩ := hp
        rw [hM3] at hw
        refine lv_iload S.1 S.2.1 d_L_law_830 (lv_at hl 1 rfl) ?_
        refine lv_icmp_eq (tgt := 837) S.1 S.2.1 d_L_law_832 rfl (fun _ => ?_) (fun h => absurd (show (1 : Int32) = 1 from rfl) h)
        refine lv_iload S.1 S.2.1 d_L_law_837 (lv_at hl 1 rfl) ?_
        refine lv_if_ne (tgt := 853) S.1 S.2.1 d_L_law_839 rfl (fun _ => ?_) (fun h => absurd h (show ¬ (1 : Int32) = 0 by decide))
        refine lv_goto (tgt := 932) S.1 S.2.1 d_L_law_853 rfl ?_
        have hl := lv_sub hl [2, 3, 4, 5, 6] rfl
        exact kk M2 (stn σ) H locs ls _ _ hLS' (by omega) (by omega) hl hw
      · have hv1 : rg 0 2000 (xs (7 * k + 2)) = true := by simpa using hv
        have hrm := room_ok (t := stn σ) (k := k + 1) (c := cells + (0)) (s := slots + (0)) hT0 (by omega) (by omega) (by omega)
        refine lv_aload_n S.1 S.2.1 d_L_law_745 rfl (lv_at hl 3 rfl) ?_
        refine lv_aload_n S.1 S.2.1 d_L_law_746 rfl (lv_at hl 4 rfl) ?_
        refine lv_iload S.1 S.2.1 d_L_law_747 (lv_at hl 0 rfl) ?_
        refine lv_iconst (v := 1) S.1 S.2.1 d_L_law_749 (by decide) ?_
        refine lv_iadd S.1 S.2.1 d_L_law_750 ?_
        refine m_scr (j := 7 * k + 1) S hX hbz hnn hw (nI_p (a := 7 * k) (b := 1)) (by omega) d_L_law_751 ?_
        refine lv_if_eq (tgt := 759) S.1 S.2.1 d_L_law_752 rfl (fun _ => ?_) (fun h => absurd hz1 h)
        refine lv_iconst (v := 0) S.1 S.2.1 d_L_law_759 (by decide) ?_
        refine lv_aload_n S.1 S.2.1 d_L_law_760 rfl (lv_at hl 4 rfl) ?_
        refine lv_iload S.1 S.2.1 d_L_law_761 (lv_at hl 0 rfl) ?_
        refine lv_iconst (v := 2) S.1 S.2.1 d_L_law_763 (by decide) ?_
        refine lv_iadd S.1 S.2.1 d_L_law_764 ?_
        refine m_scr (j := 7 * k + 2) S hX hbz hnn hw (nI_p (a := 7 * k) (b := 2)) (by omega) d_L_law_765 ?_
        refine lv_aload_n S.1 S.2.1 d_L_law_766 rfl (lv_at hl 4 rfl) ?_
        refine lv_iload S.1 S.2.1 d_L_law_767 (lv_at hl 0 rfl) ?_
        refine lv_iconst (v := 3) S.1 S.2.1 d_L_law_769 (by decide) ?_
        refine lv_iadd S.1 S.2.1 d_L_law_770 ?_
        refine m_scr (j := 7 * k + 3) S hX hbz hnn hw (nI_p (a := 7 * k) (b := 3)) (by omega) d_L_law_771 ?_
        refine lv_if_eq (tgt := 779) S.1 S.2.1 d_L_law_772 rfl (fun _ => ?_) (fun h => absurd hz3 h)
        refine lv_iconst (v := 0) S.1 S.2.1 d_L_law_779 (by decide) ?_
        refine lv_aload_n S.1 S.2.1 d_L_law_780 rfl (lv_at hl 1 rfl) ?_
        refine m_ci hw (m_runSW (n := 5) (As := [.ref (bx β), .int 0, .int (xs (7 * k + 2)), .int 0, .ref a]) (rest := []) S (h_depth l γ M β oa cp L σ hC a f ha hI0 hL 0 (Or.inl rfl) (xs (7 * k + 2)) 0 hv1) g675 g676 g40 g677 rfl rfl ⟨by decide +kernel, by decide +kernel, by decide +kernel⟩ ⟨(Nat.le_of_ble_eq_true rfl), (Nat.le_of_ble_eq_true rfl)⟩ (hw.preXS hx) rfl hl.1 (lv_room (Nat.le_of_ble_eq_true rfl)) d_L_law_781 ⟨hrm.1, hrm.2⟩ rfl) (fun r1 M1 H locs hp hw => ?_)
        obtain ⟨rfl, M9, hp, hM1⟩ := hp
        have hM2 := hp
        have ha9 : M9 a = some (ouc γ f) := by rw [hM2]; exact ha
        have hC9 : CB γ M1 β oa cp L σ := by rw [hM1]; exact CB.frB (by rw [hM2]; exact hC) (frB.out ha9)
        have ha1 : M1 a = some (ouc γ (vp_updL f 0 (dS (sI σ) 0 (xs (7 * k + 2)) (L (sj 0))))) := by rw [hM1]; exact mU_eq _ _ _
        have hR1 : RM γ M1 μ σ ε := hR.fr ha (by rw [hM1]; exact by rw [hM2]; exact frL.rf)
        refine lv_istore S.1 S.2.1 d_L_law_784 hl (by decide) rfl (fun ls hl => ?_)
        have hl : lv_has ls 8 [(5, .int 0), (4, .int (nI (7 * k))), (3, .ref a), (2, .ref (rx μ)), (1, .ref (bx β)), (0, .ref b)] := hl
        refine lv_aload_n S.1 S.2.1 d_L_law_786 rfl (lv_at hl 3 rfl) ?_
        refine lv_aload_n S.1 S.2.1 d_L_law_787 rfl (lv_at hl 5 rfl) ?_
        refine lv_iload S.1 S.2.1 d_L_law_788 (lv_at hl 1 rfl) ?_
        refine lv_iconst (v := 1) S.1 S.2.1 d_L_law_790 (by decide) ?_
        refine lv_iadd S.1 S.2.1 d_L_law_791 ?_
        refine m_scr (j := 7 * k + 1) S hX hbz hnn hw (nI_p (a := 7 * k) (b := 1)) (by omega) d_L_law_792 ?_
        refine lv_if_eq (tgt := 800) S.1 S.2.1 d_L_law_793 rfl (fun _ => ?_) (fun h => absurd hz1 h)
        refine lv_iconst (v := 0) S.1 S.2.1 d_L_law_800 (by decide) ?_
        refine lv_aload_n S.1 S.2.1 d_L_law_801 rfl (lv_at hl 5 rfl) ?_
        refine lv_iload S.1 S.2.1 d_L_law_802 (lv_at hl 1 rfl) ?_
        refine lv_iconst (v := 2) S.1 S.2.1 d_L_law_804 (by decide) ?_
        refine lv_iadd S.1 S.2.1 d_L_law_805 ?_
        refine m_scr (j := 7 * k + 2) S hX hbz hnn hw (nI_p (a := 7 * k) (b := 2)) (by omega) d_L_law_806 ?_
        refine lv_aload_n S.1 S.2.1 d_L_law_807 rfl (lv_at hl 5 rfl) ?_
        refine lv_iload S.1 S.2.1 d_L_law_808 (lv_at hl 1 rfl) ?_
        refine lv_iconst (v := 3) S.1 S.2.1 d_L_law_810 (by decide) ?_
        refine lv_iadd S.1 S.2.1 d_L_law_811 ?_
        refine m_scr (j := 7 * k + 3) S hX hbz hnn hw (nI_p (a := 7 * k) (b := 3)) (by omega) d_L_law_812 ?_
        refine lv_if_eq (tgt := 820) S.1 S.2.1 d_L_law_813 rfl (fun _ => ?_) (fun h => absurd hz3 h)
        refine lv_iconst (v := 0) S.1 S.2.1 d_L_law_820 (by decide) ?_
        refine m_cl hw (va_runV (As := [.int 0, .int (xs (7 * k + 2)), .int 0]) (rest := []) S (c_M_depth l γ M1 μ σ ε hR1 hn 0 (xs (7 * k + 2)) 0 hv1) (m_cwV 3 S g888 g889 g890 g48 g891 rfl rfl ⟨by decide +kernel, by decide +kernel, by decide +kernel⟩ ⟨(Nat.le_of_ble_eq_true rfl), (Nat.le_of_ble_eq_true rfl)⟩) (hw.preV hR1.1 cl_M.1) rfl rfl hl.1 rfl (lv_room (Nat.le_of_ble_eq_true rfl)) d_L_law_821 ⟨hrm.1, hrm.2⟩) (fun r2 M2 H locs hp hw => ?_)
        obtain ⟨rfl, hq⟩ := hp
        have hLS' := LSt.of (k := k + 1) hC9 hR1 ha1 hq hI.up hL hcp hcpl
        have ha2 := hq.2.out hR1 ha1
        have hR2 := hq.1
        refine lv_lstore S.1 S.2.1 d_L_law_824 hl (by decide) rfl (fun ls hl => ?_)
        have hl : lv_has ls 8 [(6, .long (dR (sI σ) 0 (xs (7 * k + 2)) 0 (sn σ))), (5, .int 0), (4, .int (nI (7 * k))), (3, .ref a), (2, .ref (rx μ)), (1, .ref (bx β)), (0, .ref b)] := hl
        refine lv_aload_n S.1 S.2.1 d_L_law_826 rfl (lv_at hl 4 rfl) ?_
        refine m_ci hw (va_runV (As := []) (rest := []) S (c_M_thrown l γ M2 μ σ (0, ε.2) hR2 ) (m_cwV 0 S g770 g771 g772 g48 g773 rfl rfl ⟨by decide +kernel, by decide +kernel, by decide +kernel⟩ ⟨(Nat.le_of_ble_eq_true rfl), (Nat.le_of_ble_eq_true rfl)⟩) (hw.preV hR2.1 cl_M.1) rfl rfl hl.1 rfl (lv_room (Nat.le_of_ble_eq_true rfl)) d_L_law_827 ⟨hrm.1, hrm.2⟩) (fun r3 M3 H locs hp hw => ?_)
        obtain ⟨rfl, hM3⟩ := hp
        rw [hM3] at hw
        refine lv_iload S.1 S.2.1 d_L_law_830 (lv_at hl 1 rfl) ?_
        refine lv_icmp_eq (tgt := 837) S.1 S.2.1 d_L_law_832 rfl (fun _ => ?_) (fun h => absurd (show (0 : Int32) = 0 from rfl) h)
        refine lv_iload S.1 S.2.1 d_L_law_837 (lv_at hl 1 rfl) ?_
        refine lv_if_ne (tgt := 853) S.1 S.2.1 d_L_law_839 rfl (fun h => absurd (show (0 : Int32) = 0 by decide) h) (fun _ => ?_)
        refine lv_aload_n S.1 S.2.1 d_L_law_842 rfl (lv_at hl 3 rfl) ?_
        refine lv_iconst (v := 0) S.1 S.2.1 d_L_law_843 (by decide) ?_
        refine m_lald (f := vp_updL f 0 (dS (sI σ) 0 (xs (7 * k + 2)) (L (sj 0)))) S hw ha2 (by unfold vp_in; decide) d_L_law_844 ?_
        refine W.eq (g2 := F0 m 845 ls [.long (dS (sI σ) 0 (xs (7 * k + 2)) (L (sj 0)))]) (congrArg (fun z => F0 m 845 ls [.long z]) (show (vp_updL f 0 (dS (sI σ) 0 (xs (7 * k + 2)) (L (sj 0)))) (0 : Int32).toNatClampNeg = dS (sI σ) 0 (xs (7 * k + 2)) (L (sj 0)) from rfl)) ?_
        refine lv_lload S.1 S.2.1 d_L_law_845 (lv_at hl 0 rfl) ?_
        refine W.lcmp S.1 S.2.1 d_L_law_847 ?_
        refine lv_if_eq (tgt := 853) S.1 S.2.1 d_L_law_848 rfl (fun _ => ?_) (fun h => absurd ((lg_cmp_eq _ _).mpr (dR_dS (sj_val (Or.inl rfl) hL)).symm) h)
        refine lv_goto (tgt := 932) S.1 S.2.1 d_L_law_853 rfl ?_
        have hl := lv_sub hl [2, 3, 4, 5, 6] rfl
        exact kk M2 (stn σ) H locs ls _ _ hLS' (by omega) (by omega) hl hw
    · by_cases hv : rg 0 2000 (xs (7 * k + 2)) = false
      · have hrm := room_ok (k := k + 1) (c := cells + 1) (s := slots + 6) hT0 (by omega) (by omega) (by omega)
        refine lv_aload_n S.1 S.2.1 d_L_law_745 rfl (lv_at hl 3 rfl) ?_
        refine lv_aload_n S.1 S.2.1 d_L_law_746 rfl (lv_at hl 4 rfl) ?_
        refine lv_iload S.1 S.2.1 d_L_law_747 (lv_at hl 0 rfl) ?_
        refine lv_iconst (v := 1) S.1 S.2.1 d_L_law_749 (by decide) ?_
        refine lv_iadd S.1 S.2.1 d_L_law_750 ?_
        refine m_scr (j := 7 * k + 1) S hX hbz hnn hw (nI_p (a := 7 * k) (b := 1)) (by omega) d_L_law_751 ?_
        refine lv_if_eq (tgt := 759) S.1 S.2.1 d_L_law_752 rfl (fun _ => ?_) (fun h => absurd hz1 h)
        refine lv_iconst (v := 0) S.1 S.2.1 d_L_law_759 (by decide) ?_
        refine lv_aload_n S.1 S.2.1 d_L_law_760 rfl (lv_at hl 4 rfl) ?_
        refine lv_iload S.1 S.2.1 d_L_law_761 (lv_at hl 0 rfl) ?_
        refine lv_iconst (v := 2) S.1 S.2.1 d_L_law_763 (by decide) ?_
        refine lv_iadd S.1 S.2.1 d_L_law_764 ?_
        refine m_scr (j := 7 * k + 2) S hX hbz hnn hw (nI_p (a := 7 * k) (b := 2)) (by omega) d_L_law_765 ?_
        refine lv_aload_n S.1 S.2.1 d_L_law_766 rfl (lv_at hl 4 rfl) ?_
        refine lv_iload S.1 S.2.1 d_L_law_767 (lv_at hl 0 rfl) ?_
        refine lv_iconst (v := 3) S.1 S.2.1 d_L_law_769 (by decide) ?_
        refine lv_iadd S.1 S.2.1 d_L_law_770 ?_
        refine m_scr (j := 7 * k + 3) S hX hbz hnn hw (nI_p (a := 7 * k) (b := 3)) (by omega) d_L_law_771 ?_
        refine lv_if_eq (tgt := 779) S.1 S.2.1 d_L_law_772 rfl (fun h => absurd h hz3) (fun _ => ?_)
        refine lv_iconst (v := 1) S.1 S.2.1 d_L_law_775 (by decide) ?_
        refine lv_goto (tgt := 780) S.1 S.2.1 d_L_law_776 rfl ?_
        refine lv_aload_n S.1 S.2.1 d_L_law_780 rfl (lv_at hl 1 rfl) ?_
        refine m_ci hw (m_runSW (n := 5) (As := [.ref (bx β), .int 0, .int (xs (7 * k + 2)), .int 1, .ref a]) (rest := []) S (h_depthA l hlT γ M β oa cp L σ hC a 0 (xs (7 * k + 2)) 1 hv) g675 g676 g40 g677 rfl rfl ⟨by decide +kernel, by decide +kernel, by decide +kernel⟩ ⟨(Nat.le_of_ble_eq_true rfl), (Nat.le_of_ble_eq_true rfl)⟩ (hw.preXS hx) rfl hl.1 (lv_room (Nat.le_of_ble_eq_true rfl)) d_L_law_781 ⟨hrm.1, hrm.2⟩ rfl) (fun r1 M1 H locs hp hw => ?_)
        obtain ⟨rfl, hM1⟩ := hp
        rw [hM1] at hw
        refine lv_istore S.1 S.2.1 d_L_law_784 hl (by decide) rfl (fun ls hl => ?_)
        have hl : lv_has ls 8 [(5, .int 1), (4, .int (nI (7 * k))), (3, .ref a), (2, .ref (rx μ)), (1, .ref (bx β)), (0, .ref b)] := hl
        refine lv_aload_n S.1 S.2.1 d_L_law_786 rfl (lv_at hl 3 rfl) ?_
        refine lv_aload_n S.1 S.2.1 d_L_law_787 rfl (lv_at hl 5 rfl) ?_
        refine lv_iload S.1 S.2.1 d_L_law_788 (lv_at hl 1 rfl) ?_
        refine lv_iconst (v := 1) S.1 S.2.1 d_L_law_790 (by decide) ?_
        refine lv_iadd S.1 S.2.1 d_L_law_791 ?_
        refine m_scr (j := 7 * k + 1) S hX hbz hnn hw (nI_p (a := 7 * k) (b := 1)) (by omega) d_L_law_792 ?_
        refine lv_if_eq (tgt := 800) S.1 S.2.1 d_L_law_793 rfl (fun _ => ?_) (fun h => absurd hz1 h)
        refine lv_iconst (v := 0) S.1 S.2.1 d_L_law_800 (by decide) ?_
        refine lv_aload_n S.1 S.2.1 d_L_law_801 rfl (lv_at hl 5 rfl) ?_
        refine lv_iload S.1 S.2.1 d_L_law_802 (lv_at hl 1 rfl) ?_
        refine lv_iconst (v := 2) S.1 S.2.1 d_L_law_804 (by decide) ?_
        refine lv_iadd S.1 S.2.1 d_L_law_805 ?_
        refine m_scr (j := 7 * k + 2) S hX hbz hnn hw (nI_p (a := 7 * k) (b := 2)) (by omega) d_L_law_806 ?_
        refine lv_aload_n S.1 S.2.1 d_L_law_807 rfl (lv_at hl 5 rfl) ?_
        refine lv_iload S.1 S.2.1 d_L_law_808 (lv_at hl 1 rfl) ?_
        refine lv_iconst (v := 3) S.1 S.2.1 d_L_law_810 (by decide) ?_
        refine lv_iadd S.1 S.2.1 d_L_law_811 ?_
        refine m_scr (j := 7 * k + 3) S hX hbz hnn hw (nI_p (a := 7 * k) (b := 3)) (by omega) d_L_law_812 ?_
        refine lv_if_eq (tgt := 820) S.1 S.2.1 d_L_law_813 rfl (fun h => absurd h hz3) (fun _ => ?_)
        refine lv_iconst (v := 1) S.1 S.2.1 d_L_law_816 (by decide) ?_
        refine lv_goto (tgt := 821) S.1 S.2.1 d_L_law_817 rfl ?_
        refine m_cl hw (va_runV (As := [.int 0, .int (xs (7 * k + 2)), .int 1]) (rest := []) S (c_M_depthA l γ M μ σ ε hR hn 0 (xs (7 * k + 2)) 1 hv) (m_cwV 3 S g888 g889 g890 g48 g891 rfl rfl ⟨by decide +kernel, by decide +kernel, by decide +kernel⟩ ⟨(Nat.le_of_ble_eq_true rfl), (Nat.le_of_ble_eq_true rfl)⟩) (hw.preV hR.1 cl_M.1) rfl rfl hl.1 rfl (lv_room (Nat.le_of_ble_eq_true rfl)) d_L_law_821 ⟨hrm.1, hrm.2⟩) (fun r2 M2 H locs hp hw => ?_)
        have hLS' := LSt.of (k := k + 1) hC hR ha hp hI.up hL hcp hcpl
        have hR2 := hp.1
        refine lv_lstore S.1 S.2.1 d_L_law_824 hl (by decide) rfl (fun ls hl => ?_)
        have hl : lv_has ls 8 [(6, .long r2), (5, .int 1), (4, .int (nI (7 * k))), (3, .ref a), (2, .ref (rx μ)), (1, .ref (bx β)), (0, .ref b)] := hl
        refine lv_aload_n S.1 S.2.1 d_L_law_826 rfl (lv_at hl 4 rfl) ?_
        refine m_ci hw (va_runV (As := []) (rest := []) S (c_M_thrown l γ M2 μ σ (1, ε.2) hR2 ) (m_cwV 0 S g770 g771 g772 g48 g773 rfl rfl ⟨by decide +kernel, by decide +kernel, by decide +kernel⟩ ⟨(Nat.le_of_ble_eq_true rfl), (Nat.le_of_ble_eq_true rfl)⟩) (hw.preV hR2.1 cl_M.1) rfl rfl hl.1 rfl (lv_room (Nat.le_of_ble_eq_true rfl)) d_L_law_827 ⟨hrm.1, hrm.2⟩) (fun r3 M3 H locs hp hw => ?_)
        obtain ⟨rfl, hM3⟩ := hp
        rw [hM3] at hw
        refine lv_iload S.1 S.2.1 d_L_law_830 (lv_at hl 1 rfl) ?_
        refine lv_icmp_eq (tgt := 837) S.1 S.2.1 d_L_law_832 rfl (fun _ => ?_) (fun h => absurd (show (1 : Int32) = 1 from rfl) h)
        refine lv_iload S.1 S.2.1 d_L_law_837 (lv_at hl 1 rfl) ?_
        refine lv_if_ne (tgt := 853) S.1 S.2.1 d_L_law_839 rfl (fun _ => ?_) (fun h => absurd h (show ¬ (1 : Int32) = 0 by decide))
        refine lv_goto (tgt := 932) S.1 S.2.1 d_L_law_853 rfl ?_
        have hl := lv_sub hl [2, 3, 4, 5, 6] rfl
        exact kk M2 (stn σ) H locs ls _ _ hLS' (by omega) (by omega) hl hw
      · have hv1 : rg 0 2000 (xs (7 * k + 2)) = true := by simpa using hv
        have hrm := room_ok (t := stn σ) (k := k + 1) (c := cells + (0)) (s := slots + (0)) hT0 (by omega) (by omega) (by omega)
        refine lv_aload_n S.1 S.2.1 d_L_law_745 rfl (lv_at hl 3 rfl) ?_
        refine lv_aload_n S.1 S.2.1 d_L_law_746 rfl (lv_at hl 4 rfl) ?_
        refine lv_iload S.1 S.2.1 d_L_law_747 (lv_at hl 0 rfl) ?_
        refine lv_iconst (v := 1) S.1 S.2.1 d_L_law_749 (by decide) ?_
        refine lv_iadd S.1 S.2.1 d_L_law_750 ?_
        refine m_scr (j := 7 * k + 1) S hX hbz hnn hw (nI_p (a := 7 * k) (b := 1)) (by omega) d_L_law_751 ?_
        refine lv_if_eq (tgt := 759) S.1 S.2.1 d_L_law_752 rfl (fun _ => ?_) (fun h => absurd hz1 h)
        refine lv_iconst (v := 0) S.1 S.2.1 d_L_law_759 (by decide) ?_
        refine lv_aload_n S.1 S.2.1 d_L_law_760 rfl (lv_at hl 4 rfl) ?_
        refine lv_iload S.1 S.2.1 d_L_law_761 (lv_at hl 0 rfl) ?_
        refine lv_iconst (v := 2) S.1 S.2.1 d_L_law_763 (by decide) ?_
        refine lv_iadd S.1 S.2.1 d_L_law_764 ?_
        refine m_scr (j := 7 * k + 2) S hX hbz hnn hw (nI_p (a := 7 * k) (b := 2)) (by omega) d_L_law_765 ?_
        refine lv_aload_n S.1 S.2.1 d_L_law_766 rfl (lv_at hl 4 rfl) ?_
        refine lv_iload S.1 S.2.1 d_L_law_767 (lv_at hl 0 rfl) ?_
        refine lv_iconst (v := 3) S.1 S.2.1 d_L_law_769 (by decide) ?_
        refine lv_iadd S.1 S.2.1 d_L_law_770 ?_
        refine m_scr (j := 7 * k + 3) S hX hbz hnn hw (nI_p (a := 7 * k) (b := 3)) (by omega) d_L_law_771 ?_
        refine lv_if_eq (tgt := 779) S.1 S.2.1 d_L_law_772 rfl (fun h => absurd h hz3) (fun _ => ?_)
        refine lv_iconst (v := 1) S.1 S.2.1 d_L_law_775 (by decide) ?_
        refine lv_goto (tgt := 780) S.1 S.2.1 d_L_law_776 rfl ?_
        refine lv_aload_n S.1 S.2.1 d_L_law_780 rfl (lv_at hl 1 rfl) ?_
        refine m_ci hw (m_runSW (n := 5) (As := [.ref (bx β), .int 0, .int (xs (7 * k + 2)), .int 1, .ref a]) (rest := []) S (h_depth l γ M β oa cp L σ hC a f ha hI0 hL 0 (Or.inl rfl) (xs (7 * k + 2)) 1 hv1) g675 g676 g40 g677 rfl rfl ⟨by decide +kernel, by decide +kernel, by decide +kernel⟩ ⟨(Nat.le_of_ble_eq_true rfl), (Nat.le_of_ble_eq_true rfl)⟩ (hw.preXS hx) rfl hl.1 (lv_room (Nat.le_of_ble_eq_true rfl)) d_L_law_781 ⟨hrm.1, hrm.2⟩ rfl) (fun r1 M1 H locs hp hw => ?_)
        obtain ⟨rfl, M9, hp, hM1⟩ := hp
        have hM2 := hp
        have ha9 : M9 a = some (ouc γ f) := by rw [hM2]; exact ha
        have hC9 : CB γ M1 β oa cp L σ := by rw [hM1]; exact CB.frB (by rw [hM2]; exact hC) (frB.out ha9)
        have ha1 : M1 a = some (ouc γ (vp_updL f 0 (dS (sI σ) 1 (xs (7 * k + 2)) (L (sj 0))))) := by rw [hM1]; exact mU_eq _ _ _
        have hR1 : RM γ M1 μ σ ε := hR.fr ha (by rw [hM1]; exact by rw [hM2]; exact frL.rf)
        refine lv_istore S.1 S.2.1 d_L_law_784 hl (by decide) rfl (fun ls hl => ?_)
        have hl : lv_has ls 8 [(5, .int 0), (4, .int (nI (7 * k))), (3, .ref a), (2, .ref (rx μ)), (1, .ref (bx β)), (0, .ref b)] := hl
        refine lv_aload_n S.1 S.2.1 d_L_law_786 rfl (lv_at hl 3 rfl) ?_
        refine lv_aload_n S.1 S.2.1 d_L_law_787 rfl (lv_at hl 5 rfl) ?_
        refine lv_iload S.1 S.2.1 d_L_law_788 (lv_at hl 1 rfl) ?_
        refine lv_iconst (v := 1) S.1 S.2.1 d_L_law_790 (by decide) ?_
        refine lv_iadd S.1 S.2.1 d_L_law_791 ?_
        refine m_scr (j := 7 * k + 1) S hX hbz hnn hw (nI_p (a := 7 * k) (b := 1)) (by omega) d_L_law_792 ?_
        refine lv_if_eq (tgt := 800) S.1 S.2.1 d_L_law_793 rfl (fun _ => ?_) (fun h => absurd hz1 h)
        refine lv_iconst (v := 0) S.1 S.2.1 d_L_law_800 (by decide) ?_
        refine lv_aload_n S.1 S.2.1 d_L_law_801 rfl (lv_at hl 5 rfl) ?_
        refine lv_iload S.1 S.2.1 d_L_law_802 (lv_at hl 1 rfl) ?_
        refine lv_iconst (v := 2) S.1 S.2.1 d_L_law_804 (by decide) ?_
        refine lv_iadd S.1 S.2.1 d_L_law_805 ?_
        refine m_scr (j := 7 * k + 2) S hX hbz hnn hw (nI_p (a := 7 * k) (b := 2)) (by omega) d_L_law_806 ?_
        refine lv_aload_n S.1 S.2.1 d_L_law_807 rfl (lv_at hl 5 rfl) ?_
        refine lv_iload S.1 S.2.1 d_L_law_808 (lv_at hl 1 rfl) ?_
        refine lv_iconst (v := 3) S.1 S.2.1 d_L_law_810 (by decide) ?_
        refine lv_iadd S.1 S.2.1 d_L_law_811 ?_
        refine m_scr (j := 7 * k + 3) S hX hbz hnn hw (nI_p (a := 7 * k) (b := 3)) (by omega) d_L_law_812 ?_
        refine lv_if_eq (tgt := 820) S.1 S.2.1 d_L_law_813 rfl (fun h => absurd h hz3) (fun _ => ?_)
        refine lv_iconst (v := 1) S.1 S.2.1 d_L_law_816 (by decide) ?_
        refine lv_goto (tgt := 821) S.1 S.2.1 d_L_law_817 rfl ?_
        refine m_cl hw (va_runV (As := [.int 0, .int (xs (7 * k + 2)), .int 1]) (rest := []) S (c_M_depth l γ M1 μ σ ε hR1 hn 0 (xs (7 * k + 2)) 1 hv1) (m_cwV 3 S g888 g889 g890 g48 g891 rfl rfl ⟨by decide +kernel, by decide +kernel, by decide +kernel⟩ ⟨(Nat.le_of_ble_eq_true rfl), (Nat.le_of_ble_eq_true rfl)⟩) (hw.preV hR1.1 cl_M.1) rfl rfl hl.1 rfl (lv_room (Nat.le_of_ble_eq_true rfl)) d_L_law_821 ⟨hrm.1, hrm.2⟩) (fun r2 M2 H locs hp hw => ?_)
        obtain ⟨rfl, hq⟩ := hp
        have hLS' := LSt.of (k := k + 1) hC9 hR1 ha1 hq hI.up hL hcp hcpl
        have ha2 := hq.2.out hR1 ha1
        have hR2 := hq.1
        refine lv_lstore S.1 S.2.1 d_L_law_824 hl (by decide) rfl (fun ls hl => ?_)
        have hl : lv_has ls 8 [(6, .long (dR (sI σ) 0 (xs (7 * k + 2)) 1 (sn σ))), (5, .int 0), (4, .int (nI (7 * k))), (3, .ref a), (2, .ref (rx μ)), (1, .ref (bx β)), (0, .ref b)] := hl
        refine lv_aload_n S.1 S.2.1 d_L_law_826 rfl (lv_at hl 4 rfl) ?_
        refine m_ci hw (va_runV (As := []) (rest := []) S (c_M_thrown l γ M2 μ σ (0, ε.2) hR2 ) (m_cwV 0 S g770 g771 g772 g48 g773 rfl rfl ⟨by decide +kernel, by decide +kernel, by decide +kernel⟩ ⟨(Nat.le_of_ble_eq_true rfl), (Nat.le_of_ble_eq_true rfl)⟩) (hw.preV hR2.1 cl_M.1) rfl rfl hl.1 rfl (lv_room (Nat.le_of_ble_eq_true rfl)) d_L_law_827 ⟨hrm.1, hrm.2⟩) (fun r3 M3 H locs hp hw => ?_)
        obtain ⟨rfl, hM3⟩ := hp
        rw [hM3] at hw
        refine lv_iload S.1 S.2.1 d_L_law_830 (lv_at hl 1 rfl) ?_
        refine lv_icmp_eq (tgt := 837) S.1 S.2.1 d_L_law_832 rfl (fun _ => ?_) (fun h => absurd (show (0 : Int32) = 0 from rfl) h)
        refine lv_iload S.1 S.2.1 d_L_law_837 (lv_at hl 1 rfl) ?_
        refine lv_if_ne (tgt := 853) S.1 S.2.1 d_L_law_839 rfl (fun h => absurd (show (0 : Int32) = 0 by decide) h) (fun _ => ?_)
        refine lv_aload_n S.1 S.2.1 d_L_law_842 rfl (lv_at hl 3 rfl) ?_
        refine lv_iconst (v := 0) S.1 S.2.1 d_L_law_843 (by decide) ?_
        refine m_lald (f := vp_updL f 0 (dS (sI σ) 1 (xs (7 * k + 2)) (L (sj 0)))) S hw ha2 (by unfold vp_in; decide) d_L_law_844 ?_
        refine W.eq (g2 := F0 m 845 ls [.long (dS (sI σ) 1 (xs (7 * k + 2)) (L (sj 0)))]) (congrArg (fun z => F0 m 845 ls [.long z]) (show (vp_updL f 0 (dS (sI σ) 1 (xs (7 * k + 2)) (L (sj 0)))) (0 : Int32).toNatClampNeg = dS (sI σ) 1 (xs (7 * k + 2)) (L (sj 0)) from rfl)) ?_
        refine lv_lload S.1 S.2.1 d_L_law_845 (lv_at hl 0 rfl) ?_
        refine W.lcmp S.1 S.2.1 d_L_law_847 ?_
        refine lv_if_eq (tgt := 853) S.1 S.2.1 d_L_law_848 rfl (fun _ => ?_) (fun h => absurd ((lg_cmp_eq _ _).mpr (dR_dS (sj_val (Or.inl rfl) hL)).symm) h)
        refine lv_goto (tgt := 932) S.1 S.2.1 d_L_law_853 rfl ?_
        have hl := lv_sub hl [2, 3, 4, 5, 6] rfl
        exact kk M2 (stn σ) H locs ls _ _ hLS' (by omega) (by omega) hl hw
  · by_cases hz3 : (xs (7 * k + 3)) = 0
    · by_cases hv : rg 0 2000 (xs (7 * k + 2)) = false
      · have hrm := room_ok (k := k + 1) (c := cells + 1) (s := slots + 6) hT0 (by omega) (by omega) (by omega)
        refine lv_aload_n S.1 S.2.1 d_L_law_745 rfl (lv_at hl 3 rfl) ?_
        refine lv_aload_n S.1 S.2.1 d_L_law_746 rfl (lv_at hl 4 rfl) ?_
        refine lv_iload S.1 S.2.1 d_L_law_747 (lv_at hl 0 rfl) ?_
        refine lv_iconst (v := 1) S.1 S.2.1 d_L_law_749 (by decide) ?_
        refine lv_iadd S.1 S.2.1 d_L_law_750 ?_
        refine m_scr (j := 7 * k + 1) S hX hbz hnn hw (nI_p (a := 7 * k) (b := 1)) (by omega) d_L_law_751 ?_
        refine lv_if_eq (tgt := 759) S.1 S.2.1 d_L_law_752 rfl (fun h => absurd h hz1) (fun _ => ?_)
        refine lv_iconst (v := 1) S.1 S.2.1 d_L_law_755 (by decide) ?_
        refine lv_goto (tgt := 760) S.1 S.2.1 d_L_law_756 rfl ?_
        refine lv_aload_n S.1 S.2.1 d_L_law_760 rfl (lv_at hl 4 rfl) ?_
        refine lv_iload S.1 S.2.1 d_L_law_761 (lv_at hl 0 rfl) ?_
        refine lv_iconst (v := 2) S.1 S.2.1 d_L_law_763 (by decide) ?_
        refine lv_iadd S.1 S.2.1 d_L_law_764 ?_
        refine m_scr (j := 7 * k + 2) S hX hbz hnn hw (nI_p (a := 7 * k) (b := 2)) (by omega) d_L_law_765 ?_
        refine lv_aload_n S.1 S.2.1 d_L_law_766 rfl (lv_at hl 4 rfl) ?_
        refine lv_iload S.1 S.2.1 d_L_law_767 (lv_at hl 0 rfl) ?_
        refine lv_iconst (v := 3) S.1 S.2.1 d_L_law_769 (by decide) ?_
        refine lv_iadd S.1 S.2.1 d_L_law_770 ?_
        refine m_scr (j := 7 * k + 3) S hX hbz hnn hw (nI_p (a := 7 * k) (b := 3)) (by omega) d_L_law_771 ?_
        refine lv_if_eq (tgt := 779) S.1 S.2.1 d_L_law_772 rfl (fun _ => ?_) (fun h => absurd hz3 h)
        refine lv_iconst (v := 0) S.1 S.2.1 d_L_law_779 (by decide) ?_
        refine lv_aload_n S.1 S.2.1 d_L_law_780 rfl (lv_at hl 1 rfl) ?_
        refine m_ci hw (m_runSW (n := 5) (As := [.ref (bx β), .int 1, .int (xs (7 * k + 2)), .int 0, .ref a]) (rest := []) S (h_depthA l hlT γ M β oa cp L σ hC a 1 (xs (7 * k + 2)) 0 hv) g675 g676 g40 g677 rfl rfl ⟨by decide +kernel, by decide +kernel, by decide +kernel⟩ ⟨(Nat.le_of_ble_eq_true rfl), (Nat.le_of_ble_eq_true rfl)⟩ (hw.preXS hx) rfl hl.1 (lv_room (Nat.le_of_ble_eq_true rfl)) d_L_law_781 ⟨hrm.1, hrm.2⟩ rfl) (fun r1 M1 H locs hp hw => ?_)
        obtain ⟨rfl, hM1⟩ := hp
        rw [hM1] at hw
        refine lv_istore S.1 S.2.1 d_L_law_784 hl (by decide) rfl (fun ls hl => ?_)
        have hl : lv_has ls 8 [(5, .int 1), (4, .int (nI (7 * k))), (3, .ref a), (2, .ref (rx μ)), (1, .ref (bx β)), (0, .ref b)] := hl
        refine lv_aload_n S.1 S.2.1 d_L_law_786 rfl (lv_at hl 3 rfl) ?_
        refine lv_aload_n S.1 S.2.1 d_L_law_787 rfl (lv_at hl 5 rfl) ?_
        refine lv_iload S.1 S.2.1 d_L_law_788 (lv_at hl 1 rfl) ?_
        refine lv_iconst (v := 1) S.1 S.2.1 d_L_law_790 (by decide) ?_
        refine lv_iadd S.1 S.2.1 d_L_law_791 ?_
        refine m_scr (j := 7 * k + 1) S hX hbz hnn hw (nI_p (a := 7 * k) (b := 1)) (by omega) d_L_law_792 ?_
        refine lv_if_eq (tgt := 800) S.1 S.2.1 d_L_law_793 rfl (fun h => absurd h hz1) (fun _ => ?_)
        refine lv_iconst (v := 1) S.1 S.2.1 d_L_law_796 (by decide) ?_
        refine lv_goto (tgt := 801) S.1 S.2.1 d_L_law_797 rfl ?_
        refine lv_aload_n S.1 S.2.1 d_L_law_801 rfl (lv_at hl 5 rfl) ?_
        refine lv_iload S.1 S.2.1 d_L_law_802 (lv_at hl 1 rfl) ?_
        refine lv_iconst (v := 2) S.1 S.2.1 d_L_law_804 (by decide) ?_
        refine lv_iadd S.1 S.2.1 d_L_law_805 ?_
        refine m_scr (j := 7 * k + 2) S hX hbz hnn hw (nI_p (a := 7 * k) (b := 2)) (by omega) d_L_law_806 ?_
        refine lv_aload_n S.1 S.2.1 d_L_law_807 rfl (lv_at hl 5 rfl) ?_
        refine lv_iload S.1 S.2.1 d_L_law_808 (lv_at hl 1 rfl) ?_
        refine lv_iconst (v := 3) S.1 S.2.1 d_L_law_810 (by decide) ?_
        refine lv_iadd S.1 S.2.1 d_L_law_811 ?_
        refine m_scr (j := 7 * k + 3) S hX hbz hnn hw (nI_p (a := 7 * k) (b := 3)) (by omega) d_L_law_812 ?_
        refine lv_if_eq (tgt := 820) S.1 S.2.1 d_L_law_813 rfl (fun _ => ?_) (fun h => absurd hz3 h)
        refine lv_iconst (v := 0) S.1 S.2.1 d_L_law_820 (by decide) ?_
        refine m_cl hw (va_runV (As := [.int 1, .int (xs (7 * k + 2)), .int 0]) (rest := []) S (c_M_depthA l γ M μ σ ε hR hn 1 (xs (7 * k + 2)) 0 hv) (m_cwV 3 S g888 g889 g890 g48 g891 rfl rfl ⟨by decide +kernel, by decide +kernel, by decide +kernel⟩ ⟨(Nat.le_of_ble_eq_true rfl), (Nat.le_of_ble_eq_true rfl)⟩) (hw.preV hR.1 cl_M.1) rfl rfl hl.1 rfl (lv_room (Nat.le_of_ble_eq_true rfl)) d_L_law_821 ⟨hrm.1, hrm.2⟩) (fun r2 M2 H locs hp hw => ?_)
        have hLS' := LSt.of (k := k + 1) hC hR ha hp hI.up hL hcp hcpl
        have hR2 := hp.1
        refine lv_lstore S.1 S.2.1 d_L_law_824 hl (by decide) rfl (fun ls hl => ?_)
        have hl : lv_has ls 8 [(6, .long r2), (5, .int 1), (4, .int (nI (7 * k))), (3, .ref a), (2, .ref (rx μ)), (1, .ref (bx β)), (0, .ref b)] := hl
        refine lv_aload_n S.1 S.2.1 d_L_law_826 rfl (lv_at hl 4 rfl) ?_
        refine m_ci hw (va_runV (As := []) (rest := []) S (c_M_thrown l γ M2 μ σ (1, ε.2) hR2 ) (m_cwV 0 S g770 g771 g772 g48 g773 rfl rfl ⟨by decide +kernel, by decide +kernel, by decide +kernel⟩ ⟨(Nat.le_of_ble_eq_true rfl), (Nat.le_of_ble_eq_true rfl)⟩) (hw.preV hR2.1 cl_M.1) rfl rfl hl.1 rfl (lv_room (Nat.le_of_ble_eq_true rfl)) d_L_law_827 ⟨hrm.1, hrm.2⟩) (fun r3 M3 H locs hp hw => ?_)
        obtain ⟨rfl, hM3⟩ := hp
        rw [hM3] at hw
        refine lv_iload S.1 S.2.1 d_L_law_830 (lv_at hl 1 rfl) ?_
        refine lv_icmp_eq (tgt := 837) S.1 S.2.1 d_L_law_832 rfl (fun _ => ?_) (fun h => absurd (show (1 : Int32) = 1 from rfl) h)
        refine lv_iload S.1 S.2.1 d_L_law_837 (lv_at hl 1 rfl) ?_
        refine lv_if_ne (tgt := 853) S.1 S.2.1 d_L_law_839 rfl (fun _ => ?_) (fun h => absurd h (show ¬ (1 : Int32) = 0 by decide))
        refine lv_goto (tgt := 932) S.1 S.2.1 d_L_law_853 rfl ?_
        have hl := lv_sub hl [2, 3, 4, 5, 6] rfl
        exact kk M2 (stn σ) H locs ls _ _ hLS' (by omega) (by omega) hl hw
      · have hv1 : rg 0 2000 (xs (7 * k + 2)) = true := by simpa using hv
        have hrm := room_ok (t := stn σ) (k := k + 1) (c := cells + (0)) (s := slots + (0)) hT0 (by omega) (by omega) (by omega)
        refine lv_aload_n S.1 S.2.1 d_L_law_745 rfl (lv_at hl 3 rfl) ?_
        refine lv_aload_n S.1 S.2.1 d_L_law_746 rfl (lv_at hl 4 rfl) ?_
        refine lv_iload S.1 S.2.1 d_L_law_747 (lv_at hl 0 rfl) ?_
        refine lv_iconst (v := 1) S.1 S.2.1 d_L_law_749 (by decide) ?_
        refine lv_iadd S.1 S.2.1 d_L_law_750 ?_
        refine m_scr (j := 7 * k + 1) S hX hbz hnn hw (nI_p (a := 7 * k) (b := 1)) (by omega) d_L_law_751 ?_
        refine lv_if_eq (tgt := 759) S.1 S.2.1 d_L_law_752 rfl (fun h => absurd h hz1) (fun _ => ?_)
        refine lv_iconst (v := 1) S.1 S.2.1 d_L_law_755 (by decide) ?_
        refine lv_goto (tgt := 760) S.1 S.2.1 d_L_law_756 rfl ?_
        refine lv_aload_n S.1 S.2.1 d_L_law_760 rfl (lv_at hl 4 rfl) ?_
        refine lv_iload S.1 S.2.1 d_L_law_761 (lv_at hl 0 rfl) ?_
        refine lv_iconst (v := 2) S.1 S.2.1 d_L_law_763 (by decide) ?_
        refine lv_iadd S.1 S.2.1 d_L_law_764 ?_
        refine m_scr (j := 7 * k + 2) S hX hbz hnn hw (nI_p (a := 7 * k) (b := 2)) (by omega) d_L_law_765 ?_
        refine lv_aload_n S.1 S.2.1 d_L_law_766 rfl (lv_at hl 4 rfl) ?_
        refine lv_iload S.1 S.2.1 d_L_law_767 (lv_at hl 0 rfl) ?_
        refine lv_iconst (v := 3) S.1 S.2.1 d_L_law_769 (by decide) ?_
        refine lv_iadd S.1 S.2.1 d_L_law_770 ?_
        refine m_scr (j := 7 * k + 3) S hX hbz hnn hw (nI_p (a := 7 * k) (b := 3)) (by omega) d_L_law_771 ?_
        refine lv_if_eq (tgt := 779) S.1 S.2.1 d_L_law_772 rfl (fun _ => ?_) (fun h => absurd hz3 h)
        refine lv_iconst (v := 0) S.1 S.2.1 d_L_law_779 (by decide) ?_
        refine lv_aload_n S.1 S.2.1 d_L_law_780 rfl (lv_at hl 1 rfl) ?_
        refine m_ci hw (m_runSW (n := 5) (As := [.ref (bx β), .int 1, .int (xs (7 * k + 2)), .int 0, .ref a]) (rest := []) S (h_depth l γ M β oa cp L σ hC a f ha hI0 hL 1 (Or.inr rfl) (xs (7 * k + 2)) 0 hv1) g675 g676 g40 g677 rfl rfl ⟨by decide +kernel, by decide +kernel, by decide +kernel⟩ ⟨(Nat.le_of_ble_eq_true rfl), (Nat.le_of_ble_eq_true rfl)⟩ (hw.preXS hx) rfl hl.1 (lv_room (Nat.le_of_ble_eq_true rfl)) d_L_law_781 ⟨hrm.1, hrm.2⟩ rfl) (fun r1 M1 H locs hp hw => ?_)
        obtain ⟨rfl, M9, hp, hM1⟩ := hp
        have hM2 := hp
        have ha9 : M9 a = some (ouc γ f) := by rw [hM2]; exact ha
        have hC9 : CB γ M1 β oa cp L σ := by rw [hM1]; exact CB.frB (by rw [hM2]; exact hC) (frB.out ha9)
        have ha1 : M1 a = some (ouc γ (vp_updL f 0 (dS (sI σ) 0 (xs (7 * k + 2)) (L (sj 1))))) := by rw [hM1]; exact mU_eq _ _ _
        have hR1 : RM γ M1 μ σ ε := hR.fr ha (by rw [hM1]; exact by rw [hM2]; exact frL.rf)
        refine lv_istore S.1 S.2.1 d_L_law_784 hl (by decide) rfl (fun ls hl => ?_)
        have hl : lv_has ls 8 [(5, .int 0), (4, .int (nI (7 * k))), (3, .ref a), (2, .ref (rx μ)), (1, .ref (bx β)), (0, .ref b)] := hl
        refine lv_aload_n S.1 S.2.1 d_L_law_786 rfl (lv_at hl 3 rfl) ?_
        refine lv_aload_n S.1 S.2.1 d_L_law_787 rfl (lv_at hl 5 rfl) ?_
        refine lv_iload S.1 S.2.1 d_L_law_788 (lv_at hl 1 rfl) ?_
        refine lv_iconst (v := 1) S.1 S.2.1 d_L_law_790 (by decide) ?_
        refine lv_iadd S.1 S.2.1 d_L_law_791 ?_
        refine m_scr (j := 7 * k + 1) S hX hbz hnn hw (nI_p (a := 7 * k) (b := 1)) (by omega) d_L_law_792 ?_
        refine lv_if_eq (tgt := 800) S.1 S.2.1 d_L_law_793 rfl (fun h => absurd h hz1) (fun _ => ?_)
        refine lv_iconst (v := 1) S.1 S.2.1 d_L_law_796 (by decide) ?_
        refine lv_goto (tgt := 801) S.1 S.2.1 d_L_law_797 rfl ?_
        refine lv_aload_n S.1 S.2.1 d_L_law_801 rfl (lv_at hl 5 rfl) ?_
        refine lv_iload S.1 S.2.1 d_L_law_802 (lv_at hl 1 rfl) ?_
        refine lv_iconst (v := 2) S.1 S.2.1 d_L_law_804 (by decide) ?_
        refine lv_iadd S.1 S.2.1 d_L_law_805 ?_
        refine m_scr (j := 7 * k + 2) S hX hbz hnn hw (nI_p (a := 7 * k) (b := 2)) (by omega) d_L_law_806 ?_
        refine lv_aload_n S.1 S.2.1 d_L_law_807 rfl (lv_at hl 5 rfl) ?_
        refine lv_iload S.1 S.2.1 d_L_law_808 (lv_at hl 1 rfl) ?_
        refine lv_iconst (v := 3) S.1 S.2.1 d_L_law_810 (by decide) ?_
        refine lv_iadd S.1 S.2.1 d_L_law_811 ?_
        refine m_scr (j := 7 * k + 3) S hX hbz hnn hw (nI_p (a := 7 * k) (b := 3)) (by omega) d_L_law_812 ?_
        refine lv_if_eq (tgt := 820) S.1 S.2.1 d_L_law_813 rfl (fun _ => ?_) (fun h => absurd hz3 h)
        refine lv_iconst (v := 0) S.1 S.2.1 d_L_law_820 (by decide) ?_
        refine m_cl hw (va_runV (As := [.int 1, .int (xs (7 * k + 2)), .int 0]) (rest := []) S (c_M_depth l γ M1 μ σ ε hR1 hn 1 (xs (7 * k + 2)) 0 hv1) (m_cwV 3 S g888 g889 g890 g48 g891 rfl rfl ⟨by decide +kernel, by decide +kernel, by decide +kernel⟩ ⟨(Nat.le_of_ble_eq_true rfl), (Nat.le_of_ble_eq_true rfl)⟩) (hw.preV hR1.1 cl_M.1) rfl rfl hl.1 rfl (lv_room (Nat.le_of_ble_eq_true rfl)) d_L_law_821 ⟨hrm.1, hrm.2⟩) (fun r2 M2 H locs hp hw => ?_)
        obtain ⟨rfl, hq⟩ := hp
        have hLS' := LSt.of (k := k + 1) hC9 hR1 ha1 hq hI.up hL hcp hcpl
        have ha2 := hq.2.out hR1 ha1
        have hR2 := hq.1
        refine lv_lstore S.1 S.2.1 d_L_law_824 hl (by decide) rfl (fun ls hl => ?_)
        have hl : lv_has ls 8 [(6, .long (dR (sI σ) 1 (xs (7 * k + 2)) 0 (sn σ))), (5, .int 0), (4, .int (nI (7 * k))), (3, .ref a), (2, .ref (rx μ)), (1, .ref (bx β)), (0, .ref b)] := hl
        refine lv_aload_n S.1 S.2.1 d_L_law_826 rfl (lv_at hl 4 rfl) ?_
        refine m_ci hw (va_runV (As := []) (rest := []) S (c_M_thrown l γ M2 μ σ (0, ε.2) hR2 ) (m_cwV 0 S g770 g771 g772 g48 g773 rfl rfl ⟨by decide +kernel, by decide +kernel, by decide +kernel⟩ ⟨(Nat.le_of_ble_eq_true rfl), (Nat.le_of_ble_eq_true rfl)⟩) (hw.preV hR2.1 cl_M.1) rfl rfl hl.1 rfl (lv_room (Nat.le_of_ble_eq_true rfl)) d_L_law_827 ⟨hrm.1, hrm.2⟩) (fun r3 M3 H locs hp hw => ?_)
        obtain ⟨rfl, hM3⟩ := hp
        rw [hM3] at hw
        refine lv_iload S.1 S.2.1 d_L_law_830 (lv_at hl 1 rfl) ?_
        refine lv_icmp_eq (tgt := 837) S.1 S.2.1 d_L_law_832 rfl (fun _ => ?_) (fun h => absurd (show (0 : Int32) = 0 from rfl) h)
        refine lv_iload S.1 S.2.1 d_L_law_837 (lv_at hl 1 rfl) ?_
        refine lv_if_ne (tgt := 853) S.1 S.2.1 d_L_law_839 rfl (fun h => absurd (show (0 : Int32) = 0 by decide) h) (fun _ => ?_)
        refine lv_aload_n S.1 S.2.1 d_L_law_842 rfl (lv_at hl 3 rfl) ?_
        refine lv_iconst (v := 0) S.1 S.2.1 d_L_law_843 (by decide) ?_
        refine m_lald (f := vp_updL f 0 (dS (sI σ) 0 (xs (7 * k + 2)) (L (sj 1)))) S hw ha2 (by unfold vp_in; decide) d_L_law_844 ?_
        refine W.eq (g2 := F0 m 845 ls [.long (dS (sI σ) 0 (xs (7 * k + 2)) (L (sj 1)))]) (congrArg (fun z => F0 m 845 ls [.long z]) (show (vp_updL f 0 (dS (sI σ) 0 (xs (7 * k + 2)) (L (sj 1)))) (0 : Int32).toNatClampNeg = dS (sI σ) 0 (xs (7 * k + 2)) (L (sj 1)) from rfl)) ?_
        refine lv_lload S.1 S.2.1 d_L_law_845 (lv_at hl 0 rfl) ?_
        refine W.lcmp S.1 S.2.1 d_L_law_847 ?_
        refine lv_if_eq (tgt := 853) S.1 S.2.1 d_L_law_848 rfl (fun _ => ?_) (fun h => absurd ((lg_cmp_eq _ _).mpr (dR_dS (sj_val (Or.inr rfl) hL)).symm) h)
        refine lv_goto (tgt := 932) S.1 S.2.1 d_L_law_853 rfl ?_
        have hl := lv_sub hl [2, 3, 4, 5, 6] rfl
        exact kk M2 (stn σ) H locs ls _ _ hLS' (by omega) (by omega) hl hw
    · by_cases hv : rg 0 2000 (xs (7 * k + 2)) = false
      · have hrm := room_ok (k := k + 1) (c := cells + 1) (s := slots + 6) hT0 (by omega) (by omega) (by omega)
        refine lv_aload_n S.1 S.2.1 d_L_law_745 rfl (lv_at hl 3 rfl) ?_
        refine lv_aload_n S.1 S.2.1 d_L_law_746 rfl (lv_at hl 4 rfl) ?_
        refine lv_iload S.1 S.2.1 d_L_law_747 (lv_at hl 0 rfl) ?_
        refine lv_iconst (v := 1) S.1 S.2.1 d_L_law_749 (by decide) ?_
        refine lv_iadd S.1 S.2.1 d_L_law_750 ?_
        refine m_scr (j := 7 * k + 1) S hX hbz hnn hw (nI_p (a := 7 * k) (b := 1)) (by omega) d_L_law_751 ?_
        refine lv_if_eq (tgt := 759) S.1 S.2.1 d_L_law_752 rfl (fun h => absurd h hz1) (fun _ => ?_)
        refine lv_iconst (v := 1) S.1 S.2.1 d_L_law_755 (by decide) ?_
        refine lv_goto (tgt := 760) S.1 S.2.1 d_L_law_756 rfl ?_
        refine lv_aload_n S.1 S.2.1 d_L_law_760 rfl (lv_at hl 4 rfl) ?_
        refine lv_iload S.1 S.2.1 d_L_law_761 (lv_at hl 0 rfl) ?_
        refine lv_iconst (v := 2) S.1 S.2.1 d_L_law_763 (by decide) ?_
        refine lv_iadd S.1 S.2.1 d_L_law_764 ?_
        refine m_scr (j := 7 * k + 2) S hX hbz hnn hw (nI_p (a := 7 * k) (b := 2)) (by omega) d_L_law_765 ?_
        refine lv_aload_n S.1 S.2.1 d_L_law_766 rfl (lv_at hl 4 rfl) ?_
        refine lv_iload S.1 S.2.1 d_L_law_767 (lv_at hl 0 rfl) ?_
        refine lv_iconst (v := 3) S.1 S.2.1 d_L_law_769 (by decide) ?_
        refine lv_iadd S.1 S.2.1 d_L_law_770 ?_
        refine m_scr (j := 7 * k + 3) S hX hbz hnn hw (nI_p (a := 7 * k) (b := 3)) (by omega) d_L_law_771 ?_
        refine lv_if_eq (tgt := 779) S.1 S.2.1 d_L_law_772 rfl (fun h => absurd h hz3) (fun _ => ?_)
        refine lv_iconst (v := 1) S.1 S.2.1 d_L_law_775 (by decide) ?_
        refine lv_goto (tgt := 780) S.1 S.2.1 d_L_law_776 rfl ?_
        refine lv_aload_n S.1 S.2.1 d_L_law_780 rfl (lv_at hl 1 rfl) ?_
        refine m_ci hw (m_runSW (n := 5) (As := [.ref (bx β), .int 1, .int (xs (7 * k + 2)), .int 1, .ref a]) (rest := []) S (h_depthA l hlT γ M β oa cp L σ hC a 1 (xs (7 * k + 2)) 1 hv) g675 g676 g40 g677 rfl rfl ⟨by decide +kernel, by decide +kernel, by decide +kernel⟩ ⟨(Nat.le_of_ble_eq_true rfl), (Nat.le_of_ble_eq_true rfl)⟩ (hw.preXS hx) rfl hl.1 (lv_room (Nat.le_of_ble_eq_true rfl)) d_L_law_781 ⟨hrm.1, hrm.2⟩ rfl) (fun r1 M1 H locs hp hw => ?_)
        obtain ⟨rfl, hM1⟩ := hp
        rw [hM1] at hw
        refine lv_istore S.1 S.2.1 d_L_law_784 hl (by decide) rfl (fun ls hl => ?_)
        have hl : lv_has ls 8 [(5, .int 1), (4, .int (nI (7 * k))), (3, .ref a), (2, .ref (rx μ)), (1, .ref (bx β)), (0, .ref b)] := hl
        refine lv_aload_n S.1 S.2.1 d_L_law_786 rfl (lv_at hl 3 rfl) ?_
        refine lv_aload_n S.1 S.2.1 d_L_law_787 rfl (lv_at hl 5 rfl) ?_
        refine lv_iload S.1 S.2.1 d_L_law_788 (lv_at hl 1 rfl) ?_
        refine lv_iconst (v := 1) S.1 S.2.1 d_L_law_790 (by decide) ?_
        refine lv_iadd S.1 S.2.1 d_L_law_791 ?_
        refine m_scr (j := 7 * k + 1) S hX hbz hnn hw (nI_p (a := 7 * k) (b := 1)) (by omega) d_L_law_792 ?_
        refine lv_if_eq (tgt := 800) S.1 S.2.1 d_L_law_793 rfl (fun h => absurd h hz1) (fun _ => ?_)
        refine lv_iconst (v := 1) S.1 S.2.1 d_L_law_796 (by decide) ?_
        refine lv_goto (tgt := 801) S.1 S.2.1 d_L_law_797 rfl ?_
        refine lv_aload_n S.1 S.2.1 d_L_law_801 rfl (lv_at hl 5 rfl) ?_
        refine lv_iload S.1 S.2.1 d_L_law_802 (lv_at hl 1 rfl) ?_
        refine lv_iconst (v := 2) S.1 S.2.1 d_L_law_804 (by decide) ?_
        refine lv_iadd S.1 S.2.1 d_L_law_805 ?_
        refine m_scr (j := 7 * k + 2) S hX hbz hnn hw (nI_p (a := 7 * k) (b := 2)) (by omega) d_L_law_806 ?_
        refine lv_aload_n S.1 S.2.1 d_L_law_807 rfl (lv_at hl 5 rfl) ?_
        refine lv_iload S.1 S.2.1 d_L_law_808 (lv_at hl 1 rfl) ?_
        refine lv_iconst (v := 3) S.1 S.2.1 d_L_law_810 (by decide) ?_
        refine lv_iadd S.1 S.2.1 d_L_law_811 ?_
        refine m_scr (j := 7 * k + 3) S hX hbz hnn hw (nI_p (a := 7 * k) (b := 3)) (by omega) d_L_law_812 ?_
        refine lv_if_eq (tgt := 820) S.1 S.2.1 d_L_law_813 rfl (fun h => absurd h hz3) (fun _ => ?_)
        refine lv_iconst (v := 1) S.1 S.2.1 d_L_law_816 (by decide) ?_
        refine lv_goto (tgt := 821) S.1 S.2.1 d_L_law_817 rfl ?_
        refine m_cl hw (va_runV (As := [.int 1, .int (xs (7 * k + 2)), .int 1]) (rest := []) S (c_M_depthA l γ M μ σ ε hR hn 1 (xs (7 * k + 2)) 1 hv) (m_cwV 3 S g888 g889 g890 g48 g891 rfl rfl ⟨by decide +kernel, by decide +kernel, by decide +kernel⟩ ⟨(Nat.le_of_ble_eq_true rfl), (Nat.le_of_ble_eq_true rfl)⟩) (hw.preV hR.1 cl_M.1) rfl rfl hl.1 rfl (lv_room (Nat.le_of_ble_eq_true rfl)) d_L_law_821 ⟨hrm.1, hrm.2⟩) (fun r2 M2 H locs hp hw => ?_)
        have hLS' := LSt.of (k := k + 1) hC hR ha hp hI.up hL hcp hcpl
        have hR2 := hp.1
        refine lv_lstore S.1 S.2.1 d_L_law_824 hl (by decide) rfl (fun ls hl => ?_)
        have hl : lv_has ls 8 [(6, .long r2), (5, .int 1), (4, .int (nI (7 * k))), (3, .ref a), (2, .ref (rx μ)), (1, .ref (bx β)), (0, .ref b)] := hl
        refine lv_aload_n S.1 S.2.1 d_L_law_826 rfl (lv_at hl 4 rfl) ?_
        refine m_ci hw (va_runV (As := []) (rest := []) S (c_M_thrown l γ M2 μ σ (1, ε.2) hR2 ) (m_cwV 0 S g770 g771 g772 g48 g773 rfl rfl ⟨by decide +kernel, by decide +kernel, by decide +kernel⟩ ⟨(Nat.le_of_ble_eq_true rfl), (Nat.le_of_ble_eq_true rfl)⟩) (hw.preV hR2.1 cl_M.1) rfl rfl hl.1 rfl (lv_room (Nat.le_of_ble_eq_true rfl)) d_L_law_827 ⟨hrm.1, hrm.2⟩) (fun r3 M3 H locs hp hw => ?_)
        obtain ⟨rfl, hM3⟩ := hp
        rw [hM3] at hw
        refine lv_iload S.1 S.2.1 d_L_law_830 (lv_at hl 1 rfl) ?_
        refine lv_icmp_eq (tgt := 837) S.1 S.2.1 d_L_law_832 rfl (fun _ => ?_) (fun h => absurd (show (1 : Int32) = 1 from rfl) h)
        refine lv_iload S.1 S.2.1 d_L_law_837 (lv_at hl 1 rfl) ?_
        refine lv_if_ne (tgt := 853) S.1 S.2.1 d_L_law_839 rfl (fun _ => ?_) (fun h => absurd h (show ¬ (1 : Int32) = 0 by decide))
        refine lv_goto (tgt := 932) S.1 S.2.1 d_L_law_853 rfl ?_
        have hl := lv_sub hl [2, 3, 4, 5, 6] rfl
        exact kk M2 (stn σ) H locs ls _ _ hLS' (by omega) (by omega) hl hw
      · have hv1 : rg 0 2000 (xs (7 * k + 2)) = true := by simpa using hv
        have hrm := room_ok (t := stn σ) (k := k + 1) (c := cells + (0)) (s := slots + (0)) hT0 (by omega) (by omega) (by omega)
        refine lv_aload_n S.1 S.2.1 d_L_law_745 rfl (lv_at hl 3 rfl) ?_
        refine lv_aload_n S.1 S.2.1 d_L_law_746 rfl (lv_at hl 4 rfl) ?_
        refine lv_iload S.1 S.2.1 d_L_law_747 (lv_at hl 0 rfl) ?_
        refine lv_iconst (v := 1) S.1 S.2.1 d_L_law_749 (by decide) ?_
        refine lv_iadd S.1 S.2.1 d_L_law_750 ?_
        refine m_scr (j := 7 * k + 1) S hX hbz hnn hw (nI_p (a := 7 * k) (b := 1)) (by omega) d_L_law_751 ?_
        refine lv_if_eq (tgt := 759) S.1 S.2.1 d_L_law_752 rfl (fun h => absurd h hz1) (fun _ => ?_)
        refine lv_iconst (v := 1) S.1 S.2.1 d_L_law_755 (by decide) ?_
        refine lv_goto (tgt := 760) S.1 S.2.1 d_L_law_756 rfl ?_
        refine lv_aload_n S.1 S.2.1 d_L_law_760 rfl (lv_at hl 4 rfl) ?_
        refine lv_iload S.1 S.2.1 d_L_law_761 (lv_at hl 0 rfl) ?_
        refine lv_iconst (v := 2) S.1 S.2.1 d_L_law_763 (by decide) ?_
        refine lv_iadd S.1 S.2.1 d_L_law_764 ?_
        refine m_scr (j := 7 * k + 2) S hX hbz hnn hw (nI_p (a := 7 * k) (b := 2)) (by omega) d_L_law_765 ?_
        refine lv_aload_n S.1 S.2.1 d_L_law_766 rfl (lv_at hl 4 rfl) ?_
        refine lv_iload S.1 S.2.1 d_L_law_767 (lv_at hl 0 rfl) ?_
        refine lv_iconst (v := 3) S.1 S.2.1 d_L_law_769 (by decide) ?_
        refine lv_iadd S.1 S.2.1 d_L_law_770 ?_
        refine m_scr (j := 7 * k + 3) S hX hbz hnn hw (nI_p (a := 7 * k) (b := 3)) (by omega) d_L_law_771 ?_
        refine lv_if_eq (tgt := 779) S.1 S.2.1 d_L_law_772 rfl (fun h => absurd h hz3) (fun _ => ?_)
        refine lv_iconst (v := 1) S.1 S.2.1 d_L_law_775 (by decide) ?_
        refine lv_goto (tgt := 780) S.1 S.2.1 d_L_law_776 rfl ?_
        refine lv_aload_n S.1 S.2.1 d_L_law_780 rfl (lv_at hl 1 rfl) ?_
        refine m_ci hw (m_runSW (n := 5) (As := [.ref (bx β), .int 1, .int (xs (7 * k + 2)), .int 1, .ref a]) (rest := []) S (h_depth l γ M β oa cp L σ hC a f ha hI0 hL 1 (Or.inr rfl) (xs (7 * k + 2)) 1 hv1) g675 g676 g40 g677 rfl rfl ⟨by decide +kernel, by decide +kernel, by decide +kernel⟩ ⟨(Nat.le_of_ble_eq_true rfl), (Nat.le_of_ble_eq_true rfl)⟩ (hw.preXS hx) rfl hl.1 (lv_room (Nat.le_of_ble_eq_true rfl)) d_L_law_781 ⟨hrm.1, hrm.2⟩ rfl) (fun r1 M1 H locs hp hw => ?_)
        obtain ⟨rfl, M9, hp, hM1⟩ := hp
        have hM2 := hp
        have ha9 : M9 a = some (ouc γ f) := by rw [hM2]; exact ha
        have hC9 : CB γ M1 β oa cp L σ := by rw [hM1]; exact CB.frB (by rw [hM2]; exact hC) (frB.out ha9)
        have ha1 : M1 a = some (ouc γ (vp_updL f 0 (dS (sI σ) 1 (xs (7 * k + 2)) (L (sj 1))))) := by rw [hM1]; exact mU_eq _ _ _
        have hR1 : RM γ M1 μ σ ε := hR.fr ha (by rw [hM1]; exact by rw [hM2]; exact frL.rf)
        refine lv_istore S.1 S.2.1 d_L_law_784 hl (by decide) rfl (fun ls hl => ?_)
        have hl : lv_has ls 8 [(5, .int 0), (4, .int (nI (7 * k))), (3, .ref a), (2, .ref (rx μ)), (1, .ref (bx β)), (0, .ref b)] := hl
        refine lv_aload_n S.1 S.2.1 d_L_law_786 rfl (lv_at hl 3 rfl) ?_
        refine lv_aload_n S.1 S.2.1 d_L_law_787 rfl (lv_at hl 5 rfl) ?_
        refine lv_iload S.1 S.2.1 d_L_law_788 (lv_at hl 1 rfl) ?_
        refine lv_iconst (v := 1) S.1 S.2.1 d_L_law_790 (by decide) ?_
        refine lv_iadd S.1 S.2.1 d_L_law_791 ?_
        refine m_scr (j := 7 * k + 1) S hX hbz hnn hw (nI_p (a := 7 * k) (b := 1)) (by omega) d_L_law_792 ?_
        refine lv_if_eq (tgt := 800) S.1 S.2.1 d_L_law_793 rfl (fun h => absurd h hz1) (fun _ => ?_)
        refine lv_iconst (v := 1) S.1 S.2.1 d_L_law_796 (by decide) ?_
        refine lv_goto (tgt := 801) S.1 S.2.1 d_L_law_797 rfl ?_
        refine lv_aload_n S.1 S.2.1 d_L_law_801 rfl (lv_at hl 5 rfl) ?_
        refine lv_iload S.1 S.2.1 d_L_law_802 (lv_at hl 1 rfl) ?_
        refine lv_iconst (v := 2) S.1 S.2.1 d_L_law_804 (by decide) ?_
        refine lv_iadd S.1 S.2.1 d_L_law_805 ?_
        refine m_scr (j := 7 * k + 2) S hX hbz hnn hw (nI_p (a := 7 * k) (b := 2)) (by omega) d_L_law_806 ?_
        refine lv_aload_n S.1 S.2.1 d_L_law_807 rfl (lv_at hl 5 rfl) ?_
        refine lv_iload S.1 S.2.1 d_L_law_808 (lv_at hl 1 rfl) ?_
        refine lv_iconst (v := 3) S.1 S.2.1 d_L_law_810 (by decide) ?_
        refine lv_iadd S.1 S.2.1 d_L_law_811 ?_
        refine m_scr (j := 7 * k + 3) S hX hbz hnn hw (nI_p (a := 7 * k) (b := 3)) (by omega) d_L_law_812 ?_
        refine lv_if_eq (tgt := 820) S.1 S.2.1 d_L_law_813 rfl (fun h => absurd h hz3) (fun _ => ?_)
        refine lv_iconst (v := 1) S.1 S.2.1 d_L_law_816 (by decide) ?_
        refine lv_goto (tgt := 821) S.1 S.2.1 d_L_law_817 rfl ?_
        refine m_cl hw (va_runV (As := [.int 1, .int (xs (7 * k + 2)), .int 1]) (rest := []) S (c_M_depth l γ M1 μ σ ε hR1 hn 1 (xs (7 * k + 2)) 1 hv1) (m_cwV 3 S g888 g889 g890 g48 g891 rfl rfl ⟨by decide +kernel, by decide +kernel, by decide +kernel⟩ ⟨(Nat.le_of_ble_eq_true rfl), (Nat.le_of_ble_eq_true rfl)⟩) (hw.preV hR1.1 cl_M.1) rfl rfl hl.1 rfl (lv_room (Nat.le_of_ble_eq_true rfl)) d_L_law_821 ⟨hrm.1, hrm.2⟩) (fun r2 M2 H locs hp hw => ?_)
        obtain ⟨rfl, hq⟩ := hp
        have hLS' := LSt.of (k := k + 1) hC9 hR1 ha1 hq hI.up hL hcp hcpl
        have ha2 := hq.2.out hR1 ha1
        have hR2 := hq.1
        refine lv_lstore S.1 S.2.1 d_L_law_824 hl (by decide) rfl (fun ls hl => ?_)
        have hl : lv_has ls 8 [(6, .long (dR (sI σ) 1 (xs (7 * k + 2)) 1 (sn σ))), (5, .int 0), (4, .int (nI (7 * k))), (3, .ref a), (2, .ref (rx μ)), (1, .ref (bx β)), (0, .ref b)] := hl
        refine lv_aload_n S.1 S.2.1 d_L_law_826 rfl (lv_at hl 4 rfl) ?_
        refine m_ci hw (va_runV (As := []) (rest := []) S (c_M_thrown l γ M2 μ σ (0, ε.2) hR2 ) (m_cwV 0 S g770 g771 g772 g48 g773 rfl rfl ⟨by decide +kernel, by decide +kernel, by decide +kernel⟩ ⟨(Nat.le_of_ble_eq_true rfl), (Nat.le_of_ble_eq_true rfl)⟩) (hw.preV hR2.1 cl_M.1) rfl rfl hl.1 rfl (lv_room (Nat.le_of_ble_eq_true rfl)) d_L_law_827 ⟨hrm.1, hrm.2⟩) (fun r3 M3 H locs hp hw => ?_)
        obtain ⟨rfl, hM3⟩ := hp
        rw [hM3] at hw
        refine lv_iload S.1 S.2.1 d_L_law_830 (lv_at hl 1 rfl) ?_
        refine lv_icmp_eq (tgt := 837) S.1 S.2.1 d_L_law_832 rfl (fun _ => ?_) (fun h => absurd (show (0 : Int32) = 0 from rfl) h)
        refine lv_iload S.1 S.2.1 d_L_law_837 (lv_at hl 1 rfl) ?_
        refine lv_if_ne (tgt := 853) S.1 S.2.1 d_L_law_839 rfl (fun h => absurd (show (0 : Int32) = 0 by decide) h) (fun _ => ?_)
        refine lv_aload_n S.1 S.2.1 d_L_law_842 rfl (lv_at hl 3 rfl) ?_
        refine lv_iconst (v := 0) S.1 S.2.1 d_L_law_843 (by decide) ?_
        refine m_lald (f := vp_updL f 0 (dS (sI σ) 1 (xs (7 * k + 2)) (L (sj 1)))) S hw ha2 (by unfold vp_in; decide) d_L_law_844 ?_
        refine W.eq (g2 := F0 m 845 ls [.long (dS (sI σ) 1 (xs (7 * k + 2)) (L (sj 1)))]) (congrArg (fun z => F0 m 845 ls [.long z]) (show (vp_updL f 0 (dS (sI σ) 1 (xs (7 * k + 2)) (L (sj 1)))) (0 : Int32).toNatClampNeg = dS (sI σ) 1 (xs (7 * k + 2)) (L (sj 1)) from rfl)) ?_
        refine lv_lload S.1 S.2.1 d_L_law_845 (lv_at hl 0 rfl) ?_
        refine W.lcmp S.1 S.2.1 d_L_law_847 ?_
        refine lv_if_eq (tgt := 853) S.1 S.2.1 d_L_law_848 rfl (fun _ => ?_) (fun h => absurd ((lg_cmp_eq _ _).mpr (dR_dS (sj_val (Or.inr rfl) hL)).symm) h)
        refine lv_goto (tgt := 932) S.1 S.2.1 d_L_law_853 rfl ?_
        have hl := lv_sub hl [2, 3, 4, 5, 6] rfl
        exact kk M2 (stn σ) H locs ls _ _ hLS' (by omega) (by omega) hl hw
set_option maxHeartbeats 4000000 in
set_option maxRecDepth 100000 in
theorem k_open {γ : mG} {p : Program} {l : Launch} {e : Env} {s : State} {m : MethodId} {below : List Frame} {meth : Method} {c : Code} {b n : Nat} {xs : Nat → Int32} {β : BK} {μ : RK} {a k t : Nat} {M : mMap} {H : Heap} {locs : List Loc} {ls : Array Slot} {cells slots : Nat} (hlT : xTr l) (C : LX γ p s m c b n xs) (hk : 7 * k + 7 ≤ n) (hLS : LSt γ M β μ a k t) (hc : cells ≤ 100 + kC t + 3 * k) (hs : slots ≤ 127000 + kS t + 756 * k) (hl : lv_has ls 8 [(4, .int (nI (7 * k))), (3, .ref a), (2, .ref (rx μ)), (1, .ref (bx β)), (0, .ref b)]) (hw : mW γ M s H locs) (kk : Kon γ p l e s m below meth c b β μ a k) : W p l e room_1 s m #[.ref b] below meth c H locs cells slots (lw_Z below #[.ref b] s) (F0 m 445 ls []) := by
  obtain ⟨S, hx, hX, hbz, hnn⟩ := C
  obtain ⟨oa, cp, L, σ, ε, f, hC, hR, ha, hI, hL, hcp, hcpl, rfl⟩ := hLS
  have hk1 : k + 1 ≤ 512 := by omega
  obtain ⟨hT0, hrk0⟩ := hI.t (by omega)
  have hI0 := hI.1
  have hn := hI0.1
  have hO := hI0.2.1
  by_cases hph : sph σ = 1
  · have hrm := room_ok (k := k + 1) (c := cells + 1) (s := slots + 6) hT0 (by omega) (by omega) (by omega)
    refine lv_aload_n S.1 S.2.1 d_L_law_445 rfl (lv_at hl 3 rfl) ?_
    refine lv_aload_n S.1 S.2.1 d_L_law_446 rfl (lv_at hl 1 rfl) ?_
    refine m_ci hw (m_runSW (n := 2) (As := [.ref (bx β), .ref a]) (rest := []) S (h_openS l hlT γ M β oa cp L σ hC a hph) g608 g609 g40 g610 rfl rfl ⟨by decide +kernel, by decide +kernel, by decide +kernel⟩ ⟨(Nat.le_of_ble_eq_true rfl), (Nat.le_of_ble_eq_true rfl)⟩ (hw.preXS hx) rfl hl.1 (lv_room (Nat.le_of_ble_eq_true rfl)) d_L_law_447 ⟨hrm.1, hrm.2⟩ rfl) (fun r1 M1 H locs hp hw => ?_)
    obtain ⟨rfl, hM1⟩ := hp
    rw [hM1] at hw
    refine lv_istore S.1 S.2.1 d_L_law_450 hl (by decide) rfl (fun ls hl => ?_)
    have hl : lv_has ls 8 [(5, .int 1), (4, .int (nI (7 * k))), (3, .ref a), (2, .ref (rx μ)), (1, .ref (bx β)), (0, .ref b)] := hl
    refine lv_aload_n S.1 S.2.1 d_L_law_452 rfl (lv_at hl 3 rfl) ?_
    refine m_cl hw (va_runV (As := []) (rest := []) S (c_M_openS l γ M μ σ ε hR hph) (m_cwV 0 S g856 g857 g858 g48 g859 rfl rfl ⟨by decide +kernel, by decide +kernel, by decide +kernel⟩ ⟨(Nat.le_of_ble_eq_true rfl), (Nat.le_of_ble_eq_true rfl)⟩) (hw.preV hR.1 cl_M.1) rfl rfl hl.1 rfl (lv_room (Nat.le_of_ble_eq_true rfl)) d_L_law_453 ⟨hrm.1, hrm.2⟩) (fun r2 M2 H locs hp hw => ?_)
    have hLS' := LSt.of (k := k + 1) hC hR ha hp hI.up hL hcp hcpl
    have hR2 := hp.1
    refine lv_lstore S.1 S.2.1 d_L_law_456 hl (by decide) rfl (fun ls hl => ?_)
    have hl : lv_has ls 8 [(6, .long r2), (5, .int 1), (4, .int (nI (7 * k))), (3, .ref a), (2, .ref (rx μ)), (1, .ref (bx β)), (0, .ref b)] := hl
    refine lv_aload_n S.1 S.2.1 d_L_law_458 rfl (lv_at hl 4 rfl) ?_
    refine m_ci hw (va_runV (As := []) (rest := []) S (c_M_thrown l γ M2 μ σ (1, ε.2) hR2 ) (m_cwV 0 S g770 g771 g772 g48 g773 rfl rfl ⟨by decide +kernel, by decide +kernel, by decide +kernel⟩ ⟨(Nat.le_of_ble_eq_true rfl), (Nat.le_of_ble_eq_true rfl)⟩) (hw.preV hR2.1 cl_M.1) rfl rfl hl.1 rfl (lv_room (Nat.le_of_ble_eq_true rfl)) d_L_law_459 ⟨hrm.1, hrm.2⟩) (fun r3 M3 H locs hp hw => ?_)
    obtain ⟨rfl, hM3⟩ := hp
    rw [hM3] at hw
    refine lv_iload S.1 S.2.1 d_L_law_462 (lv_at hl 1 rfl) ?_
    refine lv_icmp_eq (tgt := 469) S.1 S.2.1 d_L_law_464 rfl (fun _ => ?_) (fun h => absurd (show (1 : Int32) = 1 from rfl) h)
    refine lv_iload S.1 S.2.1 d_L_law_469 (lv_at hl 1 rfl) ?_
    refine lv_if_ne (tgt := 485) S.1 S.2.1 d_L_law_471 rfl (fun _ => ?_) (fun h => absurd h (show ¬ (1 : Int32) = 0 by decide))
    refine lv_goto (tgt := 932) S.1 S.2.1 d_L_law_485 rfl ?_
    have hl := lv_sub hl [2, 3, 4, 5, 6] rfl
    exact kk M2 (stn σ) H locs ls _ _ hLS' (by omega) (by omega) hl hw
  · obtain ⟨hT1, hrin⟩ := rin_open hI hL
    obtain ⟨hOK, -⟩ := open_ok hI0 hL
    obtain ⟨σ1, hσ1⟩ : ∃ z, xOp σ (aAt (sI σ) (L 1) (L 2) (srf σ) 2000) = z := ⟨_, rfl⟩
    rw [hσ1] at hT1 hrin
    have hts : stn (oPh (xSts σ1 (sn σ)) 1) = stn σ1 := congrArg (fun z => z.2.1) (sts_sn σ1 (sn σ)).2
    have hmo : stn σ ≤ stn σ1 := by rw [← hσ1]; unfold xOp; split; exact one_tn; exact Nat.le_refl _
    have hkC := kC_mono hmo
    have hkS := kS_mono hmo
    have hrm := room_ok (t := stn σ1) (k := k + 1) (c := cells + (kC (stn σ1) - kC (stn σ))) (s := slots + (kS (stn σ1) - kS (stn σ))) (by omega) (by omega) (by omega) (by omega)
    refine lv_aload_n S.1 S.2.1 d_L_law_445 rfl (lv_at hl 3 rfl) ?_
    refine lv_aload_n S.1 S.2.1 d_L_law_446 rfl (lv_at hl 1 rfl) ?_
    refine m_ci hw (m_runSW (n := 2) (As := [.ref (bx β), .ref a]) (rest := []) S (h_open l γ M β oa cp L σ hC a f ha hI0 hL hcp hph σ1 hσ1 (by omega)) g608 g609 g40 g610 rfl rfl ⟨by decide +kernel, by decide +kernel, by decide +kernel⟩ ⟨(Nat.le_of_ble_eq_true rfl), (Nat.le_of_ble_eq_true rfl)⟩ (hw.preXS hx) rfl hl.1 (lv_room (Nat.le_of_ble_eq_true rfl)) d_L_law_447 ⟨hrm.1, hrm.2⟩ rfl) (fun r1 M1 H locs hp hw => ?_)
    obtain ⟨rfl, M9, hp, hM1⟩ := hp
    obtain ⟨L1, cp1, hC1, hB1, hL1, hcp1, hcpe, hf1⟩ := hp
    have ha9 : M9 a = some (ouc γ f) := hf1.out ha
    have hC9 : CB γ M1 β oa cp1 L1 (oPh (xSts σ1 (sn σ)) 1) := by rw [hM1]; exact CB.frB hC1 (frB.out ha9)
    have ha1 : M1 a = some (ouc γ (vp_updL f 0 ((aAt (sI σ) (L 1) (L 2) (srf σ) 2000).2.1))) := by rw [hM1]; exact mU_eq _ _ _
    have hR1 : RM γ M1 μ σ ε := hR.fr ha (by rw [hM1]; exact frL.w hf1)
    refine lv_istore S.1 S.2.1 d_L_law_450 hl (by decide) rfl (fun ls hl => ?_)
    have hl : lv_has ls 8 [(5, .int 0), (4, .int (nI (7 * k))), (3, .ref a), (2, .ref (rx μ)), (1, .ref (bx β)), (0, .ref b)] := hl
    refine lv_aload_n S.1 S.2.1 d_L_law_452 rfl (lv_at hl 3 rfl) ?_
    refine m_cl hw (va_runV (As := []) (rest := []) S (c_M_open l γ M1 μ σ ε hR1 L hI0 hL hI.2.1 hph hOK σ1 hσ1 (by omega)) (m_cwV 0 S g856 g857 g858 g48 g859 rfl rfl ⟨by decide +kernel, by decide +kernel, by decide +kernel⟩ ⟨(Nat.le_of_ble_eq_true rfl), (Nat.le_of_ble_eq_true rfl)⟩) (hw.preV hR1.1 cl_M.1) rfl rfl hl.1 rfl (lv_room (Nat.le_of_ble_eq_true rfl)) d_L_law_453 ⟨hrm.1, hrm.2⟩) (fun r2 M2 H locs hp hw => ?_)
    obtain ⟨rfl, wf, of9, aa9, hq⟩ := hp
    have hLS' := LSt.of (k := k + 1) hC9 hR1 ha1 hq (hrin hB1) hL1 (by rw [hts]; exact hcp1) (fun j hj9 => by rw [hcpe j hj9]; exact hcpl j hj9)
    have ha2 := hq.2.out hR1 ha1
    have hR2 := hq.1
    rw [hts] at hLS'
    refine lv_lstore S.1 S.2.1 d_L_law_456 hl (by decide) rfl (fun ls hl => ?_)
    have hl : lv_has ls 8 [(6, .long ((aAt (sI σ) (L 1) (L 2) (srf σ) 2000).2.1)), (5, .int 0), (4, .int (nI (7 * k))), (3, .ref a), (2, .ref (rx μ)), (1, .ref (bx β)), (0, .ref b)] := hl
    refine lv_aload_n S.1 S.2.1 d_L_law_458 rfl (lv_at hl 4 rfl) ?_
    refine m_ci hw (va_runV (As := []) (rest := []) S (c_M_thrown l γ M2 μ (oPh (xSts σ1 (sn σ)) 1) (0, wf, of9, aa9) hR2 ) (m_cwV 0 S g770 g771 g772 g48 g773 rfl rfl ⟨by decide +kernel, by decide +kernel, by decide +kernel⟩ ⟨(Nat.le_of_ble_eq_true rfl), (Nat.le_of_ble_eq_true rfl)⟩) (hw.preV hR2.1 cl_M.1) rfl rfl hl.1 rfl (lv_room (Nat.le_of_ble_eq_true rfl)) d_L_law_459 ⟨hrm.1, hrm.2⟩) (fun r3 M3 H locs hp hw => ?_)
    obtain ⟨rfl, hM3⟩ := hp
    rw [hM3] at hw
    refine lv_iload S.1 S.2.1 d_L_law_462 (lv_at hl 1 rfl) ?_
    refine lv_icmp_eq (tgt := 469) S.1 S.2.1 d_L_law_464 rfl (fun _ => ?_) (fun h => absurd (show (0 : Int32) = 0 from rfl) h)
    refine lv_iload S.1 S.2.1 d_L_law_469 (lv_at hl 1 rfl) ?_
    refine lv_if_ne (tgt := 485) S.1 S.2.1 d_L_law_471 rfl (fun h => absurd (show (0 : Int32) = 0 by decide) h) (fun _ => ?_)
    refine lv_aload_n S.1 S.2.1 d_L_law_474 rfl (lv_at hl 3 rfl) ?_
    refine lv_iconst (v := 0) S.1 S.2.1 d_L_law_475 (by decide) ?_
    refine m_lald (f := vp_updL f 0 ((aAt (sI σ) (L 1) (L 2) (srf σ) 2000).2.1)) S hw ha2 (by unfold vp_in; decide) d_L_law_476 ?_
    refine W.eq (g2 := F0 m 477 ls [.long ((aAt (sI σ) (L 1) (L 2) (srf σ) 2000).2.1)]) (congrArg (fun z => F0 m 477 ls [.long z]) (show (vp_updL f 0 ((aAt (sI σ) (L 1) (L 2) (srf σ) 2000).2.1)) (0 : Int32).toNatClampNeg = (aAt (sI σ) (L 1) (L 2) (srf σ) 2000).2.1 from rfl)) ?_
    refine lv_lload S.1 S.2.1 d_L_law_477 (lv_at hl 0 rfl) ?_
    refine W.lcmp S.1 S.2.1 d_L_law_479 ?_
    refine lv_if_eq (tgt := 485) S.1 S.2.1 d_L_law_480 rfl (fun _ => ?_) (fun h => absurd ((lg_cmp_eq _ _).mpr rfl) h)
    refine lv_goto (tgt := 932) S.1 S.2.1 d_L_law_485 rfl ?_
    have hl := lv_sub hl [2, 3, 4, 5, 6] rfl
    exact kk M2 (stn σ1) H locs ls _ _ hLS' (by omega) (by omega) hl hw
set_option maxHeartbeats 4000000 in
set_option maxRecDepth 100000 in
theorem k_call {γ : mG} {p : Program} {l : Launch} {e : Env} {s : State} {m : MethodId} {below : List Frame} {meth : Method} {c : Code} {b n : Nat} {xs : Nat → Int32} {β : BK} {μ : RK} {a k t : Nat} {M : mMap} {H : Heap} {locs : List Loc} {ls : Array Slot} {cells slots : Nat} (hlT : xTr l) (C : LX γ p s m c b n xs) (hk : 7 * k + 7 ≤ n) (hLS : LSt γ M β μ a k t) (hc : cells ≤ 100 + kC t + 3 * k) (hs : slots ≤ 127000 + kS t + 756 * k) (hl : lv_has ls 8 [(4, .int (nI (7 * k))), (3, .ref a), (2, .ref (rx μ)), (1, .ref (bx β)), (0, .ref b)]) (hw : mW γ M s H locs) (kk : Kon γ p l e s m below meth c b β μ a k) : W p l e room_1 s m #[.ref b] below meth c H locs cells slots (lw_Z below #[.ref b] s) (F0 m 488 ls []) := by
  obtain ⟨S, hx, hX, hbz, hnn⟩ := C
  obtain ⟨oa, cp, L, σ, ε, f, hC, hR, ha, hI, hL, hcp, hcpl, rfl⟩ := hLS
  have hk1 : k + 1 ≤ 512 := by omega
  obtain ⟨hT0, hrk0⟩ := hI.t (by omega)
  have hI0 := hI.1
  have hn := hI0.1
  have hO := hI0.2.1
  have hrm := room_ok (k := k + 1) (c := cells) (s := slots) hT0 (by omega) (by omega) (by omega)
  refine lv_aload_n S.1 S.2.1 d_L_law_488 rfl (lv_at hl 3 rfl) ?_
  refine m_ci hw (va_runV (As := []) (rest := []) S (c_B_call l γ M β oa cp L σ hC ) (m_cwV 0 S g173 g174 g175 g41 g176 rfl rfl ⟨by decide +kernel, by decide +kernel, by decide +kernel⟩ ⟨(Nat.le_of_ble_eq_true rfl), (Nat.le_of_ble_eq_true rfl)⟩) (hw.preV hC.book cl_B.1) rfl rfl hl.1 rfl (lv_room (Nat.le_of_ble_eq_true rfl)) d_L_law_489 ⟨hrm.1, hrm.2⟩) (fun r1 M1 H locs hp hw => ?_)
  obtain ⟨rfl, hC9, hf1⟩ := hp
  have ha1 := hf1.out ha
  have hR1 : RM γ M1 μ σ ε := hR.fr ha (fun q9 e9 _ h1 h2 _ => hf1 q9 e9 h1 h2)
  refine lv_aload_n S.1 S.2.1 d_L_law_492 rfl (lv_at hl 2 rfl) ?_
  refine m_ci hw (va_runV (As := []) (rest := [.int (sph σ)]) S (c_M_call l γ M1 μ σ ε hR1 ) (m_cwV 0 S g868 g869 g870 g48 g871 rfl rfl ⟨by decide +kernel, by decide +kernel, by decide +kernel⟩ ⟨(Nat.le_of_ble_eq_true rfl), (Nat.le_of_ble_eq_true rfl)⟩) (hw.preV hR1.1 cl_M.1) rfl rfl hl.1 rfl (lv_room (Nat.le_of_ble_eq_true rfl)) d_L_law_493 ⟨hrm.1, hrm.2⟩) (fun r2 M2 H locs hp hw => ?_)
  obtain ⟨rfl, hq⟩ := hp
  have hLS' := LSt.of (k := k + 1) hC9 hR1 ha1 hq (rin_call hI).up hL hcp hcpl
  refine lv_icmp_eq (tgt := 932) S.1 S.2.1 d_L_law_496 rfl (fun _ => ?_) (fun h => absurd (show sph σ = sph σ from rfl) h)
  have hl := lv_sub hl [0, 1, 2, 3, 4] rfl
  exact kk M2 (stn σ) H locs ls _ _ hLS' (by omega) (by omega) hl hw
set_option maxHeartbeats 4000000 in
set_option maxRecDepth 100000 in
theorem k_told {γ : mG} {p : Program} {l : Launch} {e : Env} {s : State} {m : MethodId} {below : List Frame} {meth : Method} {c : Code} {b n : Nat} {xs : Nat → Int32} {β : BK} {μ : RK} {a k t : Nat} {M : mMap} {H : Heap} {locs : List Loc} {ls : Array Slot} {cells slots : Nat} (hlT : xTr l) (C : LX γ p s m c b n xs) (hk : 7 * k + 7 ≤ n) (hLS : LSt γ M β μ a k t) (hc : cells ≤ 100 + kC t + 3 * k) (hs : slots ≤ 127000 + kS t + 756 * k) (hl : lv_has ls 8 [(4, .int (nI (7 * k))), (3, .ref a), (2, .ref (rx μ)), (1, .ref (bx β)), (0, .ref b)]) (hw : mW γ M s H locs) (kk : Kon γ p l e s m below meth c b β μ a k) : W p l e room_1 s m #[.ref b] below meth c H locs cells slots (lw_Z below #[.ref b] s) (F0 m 893 ls []) := by
  obtain ⟨S, hx, hX, hbz, hnn⟩ := C
  obtain ⟨oa, cp, L, σ, ε, f, hC, hR, ha, hI, hL, hcp, hcpl, rfl⟩ := hLS
  have hk1 : k + 1 ≤ 512 := by omega
  obtain ⟨hT0, hrk0⟩ := hI.t (by omega)
  have hI0 := hI.1
  have hn := hI0.1
  have hO := hI0.2.1
  have hrm := room_ok (k := k + 1) (c := cells) (s := slots) hT0 (by omega) (by omega) (by omega)
  refine lv_aload_n S.1 S.2.1 d_L_law_893 rfl (lv_at hl 3 rfl) ?_
  refine lv_aload_n S.1 S.2.1 d_L_law_894 rfl (lv_at hl 4 rfl) ?_
  refine lv_iload S.1 S.2.1 d_L_law_895 (lv_at hl 0 rfl) ?_
  refine lv_iconst (v := 1) S.1 S.2.1 d_L_law_897 (by decide) ?_
  refine lv_iadd S.1 S.2.1 d_L_law_898 ?_
  refine m_scr (j := 7 * k + 1) S hX hbz hnn hw (nI_p (a := 7 * k) (b := 1)) (by omega) d_L_law_899 ?_
  refine m_cl hw (va_runV (As := [.int (xs (7 * k + 1))]) (rest := []) S (c_B_told l γ M β oa cp L σ hC (xs (7 * k + 1))) (m_cwV 1 S g215 g216 g217 g41 g218 rfl rfl ⟨by decide +kernel, by decide +kernel, by decide +kernel⟩ ⟨(Nat.le_of_ble_eq_true rfl), (Nat.le_of_ble_eq_true rfl)⟩) (hw.preV hC.book cl_B.1) rfl rfl hl.1 rfl (lv_room (Nat.le_of_ble_eq_true rfl)) d_L_law_900 ⟨hrm.1, hrm.2⟩) (fun r1 M1 H locs hp hw => ?_)
  obtain ⟨rfl, hM1⟩ := hp
  rw [hM1] at hw
  have hC9 := hC
  have ha1 := ha
  have hR1 := hR
  refine lv_aload_n S.1 S.2.1 d_L_law_903 rfl (lv_at hl 2 rfl) ?_
  refine lv_aload_n S.1 S.2.1 d_L_law_904 rfl (lv_at hl 4 rfl) ?_
  refine lv_iload S.1 S.2.1 d_L_law_905 (lv_at hl 0 rfl) ?_
  refine lv_iconst (v := 1) S.1 S.2.1 d_L_law_907 (by decide) ?_
  refine lv_iadd S.1 S.2.1 d_L_law_908 ?_
  refine m_scr (j := 7 * k + 1) S hX hbz hnn hw (nI_p (a := 7 * k) (b := 1)) (by omega) d_L_law_909 ?_
  refine m_cl hw (va_runV (As := [.int (xs (7 * k + 1))]) (rest := [.long (told σ L (xs (7 * k + 1)))]) S (c_M_told l γ M μ σ ε hR1 hn hO (xs (7 * k + 1))) (m_cwV 1 S g896 g897 g898 g48 g899 rfl rfl ⟨by decide +kernel, by decide +kernel, by decide +kernel⟩ ⟨(Nat.le_of_ble_eq_true rfl), (Nat.le_of_ble_eq_true rfl)⟩) (hw.preV hR1.1 cl_M.1) rfl rfl hl.1 rfl (lv_room (Nat.le_of_ble_eq_true rfl)) d_L_law_910 ⟨hrm.1, hrm.2⟩) (fun r2 M2 H locs hp hw => ?_)
  obtain ⟨rfl, hq⟩ := hp
  have hLS' := LSt.of (k := k + 1) hC9 hR1 ha1 hq hI.up hL hcp hcpl
  refine W.lcmp S.1 S.2.1 d_L_law_913 ?_
  refine lv_if_eq (tgt := 932) S.1 S.2.1 d_L_law_914 rfl (fun _ => ?_) (fun h => absurd ((lg_cmp_eq _ _).mpr (told_eq hL).symm) h)
  have hl := lv_sub hl [0, 1, 2, 3, 4] rfl
  exact kk M2 (stn σ) H locs ls _ _ hLS' (by omega) (by omega) hl hw
set_option maxHeartbeats 4000000 in
set_option maxRecDepth 100000 in
theorem k_astray {γ : mG} {p : Program} {l : Launch} {e : Env} {s : State} {m : MethodId} {below : List Frame} {meth : Method} {c : Code} {b n : Nat} {xs : Nat → Int32} {β : BK} {μ : RK} {a k t : Nat} {M : mMap} {H : Heap} {locs : List Loc} {ls : Array Slot} {cells slots : Nat} (hlT : xTr l) (C : LX γ p s m c b n xs) (hk : 7 * k + 7 ≤ n) (hLS : LSt γ M β μ a k t) (hc : cells ≤ 100 + kC t + 3 * k) (hs : slots ≤ 127000 + kS t + 756 * k) (hl : lv_has ls 8 [(4, .int (nI (7 * k))), (3, .ref a), (2, .ref (rx μ)), (1, .ref (bx β)), (0, .ref b)]) (hw : mW γ M s H locs) (kk : Kon γ p l e s m below meth c b β μ a k) : W p l e room_1 s m #[.ref b] below meth c H locs cells slots (lw_Z below #[.ref b] s) (F0 m 919 ls []) := by
  obtain ⟨S, hx, hX, hbz, hnn⟩ := C
  obtain ⟨oa, cp, L, σ, ε, f, hC, hR, ha, hI, hL, hcp, hcpl, rfl⟩ := hLS
  have hk1 : k + 1 ≤ 512 := by omega
  obtain ⟨hT0, hrk0⟩ := hI.t (by omega)
  have hI0 := hI.1
  have hn := hI0.1
  have hO := hI0.2.1
  have hrm := room_ok (k := k + 1) (c := cells) (s := slots) hT0 (by omega) (by omega) (by omega)
  refine lv_aload_n S.1 S.2.1 d_L_law_919 rfl (lv_at hl 3 rfl) ?_
  refine m_ci hw (va_runV (As := []) (rest := []) S (c_B_astray l γ M β oa cp L σ hC hI0 hL hI.2.2.1.nx hI.2.2.2.2.1) (m_cwV 0 S g220 g221 g222 g41 g223 rfl rfl ⟨by decide +kernel, by decide +kernel, by decide +kernel⟩ ⟨(Nat.le_of_ble_eq_true rfl), (Nat.le_of_ble_eq_true rfl)⟩) (hw.preV hC.book cl_B.1) rfl rfl hl.1 rfl (lv_room (Nat.le_of_ble_eq_true rfl)) d_L_law_920 ⟨hrm.1, hrm.2⟩) (fun r1 M1 H locs hp hw => ?_)
  obtain ⟨rfl, hM1⟩ := hp
  rw [hM1] at hw
  have hC9 := hC
  have ha1 := ha
  have hR1 := hR
  refine lv_aload_n S.1 S.2.1 d_L_law_923 rfl (lv_at hl 2 rfl) ?_
  refine m_ci hw (va_runV (As := []) (rest := [.int 0]) S (c_M_astray l γ M μ σ ε hR1 ) (m_cwV 0 S g901 g902 g903 g48 g904 rfl rfl ⟨by decide +kernel, by decide +kernel, by decide +kernel⟩ ⟨(Nat.le_of_ble_eq_true rfl), (Nat.le_of_ble_eq_true rfl)⟩) (hw.preV hR1.1 cl_M.1) rfl rfl hl.1 rfl (lv_room (Nat.le_of_ble_eq_true rfl)) d_L_law_924 ⟨hrm.1, hrm.2⟩) (fun r2 M2 H locs hp hw => ?_)
  obtain ⟨rfl, hq⟩ := hp
  have hLS' := LSt.of (k := k + 1) hC9 hR1 ha1 hq hI.up hL hcp hcpl
  refine lv_icmp_eq (tgt := 932) S.1 S.2.1 d_L_law_927 rfl (fun _ => ?_) (fun h => absurd (show (0 : Int32) = 0 from rfl) h)
  have hl := lv_sub hl [0, 1, 2, 3, 4] rfl
  exact kk M2 (stn σ) H locs ls _ _ hLS' (by omega) (by omega) hl hw
set_option maxHeartbeats 4000000 in
set_option maxRecDepth 100000 in
theorem k_at {γ : mG} {p : Program} {l : Launch} {e : Env} {s : State} {m : MethodId} {below : List Frame} {meth : Method} {c : Code} {b n : Nat} {xs : Nat → Int32} {β : BK} {μ : RK} {a k t : Nat} {M : mMap} {H : Heap} {locs : List Loc} {ls : Array Slot} {cells slots : Nat} (hlT : xTr l) (C : LX γ p s m c b n xs) (hk : 7 * k + 7 ≤ n) (hLS : LSt γ M β μ a k t) (hc : cells ≤ 100 + kC t + 3 * k) (hs : slots ≤ 127000 + kS t + 756 * k) (hl : lv_has ls 8 [(4, .int (nI (7 * k))), (3, .ref a), (2, .ref (rx μ)), (1, .ref (bx β)), (0, .ref b)]) (hw : mW γ M s H locs) (kk : Kon γ p l e s m below meth c b β μ a k) : W p l e room_1 s m #[.ref b] below meth c H locs cells slots (lw_Z below #[.ref b] s) (F0 m 692 ls []) := by
  obtain ⟨S, hx, hX, hbz, hnn⟩ := C
  obtain ⟨oa, cp, L, σ, ε, f, hC, hR, ha, hI, hL, hcp, hcpl, rfl⟩ := hLS
  have hk1 : k + 1 ≤ 512 := by omega
  obtain ⟨hT0, hrk0⟩ := hI.t (by omega)
  have hI0 := hI.1
  have hn := hI0.1
  have hO := hI0.2.1
  by_cases hz1 : (xs (7 * k + 1)) = 0
  · have hrm := room_ok (k := k + 1) (c := cells) (s := slots) hT0 (by omega) (by omega) (by omega)
    refine lv_aload_n S.1 S.2.1 d_L_law_692 rfl (lv_at hl 3 rfl) ?_
    refine lv_aload_n S.1 S.2.1 d_L_law_693 rfl (lv_at hl 4 rfl) ?_
    refine lv_iload S.1 S.2.1 d_L_law_694 (lv_at hl 0 rfl) ?_
    refine lv_iconst (v := 1) S.1 S.2.1 d_L_law_696 (by decide) ?_
    refine lv_iadd S.1 S.2.1 d_L_law_697 ?_
    refine m_scr (j := 7 * k + 1) S hX hbz hnn hw (nI_p (a := 7 * k) (b := 1)) (by omega) d_L_law_698 ?_
    refine lv_if_eq (tgt := 706) S.1 S.2.1 d_L_law_699 rfl (fun _ => ?_) (fun h => absurd hz1 h)
    refine lv_iconst (v := 0) S.1 S.2.1 d_L_law_706 (by decide) ?_
    refine lv_aload_n S.1 S.2.1 d_L_law_707 rfl (lv_at hl 4 rfl) ?_
    refine lv_iload S.1 S.2.1 d_L_law_708 (lv_at hl 0 rfl) ?_
    refine lv_iconst (v := 2) S.1 S.2.1 d_L_law_710 (by decide) ?_
    refine lv_iadd S.1 S.2.1 d_L_law_711 ?_
    refine m_scr (j := 7 * k + 2) S hX hbz hnn hw (nI_p (a := 7 * k) (b := 2)) (by omega) d_L_law_712 ?_
    refine m_ci hw (va_runV (As := [.int 0, .int (xs (7 * k + 2))]) (rest := []) S (c_B_at l γ M β oa cp L σ hC hn hL 0 (Or.inl rfl) (xs (7 * k + 2))) (m_cwV 2 S g177 g178 g179 g41 g180 rfl rfl ⟨by decide +kernel, by decide +kernel, by decide +kernel⟩ ⟨(Nat.le_of_ble_eq_true rfl), (Nat.le_of_ble_eq_true rfl)⟩) (hw.preV hC.book cl_B.1) rfl rfl hl.1 rfl (lv_room (Nat.le_of_ble_eq_true rfl)) d_L_law_713 ⟨hrm.1, hrm.2⟩) (fun r1 M1 H locs hp hw => ?_)
    obtain ⟨rfl, hM1⟩ := hp
    rw [hM1] at hw
    have hC9 := hC
    have ha1 := ha
    have hR1 := hR
    refine lv_aload_n S.1 S.2.1 d_L_law_716 rfl (lv_at hl 2 rfl) ?_
    refine lv_aload_n S.1 S.2.1 d_L_law_717 rfl (lv_at hl 4 rfl) ?_
    refine lv_iload S.1 S.2.1 d_L_law_718 (lv_at hl 0 rfl) ?_
    refine lv_iconst (v := 1) S.1 S.2.1 d_L_law_720 (by decide) ?_
    refine lv_iadd S.1 S.2.1 d_L_law_721 ?_
    refine m_scr (j := 7 * k + 1) S hX hbz hnn hw (nI_p (a := 7 * k) (b := 1)) (by omega) d_L_law_722 ?_
    refine lv_if_eq (tgt := 730) S.1 S.2.1 d_L_law_723 rfl (fun _ => ?_) (fun h => absurd hz1 h)
    refine lv_iconst (v := 0) S.1 S.2.1 d_L_law_730 (by decide) ?_
    refine lv_aload_n S.1 S.2.1 d_L_law_731 rfl (lv_at hl 4 rfl) ?_
    refine lv_iload S.1 S.2.1 d_L_law_732 (lv_at hl 0 rfl) ?_
    refine lv_iconst (v := 2) S.1 S.2.1 d_L_law_734 (by decide) ?_
    refine lv_iadd S.1 S.2.1 d_L_law_735 ?_
    refine m_scr (j := 7 * k + 2) S hX hbz hnn hw (nI_p (a := 7 * k) (b := 2)) (by omega) d_L_law_736 ?_
    refine m_ci hw (va_runV (As := [.int 0, .int (xs (7 * k + 2))]) (rest := [.int (atl (L (sj 0)) (xs (7 * k + 2)))]) S (c_M_at l γ M μ σ ε hR1 hn 0 (xs (7 * k + 2))) (m_cwV 2 S g884 g885 g886 g48 g887 rfl rfl ⟨by decide +kernel, by decide +kernel, by decide +kernel⟩ ⟨(Nat.le_of_ble_eq_true rfl), (Nat.le_of_ble_eq_true rfl)⟩) (hw.preV hR1.1 cl_M.1) rfl rfl hl.1 rfl (lv_room (Nat.le_of_ble_eq_true rfl)) d_L_law_737 ⟨hrm.1, hrm.2⟩) (fun r2 M2 H locs hp hw => ?_)
    obtain ⟨rfl, hq⟩ := hp
    have hLS' := LSt.of (k := k + 1) hC9 hR1 ha1 hq hI.up hL hcp hcpl
    refine lv_icmp_eq (tgt := 932) S.1 S.2.1 d_L_law_740 rfl (fun _ => ?_) (fun h => absurd ((atR_atl hn hO (sj_val (Or.inl rfl) hL)).symm) h)
    have hl := lv_sub hl [0, 1, 2, 3, 4] rfl
    exact kk M2 (stn σ) H locs ls _ _ hLS' (by omega) (by omega) hl hw
  · have hrm := room_ok (k := k + 1) (c := cells) (s := slots) hT0 (by omega) (by omega) (by omega)
    refine lv_aload_n S.1 S.2.1 d_L_law_692 rfl (lv_at hl 3 rfl) ?_
    refine lv_aload_n S.1 S.2.1 d_L_law_693 rfl (lv_at hl 4 rfl) ?_
    refine lv_iload S.1 S.2.1 d_L_law_694 (lv_at hl 0 rfl) ?_
    refine lv_iconst (v := 1) S.1 S.2.1 d_L_law_696 (by decide) ?_
    refine lv_iadd S.1 S.2.1 d_L_law_697 ?_
    refine m_scr (j := 7 * k + 1) S hX hbz hnn hw (nI_p (a := 7 * k) (b := 1)) (by omega) d_L_law_698 ?_
    refine lv_if_eq (tgt := 706) S.1 S.2.1 d_L_law_699 rfl (fun h => absurd h hz1) (fun _ => ?_)
    refine lv_iconst (v := 1) S.1 S.2.1 d_L_law_702 (by decide) ?_
    refine lv_goto (tgt := 707) S.1 S.2.1 d_L_law_703 rfl ?_
    refine lv_aload_n S.1 S.2.1 d_L_law_707 rfl (lv_at hl 4 rfl) ?_
    refine lv_iload S.1 S.2.1 d_L_law_708 (lv_at hl 0 rfl) ?_
    refine lv_iconst (v := 2) S.1 S.2.1 d_L_law_710 (by decide) ?_
    refine lv_iadd S.1 S.2.1 d_L_law_711 ?_
    refine m_scr (j := 7 * k + 2) S hX hbz hnn hw (nI_p (a := 7 * k) (b := 2)) (by omega) d_L_law_712 ?_
    refine m_ci hw (va_runV (As := [.int 1, .int (xs (7 * k + 2))]) (rest := []) S (c_B_at l γ M β oa cp L σ hC hn hL 1 (Or.inr rfl) (xs (7 * k + 2))) (m_cwV 2 S g177 g178 g179 g41 g180 rfl rfl ⟨by decide +kernel, by decide +kernel, by decide +kernel⟩ ⟨(Nat.le_of_ble_eq_true rfl), (Nat.le_of_ble_eq_true rfl)⟩) (hw.preV hC.book cl_B.1) rfl rfl hl.1 rfl (lv_room (Nat.le_of_ble_eq_true rfl)) d_L_law_713 ⟨hrm.1, hrm.2⟩) (fun r1 M1 H locs hp hw => ?_)
    obtain ⟨rfl, hM1⟩ := hp
    rw [hM1] at hw
    have hC9 := hC
    have ha1 := ha
    have hR1 := hR
    refine lv_aload_n S.1 S.2.1 d_L_law_716 rfl (lv_at hl 2 rfl) ?_
    refine lv_aload_n S.1 S.2.1 d_L_law_717 rfl (lv_at hl 4 rfl) ?_
    refine lv_iload S.1 S.2.1 d_L_law_718 (lv_at hl 0 rfl) ?_
    refine lv_iconst (v := 1) S.1 S.2.1 d_L_law_720 (by decide) ?_
    refine lv_iadd S.1 S.2.1 d_L_law_721 ?_
    refine m_scr (j := 7 * k + 1) S hX hbz hnn hw (nI_p (a := 7 * k) (b := 1)) (by omega) d_L_law_722 ?_
    refine lv_if_eq (tgt := 730) S.1 S.2.1 d_L_law_723 rfl (fun h => absurd h hz1) (fun _ => ?_)
    refine lv_iconst (v := 1) S.1 S.2.1 d_L_law_726 (by decide) ?_
    refine lv_goto (tgt := 731) S.1 S.2.1 d_L_law_727 rfl ?_
    refine lv_aload_n S.1 S.2.1 d_L_law_731 rfl (lv_at hl 4 rfl) ?_
    refine lv_iload S.1 S.2.1 d_L_law_732 (lv_at hl 0 rfl) ?_
    refine lv_iconst (v := 2) S.1 S.2.1 d_L_law_734 (by decide) ?_
    refine lv_iadd S.1 S.2.1 d_L_law_735 ?_
    refine m_scr (j := 7 * k + 2) S hX hbz hnn hw (nI_p (a := 7 * k) (b := 2)) (by omega) d_L_law_736 ?_
    refine m_ci hw (va_runV (As := [.int 1, .int (xs (7 * k + 2))]) (rest := [.int (atl (L (sj 1)) (xs (7 * k + 2)))]) S (c_M_at l γ M μ σ ε hR1 hn 1 (xs (7 * k + 2))) (m_cwV 2 S g884 g885 g886 g48 g887 rfl rfl ⟨by decide +kernel, by decide +kernel, by decide +kernel⟩ ⟨(Nat.le_of_ble_eq_true rfl), (Nat.le_of_ble_eq_true rfl)⟩) (hw.preV hR1.1 cl_M.1) rfl rfl hl.1 rfl (lv_room (Nat.le_of_ble_eq_true rfl)) d_L_law_737 ⟨hrm.1, hrm.2⟩) (fun r2 M2 H locs hp hw => ?_)
    obtain ⟨rfl, hq⟩ := hp
    have hLS' := LSt.of (k := k + 1) hC9 hR1 ha1 hq hI.up hL hcp hcpl
    refine lv_icmp_eq (tgt := 932) S.1 S.2.1 d_L_law_740 rfl (fun _ => ?_) (fun h => absurd ((atR_atl hn hO (sj_val (Or.inr rfl) hL)).symm) h)
    have hl := lv_sub hl [0, 1, 2, 3, 4] rfl
    exact kk M2 (stn σ) H locs ls _ _ hLS' (by omega) (by omega) hl hw
set_option maxHeartbeats 4000000 in
set_option maxRecDepth 100000 in
theorem k_trade {γ : mG} {p : Program} {l : Launch} {e : Env} {s : State} {m : MethodId} {below : List Frame} {meth : Method} {c : Code} {b n : Nat} {xs : Nat → Int32} {β : BK} {μ : RK} {a k t : Nat} {M : mMap} {H : Heap} {locs : List Loc} {ls : Array Slot} {cells slots : Nat} (hlT : xTr l) (C : LX γ p s m c b n xs) (hk : 7 * k + 7 ≤ n) (hLS : LSt γ M β μ a k t) (hc : cells ≤ 100 + kC t + 3 * k) (hs : slots ≤ 127000 + kS t + 756 * k) (hl : lv_has ls 8 [(4, .int (nI (7 * k))), (3, .ref a), (2, .ref (rx μ)), (1, .ref (bx β)), (0, .ref b)]) (hw : mW γ M s H locs) (kk : Kon γ p l e s m below meth c b β μ a k) : W p l e room_1 s m #[.ref b] below meth c H locs cells slots (lw_Z below #[.ref b] s) (F0 m 856 ls []) := by
  obtain ⟨S, hx, hX, hbz, hnn⟩ := C
  obtain ⟨oa, cp, L, σ, ε, f, hC, hR, ha, hI, hL, hcp, hcpl, rfl⟩ := hLS
  have hk1 : k + 1 ≤ 512 := by omega
  obtain ⟨hT0, hrk0⟩ := hI.t (by omega)
  have hI0 := hI.1
  have hn := hI0.1
  have hO := hI0.2.1
  by_cases hj : ∃ o, o < stn σ ∧ (xs (7 * k + 1)) = nI o
  · obtain ⟨o, ho, ej⟩ := hj
    have hrm := room_ok (k := k + 1) (c := cells) (s := slots) hT0 (by omega) (by omega) (by omega)
    refine lv_aload_n S.1 S.2.1 d_L_law_856 rfl (lv_at hl 3 rfl) ?_
    refine lv_aload_n S.1 S.2.1 d_L_law_857 rfl (lv_at hl 4 rfl) ?_
    refine lv_iload S.1 S.2.1 d_L_law_858 (lv_at hl 0 rfl) ?_
    refine lv_iconst (v := 1) S.1 S.2.1 d_L_law_860 (by decide) ?_
    refine lv_iadd S.1 S.2.1 d_L_law_861 ?_
    refine m_scr (j := 7 * k + 1) S hX hbz hnn hw (nI_p (a := 7 * k) (b := 1)) (by omega) d_L_law_862 ?_
    refine W.eq (g2 := F0 m 863 ls [.int (nI o), .ref (bx β)]) (congrArg (fun z => F0 m 863 ls [.int z, .ref (bx β)]) ej) ?_
    refine lv_aload_n S.1 S.2.1 d_L_law_863 rfl (lv_at hl 4 rfl) ?_
    refine lv_iload S.1 S.2.1 d_L_law_864 (lv_at hl 0 rfl) ?_
    refine lv_iconst (v := 2) S.1 S.2.1 d_L_law_866 (by decide) ?_
    refine lv_iadd S.1 S.2.1 d_L_law_867 ?_
    refine m_scr (j := 7 * k + 2) S hX hbz hnn hw (nI_p (a := 7 * k) (b := 2)) (by omega) d_L_law_868 ?_
    refine m_ci hw (va_runV (As := [.int (nI o), .int (xs (7 * k + 2))]) (rest := []) S (c_B_trade l γ M β oa cp L σ hC hT0 (nI o) (xs (7 * k + 2))) (m_cwV 2 S g204 g205 g206 g41 g207 rfl rfl ⟨by decide +kernel, by decide +kernel, by decide +kernel⟩ ⟨(Nat.le_of_ble_eq_true rfl), (Nat.le_of_ble_eq_true rfl)⟩) (hw.preV hC.book cl_B.1) rfl rfl hl.1 rfl (lv_room (Nat.le_of_ble_eq_true rfl)) d_L_law_869 ⟨hrm.1, hrm.2⟩) (fun r1 M1 H locs hp hw => ?_)
    obtain ⟨rfl, hM1⟩ := hp
    rw [hM1] at hw
    have hC9 := hC
    have ha1 := ha
    have hR1 := hR
    refine lv_aload_n S.1 S.2.1 d_L_law_872 rfl (lv_at hl 2 rfl) ?_
    refine lv_aload_n S.1 S.2.1 d_L_law_873 rfl (lv_at hl 4 rfl) ?_
    refine lv_iload S.1 S.2.1 d_L_law_874 (lv_at hl 0 rfl) ?_
    refine lv_iconst (v := 1) S.1 S.2.1 d_L_law_876 (by decide) ?_
    refine lv_iadd S.1 S.2.1 d_L_law_877 ?_
    refine m_scr (j := 7 * k + 1) S hX hbz hnn hw (nI_p (a := 7 * k) (b := 1)) (by omega) d_L_law_878 ?_
    refine W.eq (g2 := F0 m 879 ls [.int (nI o), .ref (rx μ), .int (tell σ (nI o) (xs (7 * k + 2)))]) (congrArg (fun z => F0 m 879 ls [.int z, .ref (rx μ), .int (tell σ (nI o) (xs (7 * k + 2)))]) ej) ?_
    refine lv_aload_n S.1 S.2.1 d_L_law_879 rfl (lv_at hl 4 rfl) ?_
    refine lv_iload S.1 S.2.1 d_L_law_880 (lv_at hl 0 rfl) ?_
    refine lv_iconst (v := 2) S.1 S.2.1 d_L_law_882 (by decide) ?_
    refine lv_iadd S.1 S.2.1 d_L_law_883 ?_
    refine m_scr (j := 7 * k + 2) S hX hbz hnn hw (nI_p (a := 7 * k) (b := 2)) (by omega) d_L_law_884 ?_
    refine m_ci hw (va_runV (As := [.int (nI o), .int (xs (7 * k + 2))]) (rest := [.int (tell σ (nI o) (xs (7 * k + 2)))]) S (c_M_trade l γ M μ σ ε hR1 hT0 o ho (xs (7 * k + 2))) (m_cwV 2 S g892 g893 g894 g48 g895 rfl rfl ⟨by decide +kernel, by decide +kernel, by decide +kernel⟩ ⟨(Nat.le_of_ble_eq_true rfl), (Nat.le_of_ble_eq_true rfl)⟩) (hw.preV hR1.1 cl_M.1) rfl rfl hl.1 rfl (lv_room (Nat.le_of_ble_eq_true rfl)) d_L_law_885 ⟨hrm.1, hrm.2⟩) (fun r2 M2 H locs hp hw => ?_)
    obtain ⟨rfl, hq⟩ := hp
    have hLS' := LSt.of (k := k + 1) hC9 hR1 ha1 hq hI.up hL hcp hcpl
    refine lv_icmp_eq (tgt := 932) S.1 S.2.1 d_L_law_888 rfl (fun _ => ?_) (fun h => absurd (tell_k hT0 ho) h)
    have hl := lv_sub hl [0, 1, 2, 3, 4] rfl
    exact kk M2 (stn σ) H locs ls _ _ hLS' (by omega) (by omega) hl hw
  · have hj' : ∀ o, o < stn σ → ¬ (xs (7 * k + 1)) = nI o := fun o ho e9 => hj ⟨o, ho, e9⟩
    have hrm := room_ok (k := k + 1) (c := cells) (s := slots) hT0 (by omega) (by omega) (by omega)
    refine lv_aload_n S.1 S.2.1 d_L_law_856 rfl (lv_at hl 3 rfl) ?_
    refine lv_aload_n S.1 S.2.1 d_L_law_857 rfl (lv_at hl 4 rfl) ?_
    refine lv_iload S.1 S.2.1 d_L_law_858 (lv_at hl 0 rfl) ?_
    refine lv_iconst (v := 1) S.1 S.2.1 d_L_law_860 (by decide) ?_
    refine lv_iadd S.1 S.2.1 d_L_law_861 ?_
    refine m_scr (j := 7 * k + 1) S hX hbz hnn hw (nI_p (a := 7 * k) (b := 1)) (by omega) d_L_law_862 ?_
    refine lv_aload_n S.1 S.2.1 d_L_law_863 rfl (lv_at hl 4 rfl) ?_
    refine lv_iload S.1 S.2.1 d_L_law_864 (lv_at hl 0 rfl) ?_
    refine lv_iconst (v := 2) S.1 S.2.1 d_L_law_866 (by decide) ?_
    refine lv_iadd S.1 S.2.1 d_L_law_867 ?_
    refine m_scr (j := 7 * k + 2) S hX hbz hnn hw (nI_p (a := 7 * k) (b := 2)) (by omega) d_L_law_868 ?_
    refine m_ci hw (va_runV (As := [.int (xs (7 * k + 1)), .int (xs (7 * k + 2))]) (rest := []) S (c_B_trade l γ M β oa cp L σ hC hT0 (xs (7 * k + 1)) (xs (7 * k + 2))) (m_cwV 2 S g204 g205 g206 g41 g207 rfl rfl ⟨by decide +kernel, by decide +kernel, by decide +kernel⟩ ⟨(Nat.le_of_ble_eq_true rfl), (Nat.le_of_ble_eq_true rfl)⟩) (hw.preV hC.book cl_B.1) rfl rfl hl.1 rfl (lv_room (Nat.le_of_ble_eq_true rfl)) d_L_law_869 ⟨hrm.1, hrm.2⟩) (fun r1 M1 H locs hp hw => ?_)
    obtain ⟨rfl, hM1⟩ := hp
    rw [hM1] at hw
    have hC9 := hC
    have ha1 := ha
    have hR1 := hR
    refine lv_aload_n S.1 S.2.1 d_L_law_872 rfl (lv_at hl 2 rfl) ?_
    refine lv_aload_n S.1 S.2.1 d_L_law_873 rfl (lv_at hl 4 rfl) ?_
    refine lv_iload S.1 S.2.1 d_L_law_874 (lv_at hl 0 rfl) ?_
    refine lv_iconst (v := 1) S.1 S.2.1 d_L_law_876 (by decide) ?_
    refine lv_iadd S.1 S.2.1 d_L_law_877 ?_
    refine m_scr (j := 7 * k + 1) S hX hbz hnn hw (nI_p (a := 7 * k) (b := 1)) (by omega) d_L_law_878 ?_
    refine lv_aload_n S.1 S.2.1 d_L_law_879 rfl (lv_at hl 4 rfl) ?_
    refine lv_iload S.1 S.2.1 d_L_law_880 (lv_at hl 0 rfl) ?_
    refine lv_iconst (v := 2) S.1 S.2.1 d_L_law_882 (by decide) ?_
    refine lv_iadd S.1 S.2.1 d_L_law_883 ?_
    refine m_scr (j := 7 * k + 2) S hX hbz hnn hw (nI_p (a := 7 * k) (b := 2)) (by omega) d_L_law_884 ?_
    refine m_ci hw (va_runV (As := [.int (xs (7 * k + 1)), .int (xs (7 * k + 2))]) (rest := [.int (tell σ (xs (7 * k + 1)) (xs (7 * k + 2)))]) S (c_M_tradeN l γ M μ σ ε hR1 hT0 (xs (7 * k + 1)) (xs (7 * k + 2)) hj') (m_cwV 2 S g892 g893 g894 g48 g895 rfl rfl ⟨by decide +kernel, by decide +kernel, by decide +kernel⟩ ⟨(Nat.le_of_ble_eq_true rfl), (Nat.le_of_ble_eq_true rfl)⟩) (hw.preV hR1.1 cl_M.1) rfl rfl hl.1 rfl (lv_room (Nat.le_of_ble_eq_true rfl)) d_L_law_885 ⟨hrm.1, hrm.2⟩) (fun r2 M2 H locs hp hw => ?_)
    obtain ⟨rfl, hq⟩ := hp
    have hLS' := LSt.of (k := k + 1) hC9 hR1 ha1 hq hI.up hL hcp hcpl
    refine lv_icmp_eq (tgt := 932) S.1 S.2.1 d_L_law_888 rfl (fun _ => ?_) (fun h => absurd (tell_n hT0 hj') h)
    have hl := lv_sub hl [0, 1, 2, 3, 4] rfl
    exact kk M2 (stn σ) H locs ls _ _ hLS' (by omega) (by omega) hl hw
