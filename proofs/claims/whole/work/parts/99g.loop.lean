/-! The law's loop -/
theorem LSt.up {γ : mG} {M : mMap} {β : BK} {μ : RK} {a k t : Nat} (h : LSt γ M β μ a k t) : LSt γ M β μ a (k + 1) t := by
  obtain ⟨oa, cp, L, σ, ε, f, hC, hR, ha, hI, hL, hcp, hcpl, ht⟩ := h
  exact ⟨oa, cp, L, σ, ε, f, hC, hR, ha, hI.up, hL, hcp, hcpl, ht⟩
theorem LSt.tn {γ : mG} {M : mMap} {β : BK} {μ : RK} {a k t : Nat} (h : LSt γ M β μ a k t) : t ≤ 51 * k := by
  obtain ⟨oa, cp, L, σ, ε, f, hC, hR, ha, hI, hL, hcp, hcpl, ht⟩ := h
  have := hI.2.2.2.2.2.2.1
  omega
theorem lw_gt {n k : Nat} (hn : n ≤ 3584) (hk : k ≤ 512) : (nI n - 7 < nI (7 * k)) ↔ n < 7 * k + 7 := by
  rw [Int32.lt_iff_toInt_lt, Int32.toInt_sub, nI_toInt (by omega), nI_toInt (by omega), show (7 : Int32).toInt = 7 by decide, Int.bmod_def]
  omega
theorem mPcN.blind {γ : mG} {M : mMap} {As : List Value} : FrameBlind (mPcN γ M As) := by
  intro a U g mk h
  obtain ⟨h1, ⟨h2, h3⟩, h4⟩ := h
  exact ⟨h1, ⟨h2, mK.moved (u := U) (U := U.calling g mk a) (Vm.Alike.refl U.vm) (fun _ _ _ => rfl) h3⟩, va_Nw.warmM (s := U) (U := U.calling g mk a) (State.WarmedH.refl U) h4⟩
theorem mW.preNS {γ : mG} {M : mMap} {s : State} {H : Heap} {locs : List Loc} (hw : mW γ M s H locs) (hx : va_Nw nw35 s) {As : List Value} : PreS s H (mPcN γ M As) As := ⟨mPcN.blind, fun U hU hW => ⟨rfl, (hw.pre (As := []) U hU hW).2, va_Nw.warmM hW hx⟩⟩
theorem RM.new {γ : mG} {M : mMap} {μ : RK} {σ : St} {ε : RE} {q : Nat} {e : va_E} (h : RM γ M μ σ ε) (hq : M q = none) : RM γ (mU M q e) μ σ ε := ⟨mU_to (m_fne h.1 hq) h.1, fun j hj => mU_to (m_fne (h.2.1 j hj) hq) (h.2.1 j hj), h.2.2⟩
theorem frB.new {M : mMap} {q : Nat} {e : va_E} (hq : M q = none) : frB M (mU M q e) := fun b x hb _ => mU_to (m_fne hb hq) hb
set_option maxHeartbeats 4000000 in
set_option maxRecDepth 100000 in
theorem law_loop {γ : mG} {p : Program} {l : Launch} {e : Env} {s : State} {m : MethodId} {below : List Frame} {meth : Method} {c : Code} {b n : Nat} {xs : Nat → Int32} {β : BK} {μ : RK} {a : Nat} (hlT : xTr l) (C : LX γ p s m c b n xs) (hr : meth.sig.returnType = ret) (hlk : meth.locks = false) (hgz : gz γ = s.heap.size) : ∀ (d k t : Nat) (M : mMap) (H : Heap) (locs : List Loc) (ls : Array Slot) (cells slots : Nat), n < 7 * (k + d) + 7 → k ≤ 512 → LSt γ M β μ a k t → cells ≤ 100 + kC t + 3 * k → slots ≤ 127000 + kS t + 756 * k → lv_has ls 8 [(4, .int (nI (7 * k))), (3, .ref a), (2, .ref (rx μ)), (1, .ref (bx β)), (0, .ref b)] → mW γ M s H locs → W p l e room_1 s m #[.ref b] below meth c H locs cells slots (lw_Z below #[.ref b] s) (F0 m 23 ls []) := by
  obtain ⟨S, hx, hX, hbz, hnn⟩ := id C
  intro d
  induction d with
  | zero =>
    intro k t M H locs ls cells slots hd hk9 hLS hc hs hl hw
    refine lv_iload S.1 S.2.1 d_L_law_23 (lv_at hl 0 rfl) ?_
    refine lv_aload_n S.1 S.2.1 d_L_law_25 rfl (lv_at hl 4 rfl) ?_
    refine m_slen S hX hbz hw d_L_law_26 ?_
    refine lv_bipush (v := 7) S.1 S.2.1 d_L_law_27 (by decide) ?_
    refine lv_isub S.1 S.2.1 d_L_law_29 ?_
    refine lv_icmp_gt (tgt := 938) S.1 S.2.1 d_L_law_30 rfl (fun _ => ?_) (fun h => absurd ((lw_gt hnn hk9).mpr (by omega)) h)
    refine lv_iconst (v := 1) S.1 S.2.1 d_L_law_938 (by decide) ?_
    have htn := hLS.tn
    have hrm := room_ok (t := t) (k := k) (by omega) (by omega) hc hs
    refine va_forget (fun q hq => by rw [← hgz]; exact hw.2.1.2.2 q hq) ?_
    exact W.widen hrm.1 hrm.2 (lw_ret S.1 S.2.1 hr hlk d_L_law_939)
  | succ d ih =>
    intro k t M H locs ls cells slots hd hk9 hLS hc hs hl hw
    by_cases h : 7 * k + 7 ≤ n
    · have kk : Kon γ p l e s m below meth c b β μ a k := by
        intro M t H locs ls cells slots hLS hc hs hl hw
        refine lv_iinc (k := 0) (v := nI (7 * (k + 1))) S.1 S.2.1 d_L_law_932 hl rfl (show nI (7 * k) + 7 = nI (7 * (k + 1)) from nI_p (a := 7 * k) (b := 7)) (by decide) rfl (fun ls hl => ?_)
        have hl : lv_has ls 8 [(4, .int (nI (7 * (k + 1)))), (3, .ref a), (2, .ref (rx μ)), (1, .ref (bx β)), (0, .ref b)] := hl
        refine lv_goto (tgt := 23) S.1 S.2.1 d_L_law_935 rfl ?_
        have hl := lv_sub hl [0, 1, 2, 3, 4] rfl
        exact ih (k + 1) t M H locs ls cells slots (by omega) (by omega) hLS hc hs hl hw
      refine lv_iload S.1 S.2.1 d_L_law_23 (lv_at hl 0 rfl) ?_
      refine lv_aload_n S.1 S.2.1 d_L_law_25 rfl (lv_at hl 4 rfl) ?_
      refine m_slen S hX hbz hw d_L_law_26 ?_
      refine lv_bipush (v := 7) S.1 S.2.1 d_L_law_27 (by decide) ?_
      refine lv_isub S.1 S.2.1 d_L_law_29 ?_
      refine lv_icmp_gt (tgt := 938) S.1 S.2.1 d_L_law_30 rfl (fun h => absurd h (fun z => by have := (lw_gt hnn hk9).mp z; omega)) (fun _ => ?_)
      refine lv_aload_n S.1 S.2.1 d_L_law_33 rfl (lv_at hl 4 rfl) ?_
      refine lv_iload S.1 S.2.1 d_L_law_34 (lv_at hl 0 rfl) ?_
      refine m_scr (j := 7 * k) S hX hbz hnn hw rfl (by omega) d_L_law_36 ?_
      refine lv_bipush (v := 15) S.1 S.2.1 d_L_law_37 (by decide) ?_
      refine lv_iand S.1 S.2.1 d_L_law_39 ?_
      by_cases hs0 : ((xs (7 * k)) &&& 15) = 0
      · refine lv_tableIn (off := 72) (tgt := 112) S.1 S.2.1 d_L_law_40 (by rw [hs0]; decide) (by rw [hs0]; decide) (by rw [hs0]; decide) (by decide) ?_
        exact k_place hlT C h hLS hc hs hl hw kk
      by_cases hs1 : ((xs (7 * k)) &&& 15) = 1
      · refine lv_tableIn (off := 206) (tgt := 246) S.1 S.2.1 d_L_law_40 (by rw [hs1]; decide) (by rw [hs1]; decide) (by rw [hs1]; decide) (by decide) ?_
        exact k_cancel hlT C h hLS hc hs hl hw kk
      by_cases hs2 : ((xs (7 * k)) &&& 15) = 2
      · refine lv_tableIn (off := 262) (tgt := 302) S.1 S.2.1 d_L_law_40 (by rw [hs2]; decide) (by rw [hs2]; decide) (by rw [hs2]; decide) (by decide) ?_
        exact k_cancelAll hlT C h hLS hc hs hl hw kk
      by_cases hs3 : ((xs (7 * k)) &&& 15) = 3
      · refine lv_tableIn (off := 318) (tgt := 358) S.1 S.2.1 d_L_law_40 (by rw [hs3]; decide) (by rw [hs3]; decide) (by rw [hs3]; decide) (by decide) ?_
        exact k_amend hlT C h hLS hc hs hl hw kk
      by_cases hs4 : ((xs (7 * k)) &&& 15) = 4
      · refine lv_tableIn (off := 405) (tgt := 445) S.1 S.2.1 d_L_law_40 (by rw [hs4]; decide) (by rw [hs4]; decide) (by rw [hs4]; decide) (by decide) ?_
        exact k_open hlT C h hLS hc hs hl hw kk
      by_cases hs5 : ((xs (7 * k)) &&& 15) = 5
      · refine lv_tableIn (off := 448) (tgt := 488) S.1 S.2.1 d_L_law_40 (by rw [hs5]; decide) (by rw [hs5]; decide) (by rw [hs5]; decide) (by decide) ?_
        exact k_call hlT C h hLS hc hs hl hw kk
      by_cases hs6 : ((xs (7 * k)) &&& 15) = 6
      · refine lv_tableIn (off := 461) (tgt := 501) S.1 S.2.1 d_L_law_40 (by rw [hs6]; decide) (by rw [hs6]; decide) (by rw [hs6]; decide) (by decide) ?_
        exact k_band hlT C h hLS hc hs hl hw kk
      by_cases hs7 : ((xs (7 * k)) &&& 15) = 7
      · refine lv_tableIn (off := 529) (tgt := 569) S.1 S.2.1 d_L_law_40 (by rw [hs7]; decide) (by rw [hs7]; decide) (by rw [hs7]; decide) (by decide) ?_
        exact k_clearing hlT C h hLS hc hs hl hw kk
      by_cases hs8 : ((xs (7 * k)) &&& 15) = 8
      · refine lv_tableIn (off := 584) (tgt := 624) S.1 S.2.1 d_L_law_40 (by rw [hs8]; decide) (by rw [hs8]; decide) (by rw [hs8]; decide) (by decide) ?_
        exact k_order hlT C h hLS hc hs hl hw kk
      by_cases hs9 : ((xs (7 * k)) &&& 15) = 9
      · refine lv_tableIn (off := 652) (tgt := 692) S.1 S.2.1 d_L_law_40 (by rw [hs9]; decide) (by rw [hs9]; decide) (by rw [hs9]; decide) (by decide) ?_
        exact k_at hlT C h hLS hc hs hl hw kk
      by_cases hs10 : ((xs (7 * k)) &&& 15) = 10
      · refine lv_tableIn (off := 705) (tgt := 745) S.1 S.2.1 d_L_law_40 (by rw [hs10]; decide) (by rw [hs10]; decide) (by rw [hs10]; decide) (by decide) ?_
        exact k_depth hlT C h hLS hc hs hl hw kk
      by_cases hs11 : ((xs (7 * k)) &&& 15) = 11
      · refine lv_tableIn (off := 816) (tgt := 856) S.1 S.2.1 d_L_law_40 (by rw [hs11]; decide) (by rw [hs11]; decide) (by rw [hs11]; decide) (by decide) ?_
        exact k_trade hlT C h hLS hc hs hl hw kk
      by_cases hs12 : ((xs (7 * k)) &&& 15) = 12
      · refine lv_tableIn (off := 853) (tgt := 893) S.1 S.2.1 d_L_law_40 (by rw [hs12]; decide) (by rw [hs12]; decide) (by rw [hs12]; decide) (by decide) ?_
        exact k_told hlT C h hLS hc hs hl hw kk
      by_cases hs13 : ((xs (7 * k)) &&& 15) = 13
      · refine lv_tableIn (off := 879) (tgt := 919) S.1 S.2.1 d_L_law_40 (by rw [hs13]; decide) (by rw [hs13]; decide) (by rw [hs13]; decide) (by decide) ?_
        exact k_astray hlT C h hLS hc hs hl hw kk
      refine lv_tableOut (tgt := 932) S.1 S.2.1 d_L_law_40 (by have q0 := lv_neT hs0 (show (0 : Int32).toInt = 0 by decide); have q1 := lv_neT hs1 (show (1 : Int32).toInt = 1 by decide); have q2 := lv_neT hs2 (show (2 : Int32).toInt = 2 by decide); have q3 := lv_neT hs3 (show (3 : Int32).toInt = 3 by decide); have q4 := lv_neT hs4 (show (4 : Int32).toInt = 4 by decide); have q5 := lv_neT hs5 (show (5 : Int32).toInt = 5 by decide); have q6 := lv_neT hs6 (show (6 : Int32).toInt = 6 by decide); have q7 := lv_neT hs7 (show (7 : Int32).toInt = 7 by decide); have q8 := lv_neT hs8 (show (8 : Int32).toInt = 8 by decide); have q9 := lv_neT hs9 (show (9 : Int32).toInt = 9 by decide); have q10 := lv_neT hs10 (show (10 : Int32).toInt = 10 by decide); have q11 := lv_neT hs11 (show (11 : Int32).toInt = 11 by decide); have q12 := lv_neT hs12 (show (12 : Int32).toInt = 12 by decide); have q13 := lv_neT hs13 (show (13 : Int32).toInt = 13 by decide); omega) (by decide) ?_
      exact kk M t H locs ls cells slots hLS.up (by omega) (by omega) hl hw
    · refine lv_iload S.1 S.2.1 d_L_law_23 (lv_at hl 0 rfl) ?_
      refine lv_aload_n S.1 S.2.1 d_L_law_25 rfl (lv_at hl 4 rfl) ?_
      refine m_slen S hX hbz hw d_L_law_26 ?_
      refine lv_bipush (v := 7) S.1 S.2.1 d_L_law_27 (by decide) ?_
      refine lv_isub S.1 S.2.1 d_L_law_29 ?_
      refine lv_icmp_gt (tgt := 938) S.1 S.2.1 d_L_law_30 rfl (fun _ => ?_) (fun h => absurd ((lw_gt hnn hk9).mpr (by omega)) h)
      refine lv_iconst (v := 1) S.1 S.2.1 d_L_law_938 (by decide) ?_
      have htn := hLS.tn
      have hrm := room_ok (t := t) (k := k) (by omega) (by omega) hc hs
      refine va_forget (fun q hq => by rw [← hgz]; exact hw.2.1.2.2 q hq) ?_
      exact W.widen hrm.1 hrm.2 (lw_ret S.1 S.2.1 hr hlk d_L_law_939)
set_option maxHeartbeats 4000000 in
set_option maxRecDepth 100000 in
theorem whole_start {p : Program} {e : Env} {s : State} {m : MethodId} {below : List Frame} {meth : Method} {c : Code} (l : Launch) (hl9 : xTr l) {b L : Nat} {xs : Nat → Int32} (hL : L ≤ 3584) (C0 : lw_At p s m meth c b L xs) : W p l e room_1 s m #[Value.ref b] below meth c s.heap [] 0 0 (lw_Z below #[Value.ref b] s) (entryFrame m ([Value.ref b] : List Value).toArray 8) := by
  obtain ⟨hx0, hb0, hr, hml, hown, hts, hX, hbl, hlk, hgv⟩ := C0
  obtain ⟨γ, hgz, hK, hEX, hnw⟩ := lw_gamma hts hgv
  have S : CallFix p m c code 8 s #[Value.ref b] (Cond.tt :: GG) LB := ⟨hx0, hb0, hml, hown, List.forall_mem_cons.mpr ⟨rfl, fun w hw => hts w (List.mem_filter.mp hw).1⟩⟩
  have hw : mW γ (fun _ => none) s s.heap [] := mW.of ⟨by rw [hgz]; exact Nat.le_refl _, [], fun a e h => (by cases h), fun k q h => (by cases h), ⟨fun i j p q h => (by cases h), fun k q h => (by cases h)⟩⟩ hK
  have hl := lv_entry [Value.ref b] (n := 8) (Nat.le_of_ble_eq_true rfl)
  rw [lg_entry_eq]
  obtain ⟨ls, hls⟩ : ∃ z, z = (lg_sl [Value.ref b] ++ List.replicate (8 - (lg_sl [Value.ref b]).length) Slot.unset).toArray := ⟨_, rfl⟩
  rw [← hls] at hl ⊢
  have hl : lv_has ls 8 [(0, .ref b)] := hl
  refine m_new (fs := [.null, .null, .null, .null, .null, .int 0, .int 0, .int 0, .int 0]) S hw cl_B g62 g63 g41 (fun j hj => by rcases (show j = 0 ∨ j = 1 ∨ j = 2 ∨ j = 3 ∨ j = 4 ∨ j = 5 ∨ j = 6 ∨ j = 7 ∨ j = 8 by omega) with rfl | rfl | rfl | rfl | rfl | rfl | rfl | rfl | rfl <;> rfl) (Nat.le_of_ble_eq_true rfl) (Nat.le_of_ble_eq_true rfl) d_L_law_0 (fun q H hq hzq hw => ?_)
  refine lv_dup S.1 S.2.1 d_L_law_3 rfl ?_
  refine m_cv hw (va_runI (As := []) (rest := [.ref q]) S (c_B_init l γ _ q (mU_eq _ _ _)) (m_cwI 0 S g64 g65 g41 g66 rfl rfl rfl ⟨by decide +kernel, by decide +kernel, by decide +kernel⟩ ⟨(Nat.le_of_ble_eq_true rfl), (Nat.le_of_ble_eq_true rfl)⟩) (hw.preNS hnw) rfl rfl hl.1 rfl (lv_room (Nat.le_of_ble_eq_true rfl)) d_L_law_4 ⟨(Nat.le_of_ble_eq_true rfl), (Nat.le_of_ble_eq_true rfl)⟩) (fun M1 H1 locs1 hp hw1 => ?_)
  obtain ⟨β, hbx, hC, -⟩ := hp
  subst hbx
  have hw := hw1
  refine lv_astore_n S.1 S.2.1 d_L_law_7 rfl hl (by decide) rfl (fun ls hl => ?_)
  have hl : lv_has ls 8 [(1, .ref (bx β)), (0, .ref b)] := hl
  refine m_new (fs := [.int 0, .int 0, .int 0, .int 0, .int 0, .int 0, .null, .null, .null, .null, .null, .null, .null, .null, .null, .int 0, .null, .null, .null, .null, .long 0, .null, .null, .int 0, .long 0, .long 0]) S hw cl_M g682 g683 g48 (fun j hj => by rcases (show j = 0 ∨ j = 1 ∨ j = 2 ∨ j = 3 ∨ j = 4 ∨ j = 5 ∨ j = 6 ∨ j = 7 ∨ j = 8 ∨ j = 9 ∨ j = 10 ∨ j = 11 ∨ j = 12 ∨ j = 13 ∨ j = 14 ∨ j = 15 ∨ j = 16 ∨ j = 17 ∨ j = 18 ∨ j = 19 ∨ j = 20 ∨ j = 21 ∨ j = 22 ∨ j = 23 ∨ j = 24 ∨ j = 25 by omega) with rfl | rfl | rfl | rfl | rfl | rfl | rfl | rfl | rfl | rfl | rfl | rfl | rfl | rfl | rfl | rfl | rfl | rfl | rfl | rfl | rfl | rfl | rfl | rfl | rfl | rfl <;> rfl) (Nat.le_of_ble_eq_true rfl) (Nat.le_of_ble_eq_true rfl) d_L_law_8 (fun q2 H hq2 hzq2 hw => ?_)
  refine lv_dup S.1 S.2.1 d_L_law_11 rfl ?_
  refine m_cv hw (va_runI (As := []) (rest := [.ref q2]) S (c_M_init l γ _ q2 (mU_eq _ _ _)) (m_cwI 0 S g684 g685 g48 g686 rfl rfl rfl ⟨by decide +kernel, by decide +kernel, by decide +kernel⟩ ⟨(Nat.le_of_ble_eq_true rfl), (Nat.le_of_ble_eq_true rfl)⟩) hw.preS rfl rfl hl.1 rfl (lv_room (Nat.le_of_ble_eq_true rfl)) d_L_law_12 ⟨(Nat.le_of_ble_eq_true rfl), (Nat.le_of_ble_eq_true rfl)⟩) (fun M3 H locs hp hw => ?_)
  obtain ⟨ra9, hR, hk3⟩ := hp
  have hC3 : CB γ M3 β (fun _ => 0) (fun _ => 0) (fun _ => []) σ0 := (hC.frB (frB.new hq2)).frB (fun b9 e9 h1 h2 => hk3 b9 e9 (fun z => by rw [z, mU_eq] at h1; cases h1; exact h2 rfl) h1)
  refine lv_astore_n S.1 S.2.1 d_L_law_15 rfl hl (by decide) rfl (fun ls hl => ?_)
  have hl : lv_has ls 8 [(2, .ref q2), (1, .ref (bx β)), (0, .ref b)] := hl
  refine lv_iconst (v := 1) S.1 S.2.1 d_L_law_16 (by decide) ?_
  refine m_newa (atype := .long) (a0 := (1, .inr (.inl (fun _ => 0)))) (N' := 1) S hw g769 2 rfl (ini_l 1) (by decide) (by decide) (by decide) (Nat.le_of_ble_eq_true rfl) (Nat.le_of_ble_eq_true rfl) d_L_law_17 (fun q3 H hq3 hz3 hw => ?_)
  refine lv_astore_n S.1 S.2.1 d_L_law_19 rfl hl (by decide) rfl (fun ls hl => ?_)
  have hl : lv_has ls 8 [(3, .ref q3), (2, .ref q2), (1, .ref (bx β)), (0, .ref b)] := hl
  refine lv_iconst (v := 0) S.1 S.2.1 d_L_law_20 (by decide) ?_
  refine W.eq (g2 := F0 m 21 ls [.int (nI (7 * 0))]) (congrArg (fun z => F0 m 21 ls [.int z]) nI_0.symm) ?_
  refine lv_istore S.1 S.2.1 d_L_law_21 hl (by decide) rfl (fun ls hl => ?_)
  have hl : lv_has ls 8 [(4, .int (nI (7 * 0))), (3, .ref q3), (2, .ref q2), (1, .ref (bx β)), (0, .ref b)] := hl
  have hl := lv_sub hl [0, 1, 2, 3, 4] rfl
  have hLS : LSt γ (mU M3 q3 (ouc γ (fun _ => 0))) β (q2, ra9) q3 0 0 := ⟨_, _, _, σ0, ε0, _, hC3.frB (frB.new hq3), hR.new hq3, mU_eq _ _ _, rin_0, ⟨⟨fun o => ⟨fun h => absurd h List.not_mem_nil, fun h => absurd h.1 (Nat.not_lt_zero _)⟩, List.Pairwise.nil⟩, ⟨fun o => ⟨fun h => absurd h List.not_mem_nil, fun h => absurd h.1 (Nat.not_lt_zero _)⟩, List.Pairwise.nil⟩⟩, rfl, fun _ _ => Nat.zero_le _, rfl⟩
  exact law_loop (μ := (q2, ra9)) hl9 ⟨S, hEX, hX, by rw [hgz]; exact hbl, hL⟩ hr hlk hgz 512 0 0 _ H locs ls _ _ (by omega) (by omega) hLS (Nat.le_of_ble_eq_true rfl) (Nat.le_of_ble_eq_true rfl) hl hw
