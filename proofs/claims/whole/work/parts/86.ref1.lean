/-! The reference: small methods -/
section RPUT
variable {p : Program} {l : Launch} {e : Env} {R : Room} {s : State} {m : MethodId} {args : Array Value} {below : List Frame} {meth : Method} {c : Code} {H : Heap} {locs : List Loc} {cells slots : Nat} {Q : State → Prop}
variable {cc : ByteArray} {pc nL : Nat} {ls : Array Slot} {rest : List Value} {γ : mG} {M0 M : mMap} {c0 : Cond} {μ : RK} {σ σ' : St} {ε ε' : RE}
theorem m_rput (S : CallFix p m c cc nL s args (c0 :: GG) "CallBookModel") (hw : mW γ M s H locs) (hR : RQ γ M0 M μ σ ε) (k : Nat) (hk : k < 26) {index : Nat} (hl : Cond.fieldLink "CallBookModel" index (T_M k).1 (T_M k).2.1 (T_M k).2.2.1 ∈ GG) (hfin : (T_M k).2.2.2 = false) {v : Value} (hn : narrow (t_M k) v = v) (hfit : fits (t_M k) v = true) (hdg : decode cc pc = .ok (.putfield index, 3))
    (he : (rmc μ σ ε).set k v = rmc μ σ' ε') (ho : ∀ i, i < 15 → rcell γ σ' ε' i = rcell γ σ ε i)
    (kk : ∀ (H : Heap) (locs : List Loc) (M : mMap), RQ γ M0 M μ σ' ε' → mW γ M s H locs → W p l e R s m args below meth c H locs cells slots Q (F0 m (pc + 3) ls rest)) : W p l e R s m args below meth c H locs cells slots Q (F0 m pc ls (v :: .ref (rx μ) :: rest)) :=
  m_put S hw cl_M hR.obj k hk hl (fun _ h => h) hfin hn hfit (by show k < 26; exact hk) hdg (fun H1 l1 hw1 => kk H1 l1 _ (hR.put (by rw [he]) ho) hw1)
end RPUT
def aM (x : Int64) : Int64 := if x < 0 then -x else x
def isB (σ : St) (p : Int32) : Bool := decide (0 < sbd σ) && decide ((sbd σ).toInt64 < aM (p - srf σ).toInt64)
/-- the band's numbers are in order -/
def BD (σ : St) : Prop := (1 ≤ (srf σ).toInt ∧ (srf σ).toInt ≤ 2000) ∧ 0 ≤ (sbd σ).toInt ∧ (sbd σ).toInt ≤ 2000
theorem aM_int {x : Int64} (h : -100000 ≤ x.toInt) : (aM x).toInt = if x.toInt < 0 then -x.toInt else x.toInt := by
  unfold aM
  by_cases hx : x < 0
  · have h1 := Int64.lt_iff_toInt_lt.mp hx
    rw [show (0 : Int64).toInt = 0 by decide] at h1
    rw [if_pos hx, if_pos h1, Int64.toInt_neg, Int.bmod_def]
    have := Int64.toInt_lt x
    omega
  · have h1 := fun z => hx (Int64.lt_iff_toInt_lt.mpr (show x.toInt < (0 : Int64).toInt by rw [show (0 : Int64).toInt = 0 by decide]; exact z))
    rw [if_neg hx, if_neg h1]
theorem aI_int {x : Int32} (h : -100000 ≤ x.toInt) : (aI x).toInt = if x.toInt < 0 then -x.toInt else x.toInt := by
  unfold aI
  by_cases hx : 0 ≤ x
  · have h1 := Int32.le_iff_toInt_le.mp hx
    rw [show (0 : Int32).toInt = 0 by decide] at h1
    rw [if_pos hx, if_neg (by omega)]
  · have h1 := Int32.lt_iff_toInt_lt.mp (Int32.not_le.mp hx)
    rw [show (0 : Int32).toInt = 0 by decide] at h1
    rw [if_neg hx, if_pos h1, Int32.toInt_sub, show (0 : Int32).toInt = 0 by decide, Int.bmod_def]
    have := Int32.toInt_lt x
    omega
theorem isB_byc {σ : St} (hB : BD σ) {p : Int32} (hp : 0 ≤ p.toInt ∧ p.toInt ≤ 2000) : isB σ p = byc (srf σ) (sbd σ) p := by
  obtain ⟨⟨r1, r2⟩, b1, b2⟩ := hB
  have hs : (p - srf σ).toInt = p.toInt - (srf σ).toInt := by rw [Int32.toInt_sub, Int.bmod_def]; omega
  have h1 := aI_int (x := p - srf σ) (by omega)
  have h2 := aM_int (x := (p - srf σ).toInt64) (by rw [Int32.toInt_toInt64]; omega)
  rw [Int32.toInt_toInt64] at h2
  unfold isB byc
  have e1 : decide (0 < sbd σ) = decide (¬ sbd σ = 0) := by
    refine decide_eq_decide.mpr ⟨fun h z => ?_, fun h => Int32.lt_iff_toInt_lt.mpr ?_⟩
    · rw [z] at h; exact absurd h (by decide)
    · have : (sbd σ).toInt ≠ 0 := fun z => h (Int32.toInt_inj.mp (z.trans (show (0 : Int32).toInt = 0 by decide).symm))
      rw [show (0 : Int32).toInt = 0 by decide]; omega
  have e2 : decide ((sbd σ).toInt64 < aM (p - srf σ).toInt64) = decide (sbd σ < aI (p - srf σ)) := by
    refine decide_eq_decide.mpr ?_
    rw [Int64.lt_iff_toInt_lt, Int32.lt_iff_toInt_lt, h1, h2, Int32.toInt_toInt64]
  rw [e1, e2]
set_option maxHeartbeats 4000000 in
set_option maxRecDepth 100000 in
theorem c_M_thrown (l : Launch) (γ : mG) (M : mMap) (μ : RK) (σ : St) (ε : RE) (hR : RM γ M μ σ ε)  : Met l y_M_thrown w_M_thrown ({ frames := 0, cells := 0, slots := 0, locals := 0 } : Room) (mPc γ M [.ref (rx μ)]) (mQi γ (fun r M' => r = ε.1 ∧ M' = M)) 0 0 (mA (gz γ)) := by
  refine m_enter (by decide) (Nat.le_of_ble_eq_true rfl) ?_
  intro p e s m below meth c ls S hr hlk hnm hl hw
  have hl : lv_has ls 1 [(0, .ref (rx μ))] := hl
  have hR := hR.q
  refine lv_aload_n S.1 S.2.1 d_M_thrown_0 rfl (lv_at hl 0 rfl) ?_
  refine m_get S hw cl_M hR.obj 0 (by decide) g688 (fun _ h => h) rfl d_M_thrown_1 ?_
  exact m_iret S hlk hr rfl hw (⟨rfl, rfl⟩) (Nat.le_refl _) (Nat.le_refl _) d_M_thrown_4
set_option maxHeartbeats 4000000 in
set_option maxRecDepth 100000 in
theorem c_M_in (l : Launch) (γ : mG) (M : mMap) (x0 lo hi : Int32) : Met l y_M_in w_M_in ({ frames := 0, cells := 0, slots := 0, locals := 0 } : Room) (mPc γ M [.int x0, .int lo, .int hi]) (mQi γ (fun r M' => r = b2i (rg lo hi x0) ∧ M' = M)) 0 0 (mA (gz γ)) := by
  refine m_enter (by decide) (Nat.le_of_ble_eq_true rfl) ?_
  intro p e s m below meth c ls S hr hlk hnm hl hw
  have hl : lv_has ls 3 [(0, .int x0), (1, .int lo), (2, .int hi)] := hl
  refine lv_iload_n S.1 S.2.1 d_M_in_0 rfl (lv_at hl 0 rfl) ?_
  refine lv_iload_n S.1 S.2.1 d_M_in_1 rfl (lv_at hl 1 rfl) ?_
  refine lv_icmp_lt (tgt := 14) S.1 S.2.1 d_M_in_2 rfl (fun h2 => ?_) (fun h2 => ?_)
  · refine lv_iconst (v := 0) S.1 S.2.1 d_M_in_14 (by decide) ?_
    exact m_iret S hlk hr rfl hw (⟨(congrArg b2i (show rg lo hi x0 = false from rg_lo h2)).symm, rfl⟩) (Nat.le_refl _) (Nat.le_refl _) d_M_in_15
  · refine lv_iload_n S.1 S.2.1 d_M_in_5 rfl (lv_at hl 0 rfl) ?_
    refine lv_iload_n S.1 S.2.1 d_M_in_6 rfl (lv_at hl 2 rfl) ?_
    refine lv_icmp_gt (tgt := 14) S.1 S.2.1 d_M_in_7 rfl (fun h7 => ?_) (fun h7 => ?_)
    · refine lv_iconst (v := 0) S.1 S.2.1 d_M_in_14 (by decide) ?_
      exact m_iret S hlk hr rfl hw (⟨(congrArg b2i (show rg lo hi x0 = false from rg_hi h7)).symm, rfl⟩) (Nat.le_refl _) (Nat.le_refl _) d_M_in_15
    · refine lv_iconst (v := 1) S.1 S.2.1 d_M_in_10 (by decide) ?_
      refine lv_goto (tgt := 15) S.1 S.2.1 d_M_in_11 rfl ?_
      exact m_iret S hlk hr rfl hw (⟨(congrArg b2i (show rg lo hi x0 = true from rg_in h2 h7)).symm, rfl⟩) (Nat.le_refl _) (Nat.le_refl _) d_M_in_15
set_option maxHeartbeats 4000000 in
set_option maxRecDepth 100000 in
theorem c_M_abs (l : Launch) (γ : mG) (M : mMap) (x0 : Int64) : Met l y_M_abs w_M_abs ({ frames := 0, cells := 0, slots := 0, locals := 0 } : Room) (mPc γ M [.long x0]) (mQl γ (fun r M' => r = aM x0 ∧ M' = M)) 0 0 (mA (gz γ)) := by
  refine m_enter (by decide) (Nat.le_of_ble_eq_true rfl) ?_
  intro p e s m below meth c ls S hr hlk hnm hl hw
  have hl : lv_has ls 2 [(0, .long x0)] := hl
  refine lv_lload_n S.1 S.2.1 d_M_abs_0 rfl (lv_at hl 0 rfl) ?_
  refine lv_lconst (v := 0) S.1 S.2.1 d_M_abs_1 (by decide) ?_
  refine W.lcmp S.1 S.2.1 d_M_abs_2 ?_
  refine lv_if_ge (tgt := 11) S.1 S.2.1 d_M_abs_3 rfl (fun h3 => ?_) (fun h3 => ?_)
  · refine lv_lload_n S.1 S.2.1 d_M_abs_11 rfl (lv_at hl 0 rfl) ?_
    exact m_lret S hlk hr hw (⟨(show aM x0 = x0 from if_neg (Int64.not_lt.mpr ((lg_cmp_ge _ _).mp h3))).symm, rfl⟩) (Nat.le_refl _) (Nat.le_refl _) d_M_abs_12
  · refine lv_lload_n S.1 S.2.1 d_M_abs_6 rfl (lv_at hl 0 rfl) ?_
    refine lv_lneg S.1 S.2.1 d_M_abs_7 ?_
    refine lv_goto (tgt := 12) S.1 S.2.1 d_M_abs_8 rfl ?_
    exact m_lret S hlk hr hw (⟨(show aM x0 = -x0 from if_pos (Int64.not_le.mp (fun z => h3 ((lg_cmp_ge _ _).mpr z)))).symm, rfl⟩) (Nat.le_refl _) (Nat.le_refl _) d_M_abs_12
set_option maxHeartbeats 4000000 in
set_option maxRecDepth 100000 in
theorem c_M_isOrder (l : Launch) (γ : mG) (M : mMap) (μ : RK) (σ : St) (ε : RE) (hR : RM γ M μ σ ε) (x0 : Int32) : Met l y_M_isOrder w_M_isOrder ({ frames := 1, cells := 0, slots := 0, locals := 22 } : Room) (mPc γ M [.ref (rx μ), .int x0]) (mQi γ (fun r M' => r = b2i (rg 0 (nI (sn σ) - 1) x0) ∧ M' = M)) 0 0 (mA (gz γ)) := by
  refine m_enter (by decide) (Nat.le_of_ble_eq_true rfl) ?_
  intro p e s m below meth c ls S hr hlk hnm hl hw
  have hl : lv_has ls 2 [(0, .ref (rx μ)), (1, .int x0)] := hl
  have hR := hR.q
  refine lv_iload_n S.1 S.2.1 d_M_isOrder_0 rfl (lv_at hl 1 rfl) ?_
  refine lv_iconst (v := 0) S.1 S.2.1 d_M_isOrder_1 (by decide) ?_
  refine lv_aload_n S.1 S.2.1 d_M_isOrder_2 rfl (lv_at hl 0 rfl) ?_
  refine m_get S hw cl_M hR.obj 5 (by decide) g693 (fun _ h => h) rfl d_M_isOrder_3 ?_
  refine lv_iconst (v := 1) S.1 S.2.1 d_M_isOrder_6 (by decide) ?_
  refine lv_isub S.1 S.2.1 d_M_isOrder_7 ?_
  refine m_ci hw (va_runS (As := [.int x0, .int 0, .int ((nI (sn σ)) - 1)]) (rest := []) S (c_M_in l γ M x0 0 ((nI (sn σ)) - 1)) (m_cwS 3 S g778 g779 g48 g780 rfl rfl ⟨by decide +kernel, by decide +kernel, by decide +kernel⟩ ⟨(Nat.le_of_ble_eq_true rfl), (Nat.le_of_ble_eq_true rfl)⟩) hw.preS rfl rfl hl.1 rfl (lv_room (Nat.le_of_ble_eq_true rfl)) d_M_isOrder_8 ⟨(Nat.zero_le _), (Nat.zero_le _)⟩) (fun r1 M1 H locs hp hw => ?_)
  obtain ⟨rfl, hM1⟩ := hp
  rw [hM1] at hw
  exact m_iret S hlk hr (b2i_nar _) hw (⟨rfl, rfl⟩) (Nat.le_refl _) (Nat.le_refl _) d_M_isOrder_11
set_option maxHeartbeats 4000000 in
set_option maxRecDepth 100000 in
theorem c_M_isBefore (l : Launch) (γ : mG) (M : mMap) (μ : RK) (σ : St) (ε : RE) (hR : RM γ M μ σ ε) (hn : sn σ ≤ 250) (a b : Nat) (ha : a < sn σ) (hb : b < sn σ) : Met l y_M_isBefore w_M_isBefore ({ frames := 0, cells := 0, slots := 0, locals := 0 } : Room) (mPc γ M [.ref (rx μ), .int (nI a), .int (nI b)]) (mQi γ (fun r M' => r = b2i (bf (sI σ) a b) ∧ M' = M)) 0 0 (mA (gz γ)) := by
  refine m_enter (by decide) (Nat.le_of_ble_eq_true rfl) ?_
  intro p e s m below meth c ls S hr hlk hnm hl hw
  have hl : lv_has ls 4 [(0, .ref (rx μ)), (1, .int (nI a)), (2, .int (nI b))] := hl
  have hR := hR.q
  refine lv_aload_n S.1 S.2.1 d_M_isBefore_0 rfl (lv_at hl 0 rfl) ?_
  refine m_get S hw cl_M hR.obj 8 (by decide) g696 (fun _ h => h) rfl d_M_isBefore_1 ?_
  refine lv_iload_n S.1 S.2.1 d_M_isBefore_4 rfl (lv_at hl 1 rfl) ?_
  refine m_rld (o := a) S hw hR 2 (by decide) (by omega) d_M_isBefore_5 ?_
  refine lv_aload_n S.1 S.2.1 d_M_isBefore_6 rfl (lv_at hl 0 rfl) ?_
  refine m_get S hw cl_M hR.obj 8 (by decide) g696 (fun _ h => h) rfl d_M_isBefore_7 ?_
  refine lv_iload_n S.1 S.2.1 d_M_isBefore_10 rfl (lv_at hl 2 rfl) ?_
  refine m_rld (o := b) S hw hR 2 (by decide) (by omega) d_M_isBefore_11 ?_
  refine lv_icmp_ne (tgt := 36) S.1 S.2.1 d_M_isBefore_12 rfl (fun h12 => ?_) (fun h12 => ?_)
  · refine lv_aload_n S.1 S.2.1 d_M_isBefore_36 rfl (lv_at hl 0 rfl) ?_
    refine m_get S hw cl_M hR.obj 7 (by decide) g695 (fun _ h => h) rfl d_M_isBefore_37 ?_
    refine lv_iload_n S.1 S.2.1 d_M_isBefore_40 rfl (lv_at hl 1 rfl) ?_
    refine m_rldz (o := a) S hw hR (by omega) d_M_isBefore_41 ?_
    refine lv_if_eq (tgt := 68) S.1 S.2.1 d_M_isBefore_42 rfl (fun h42 => ?_) (fun h42 => ?_)
    · refine lv_aload_n S.1 S.2.1 d_M_isBefore_68 rfl (lv_at hl 0 rfl) ?_
      refine m_get S hw cl_M hR.obj 8 (by decide) g696 (fun _ h => h) rfl d_M_isBefore_69 ?_
      refine lv_iload_n S.1 S.2.1 d_M_isBefore_72 rfl (lv_at hl 1 rfl) ?_
      refine m_rld (o := a) S hw hR 2 (by decide) (by omega) d_M_isBefore_73 ?_
      refine lv_aload_n S.1 S.2.1 d_M_isBefore_74 rfl (lv_at hl 0 rfl) ?_
      refine m_get S hw cl_M hR.obj 8 (by decide) g696 (fun _ h => h) rfl d_M_isBefore_75 ?_
      refine lv_iload_n S.1 S.2.1 d_M_isBefore_78 rfl (lv_at hl 2 rfl) ?_
      refine m_rld (o := b) S hw hR 2 (by decide) (by omega) d_M_isBefore_79 ?_
      refine lv_icmp_ge (tgt := 87) S.1 S.2.1 d_M_isBefore_80 rfl (fun h80 => ?_) (fun h80 => ?_)
      · refine lv_iconst (v := 0) S.1 S.2.1 d_M_isBefore_87 (by decide) ?_
        refine lv_istore_n S.1 S.2.1 d_M_isBefore_88 rfl hl (by decide) rfl (fun ls hl => ?_)
        have hl : lv_has ls 4 [(3, .int 0), (0, .ref (rx μ)), (1, .int (nI a)), (2, .int (nI b))] := hl
        refine lv_aload_n S.1 S.2.1 d_M_isBefore_89 rfl (lv_at hl 1 rfl) ?_
        refine m_get S hw cl_M hR.obj 8 (by decide) g696 (fun _ h => h) rfl d_M_isBefore_90 ?_
        refine lv_iload_n S.1 S.2.1 d_M_isBefore_93 rfl (lv_at hl 2 rfl) ?_
        refine m_rld (o := a) S hw hR 2 (by decide) (by omega) d_M_isBefore_94 ?_
        refine lv_if_eq (tgt := 111) S.1 S.2.1 d_M_isBefore_95 rfl (fun h95 => ?_) (fun h95 => ?_)
        · refine lv_iconst (v := 1) S.1 S.2.1 d_M_isBefore_111 (by decide) ?_
          refine lv_goto (tgt := 116) S.1 S.2.1 d_M_isBefore_112 rfl ?_
          exact m_iret S hlk hr rfl hw (⟨(congrArg b2i (show bf (sI σ) a b = true from (if_neg h12).trans (by rw [decide_eq_true h95, Bool.true_or]))).symm, rfl⟩) (Nat.le_refl _) (Nat.le_refl _) d_M_isBefore_116
        · refine lv_aload_n S.1 S.2.1 d_M_isBefore_98 rfl (lv_at hl 1 rfl) ?_
          refine m_get S hw cl_M hR.obj 8 (by decide) g696 (fun _ h => h) rfl d_M_isBefore_99 ?_
          refine lv_iload_n S.1 S.2.1 d_M_isBefore_102 rfl (lv_at hl 3 rfl) ?_
          refine m_rld (o := b) S hw hR 2 (by decide) (by omega) d_M_isBefore_103 ?_
          refine lv_if_le (tgt := 115) S.1 S.2.1 d_M_isBefore_104 rfl (fun h104 => ?_) (fun h104 => ?_)
          · refine lv_iconst (v := 0) S.1 S.2.1 d_M_isBefore_115 (by decide) ?_
            exact m_iret S hlk hr rfl hw (⟨(congrArg b2i (show bf (sI σ) a b = false from (if_neg h12).trans (by rw [decide_eq_false h95, Bool.false_or, decide_eq_false (Int32.not_lt.mpr h104), Bool.false_and]))).symm, rfl⟩) (Nat.le_refl _) (Nat.le_refl _) d_M_isBefore_116
          · refine lv_iload_n S.1 S.2.1 d_M_isBefore_107 rfl (lv_at hl 0 rfl) ?_
            refine lv_if_eq (tgt := 115) S.1 S.2.1 d_M_isBefore_108 rfl (fun _ => ?_) (fun h => absurd (show (0 : Int32) = 0 from rfl) h)
            refine lv_iconst (v := 0) S.1 S.2.1 d_M_isBefore_115 (by decide) ?_
            exact m_iret S hlk hr rfl hw (⟨(congrArg b2i (show bf (sI σ) a b = false from (if_neg h12).trans (by rw [decide_eq_false h95, Bool.false_or, decide_eq_true (Int32.not_le.mp h104), Bool.true_and, if_pos h42, decide_eq_false (Int32.not_lt.mpr h80)]))).symm, rfl⟩) (Nat.le_refl _) (Nat.le_refl _) d_M_isBefore_116
      · refine lv_iconst (v := 1) S.1 S.2.1 d_M_isBefore_83 (by decide) ?_
        refine lv_goto (tgt := 88) S.1 S.2.1 d_M_isBefore_84 rfl ?_
        refine lv_istore_n S.1 S.2.1 d_M_isBefore_88 rfl hl (by decide) rfl (fun ls hl => ?_)
        have hl : lv_has ls 4 [(3, .int 1), (0, .ref (rx μ)), (1, .int (nI a)), (2, .int (nI b))] := hl
        refine lv_aload_n S.1 S.2.1 d_M_isBefore_89 rfl (lv_at hl 1 rfl) ?_
        refine m_get S hw cl_M hR.obj 8 (by decide) g696 (fun _ h => h) rfl d_M_isBefore_90 ?_
        refine lv_iload_n S.1 S.2.1 d_M_isBefore_93 rfl (lv_at hl 2 rfl) ?_
        refine m_rld (o := a) S hw hR 2 (by decide) (by omega) d_M_isBefore_94 ?_
        refine lv_if_eq (tgt := 111) S.1 S.2.1 d_M_isBefore_95 rfl (fun h95 => ?_) (fun h95 => ?_)
        · refine lv_iconst (v := 1) S.1 S.2.1 d_M_isBefore_111 (by decide) ?_
          refine lv_goto (tgt := 116) S.1 S.2.1 d_M_isBefore_112 rfl ?_
          exact m_iret S hlk hr rfl hw (⟨(congrArg b2i (show bf (sI σ) a b = true from (if_neg h12).trans (by rw [decide_eq_true h95, Bool.true_or]))).symm, rfl⟩) (Nat.le_refl _) (Nat.le_refl _) d_M_isBefore_116
        · refine lv_aload_n S.1 S.2.1 d_M_isBefore_98 rfl (lv_at hl 1 rfl) ?_
          refine m_get S hw cl_M hR.obj 8 (by decide) g696 (fun _ h => h) rfl d_M_isBefore_99 ?_
          refine lv_iload_n S.1 S.2.1 d_M_isBefore_102 rfl (lv_at hl 3 rfl) ?_
          refine m_rld (o := b) S hw hR 2 (by decide) (by omega) d_M_isBefore_103 ?_
          refine lv_if_le (tgt := 115) S.1 S.2.1 d_M_isBefore_104 rfl (fun h104 => ?_) (fun h104 => ?_)
          · refine lv_iconst (v := 0) S.1 S.2.1 d_M_isBefore_115 (by decide) ?_
            exact m_iret S hlk hr rfl hw (⟨(congrArg b2i (show bf (sI σ) a b = false from (if_neg h12).trans (by rw [decide_eq_false h95, Bool.false_or, decide_eq_false (Int32.not_lt.mpr h104), Bool.false_and]))).symm, rfl⟩) (Nat.le_refl _) (Nat.le_refl _) d_M_isBefore_116
          · refine lv_iload_n S.1 S.2.1 d_M_isBefore_107 rfl (lv_at hl 0 rfl) ?_
            refine lv_if_eq (tgt := 115) S.1 S.2.1 d_M_isBefore_108 rfl (fun h => absurd h (show ¬ (1 : Int32) = 0 by decide)) (fun _ => ?_)
            refine lv_iconst (v := 1) S.1 S.2.1 d_M_isBefore_111 (by decide) ?_
            refine lv_goto (tgt := 116) S.1 S.2.1 d_M_isBefore_112 rfl ?_
            exact m_iret S hlk hr rfl hw (⟨(congrArg b2i (show bf (sI σ) a b = true from (if_neg h12).trans (by rw [decide_eq_false h95, Bool.false_or, decide_eq_true (Int32.not_le.mp h104), Bool.true_and, if_pos h42, decide_eq_true (Int32.not_le.mp h80)]))).symm, rfl⟩) (Nat.le_refl _) (Nat.le_refl _) d_M_isBefore_116
    · refine lv_aload_n S.1 S.2.1 d_M_isBefore_45 rfl (lv_at hl 0 rfl) ?_
      refine m_get S hw cl_M hR.obj 8 (by decide) g696 (fun _ h => h) rfl d_M_isBefore_46 ?_
      refine lv_iload_n S.1 S.2.1 d_M_isBefore_49 rfl (lv_at hl 1 rfl) ?_
      refine m_rld (o := a) S hw hR 2 (by decide) (by omega) d_M_isBefore_50 ?_
      refine lv_aload_n S.1 S.2.1 d_M_isBefore_51 rfl (lv_at hl 0 rfl) ?_
      refine m_get S hw cl_M hR.obj 8 (by decide) g696 (fun _ h => h) rfl d_M_isBefore_52 ?_
      refine lv_iload_n S.1 S.2.1 d_M_isBefore_55 rfl (lv_at hl 2 rfl) ?_
      refine m_rld (o := b) S hw hR 2 (by decide) (by omega) d_M_isBefore_56 ?_
      refine lv_icmp_le (tgt := 64) S.1 S.2.1 d_M_isBefore_57 rfl (fun h57 => ?_) (fun h57 => ?_)
      · refine lv_iconst (v := 0) S.1 S.2.1 d_M_isBefore_64 (by decide) ?_
        refine lv_goto (tgt := 88) S.1 S.2.1 d_M_isBefore_65 rfl ?_
        refine lv_istore_n S.1 S.2.1 d_M_isBefore_88 rfl hl (by decide) rfl (fun ls hl => ?_)
        have hl : lv_has ls 4 [(3, .int 0), (0, .ref (rx μ)), (1, .int (nI a)), (2, .int (nI b))] := hl
        refine lv_aload_n S.1 S.2.1 d_M_isBefore_89 rfl (lv_at hl 1 rfl) ?_
        refine m_get S hw cl_M hR.obj 8 (by decide) g696 (fun _ h => h) rfl d_M_isBefore_90 ?_
        refine lv_iload_n S.1 S.2.1 d_M_isBefore_93 rfl (lv_at hl 2 rfl) ?_
        refine m_rld (o := a) S hw hR 2 (by decide) (by omega) d_M_isBefore_94 ?_
        refine lv_if_eq (tgt := 111) S.1 S.2.1 d_M_isBefore_95 rfl (fun h95 => ?_) (fun h95 => ?_)
        · refine lv_iconst (v := 1) S.1 S.2.1 d_M_isBefore_111 (by decide) ?_
          refine lv_goto (tgt := 116) S.1 S.2.1 d_M_isBefore_112 rfl ?_
          exact m_iret S hlk hr rfl hw (⟨(congrArg b2i (show bf (sI σ) a b = true from (if_neg h12).trans (by rw [decide_eq_true h95, Bool.true_or]))).symm, rfl⟩) (Nat.le_refl _) (Nat.le_refl _) d_M_isBefore_116
        · refine lv_aload_n S.1 S.2.1 d_M_isBefore_98 rfl (lv_at hl 1 rfl) ?_
          refine m_get S hw cl_M hR.obj 8 (by decide) g696 (fun _ h => h) rfl d_M_isBefore_99 ?_
          refine lv_iload_n S.1 S.2.1 d_M_isBefore_102 rfl (lv_at hl 3 rfl) ?_
          refine m_rld (o := b) S hw hR 2 (by decide) (by omega) d_M_isBefore_103 ?_
          refine lv_if_le (tgt := 115) S.1 S.2.1 d_M_isBefore_104 rfl (fun h104 => ?_) (fun h104 => ?_)
          · refine lv_iconst (v := 0) S.1 S.2.1 d_M_isBefore_115 (by decide) ?_
            exact m_iret S hlk hr rfl hw (⟨(congrArg b2i (show bf (sI σ) a b = false from (if_neg h12).trans (by rw [decide_eq_false h95, Bool.false_or, decide_eq_false (Int32.not_lt.mpr h104), Bool.false_and]))).symm, rfl⟩) (Nat.le_refl _) (Nat.le_refl _) d_M_isBefore_116
          · refine lv_iload_n S.1 S.2.1 d_M_isBefore_107 rfl (lv_at hl 0 rfl) ?_
            refine lv_if_eq (tgt := 115) S.1 S.2.1 d_M_isBefore_108 rfl (fun _ => ?_) (fun h => absurd (show (0 : Int32) = 0 from rfl) h)
            refine lv_iconst (v := 0) S.1 S.2.1 d_M_isBefore_115 (by decide) ?_
            exact m_iret S hlk hr rfl hw (⟨(congrArg b2i (show bf (sI σ) a b = false from (if_neg h12).trans (by rw [decide_eq_false h95, Bool.false_or, decide_eq_true (Int32.not_le.mp h104), Bool.true_and, if_neg h42, decide_eq_false (Int32.not_lt.mpr h57)]))).symm, rfl⟩) (Nat.le_refl _) (Nat.le_refl _) d_M_isBefore_116
      · refine lv_iconst (v := 1) S.1 S.2.1 d_M_isBefore_60 (by decide) ?_
        refine lv_goto (tgt := 88) S.1 S.2.1 d_M_isBefore_61 rfl ?_
        refine lv_istore_n S.1 S.2.1 d_M_isBefore_88 rfl hl (by decide) rfl (fun ls hl => ?_)
        have hl : lv_has ls 4 [(3, .int 1), (0, .ref (rx μ)), (1, .int (nI a)), (2, .int (nI b))] := hl
        refine lv_aload_n S.1 S.2.1 d_M_isBefore_89 rfl (lv_at hl 1 rfl) ?_
        refine m_get S hw cl_M hR.obj 8 (by decide) g696 (fun _ h => h) rfl d_M_isBefore_90 ?_
        refine lv_iload_n S.1 S.2.1 d_M_isBefore_93 rfl (lv_at hl 2 rfl) ?_
        refine m_rld (o := a) S hw hR 2 (by decide) (by omega) d_M_isBefore_94 ?_
        refine lv_if_eq (tgt := 111) S.1 S.2.1 d_M_isBefore_95 rfl (fun h95 => ?_) (fun h95 => ?_)
        · refine lv_iconst (v := 1) S.1 S.2.1 d_M_isBefore_111 (by decide) ?_
          refine lv_goto (tgt := 116) S.1 S.2.1 d_M_isBefore_112 rfl ?_
          exact m_iret S hlk hr rfl hw (⟨(congrArg b2i (show bf (sI σ) a b = true from (if_neg h12).trans (by rw [decide_eq_true h95, Bool.true_or]))).symm, rfl⟩) (Nat.le_refl _) (Nat.le_refl _) d_M_isBefore_116
        · refine lv_aload_n S.1 S.2.1 d_M_isBefore_98 rfl (lv_at hl 1 rfl) ?_
          refine m_get S hw cl_M hR.obj 8 (by decide) g696 (fun _ h => h) rfl d_M_isBefore_99 ?_
          refine lv_iload_n S.1 S.2.1 d_M_isBefore_102 rfl (lv_at hl 3 rfl) ?_
          refine m_rld (o := b) S hw hR 2 (by decide) (by omega) d_M_isBefore_103 ?_
          refine lv_if_le (tgt := 115) S.1 S.2.1 d_M_isBefore_104 rfl (fun h104 => ?_) (fun h104 => ?_)
          · refine lv_iconst (v := 0) S.1 S.2.1 d_M_isBefore_115 (by decide) ?_
            exact m_iret S hlk hr rfl hw (⟨(congrArg b2i (show bf (sI σ) a b = false from (if_neg h12).trans (by rw [decide_eq_false h95, Bool.false_or, decide_eq_false (Int32.not_lt.mpr h104), Bool.false_and]))).symm, rfl⟩) (Nat.le_refl _) (Nat.le_refl _) d_M_isBefore_116
          · refine lv_iload_n S.1 S.2.1 d_M_isBefore_107 rfl (lv_at hl 0 rfl) ?_
            refine lv_if_eq (tgt := 115) S.1 S.2.1 d_M_isBefore_108 rfl (fun h => absurd h (show ¬ (1 : Int32) = 0 by decide)) (fun _ => ?_)
            refine lv_iconst (v := 1) S.1 S.2.1 d_M_isBefore_111 (by decide) ?_
            refine lv_goto (tgt := 116) S.1 S.2.1 d_M_isBefore_112 rfl ?_
            exact m_iret S hlk hr rfl hw (⟨(congrArg b2i (show bf (sI σ) a b = true from (if_neg h12).trans (by rw [decide_eq_false h95, Bool.false_or, decide_eq_true (Int32.not_le.mp h104), Bool.true_and, if_neg h42, decide_eq_true (Int32.not_le.mp h57)]))).symm, rfl⟩) (Nat.le_refl _) (Nat.le_refl _) d_M_isBefore_116
  · refine lv_aload_n S.1 S.2.1 d_M_isBefore_15 rfl (lv_at hl 0 rfl) ?_
    refine m_get S hw cl_M hR.obj 11 (by decide) g699 (fun _ h => h) rfl d_M_isBefore_16 ?_
    refine lv_iload_n S.1 S.2.1 d_M_isBefore_19 rfl (lv_at hl 1 rfl) ?_
    refine m_rld (o := a) S hw hR 5 (by decide) (by omega) d_M_isBefore_20 ?_
    refine lv_aload_n S.1 S.2.1 d_M_isBefore_21 rfl (lv_at hl 0 rfl) ?_
    refine m_get S hw cl_M hR.obj 11 (by decide) g699 (fun _ h => h) rfl d_M_isBefore_22 ?_
    refine lv_iload_n S.1 S.2.1 d_M_isBefore_25 rfl (lv_at hl 2 rfl) ?_
    refine m_rld (o := b) S hw hR 5 (by decide) (by omega) d_M_isBefore_26 ?_
    refine lv_icmp_ge (tgt := 34) S.1 S.2.1 d_M_isBefore_27 rfl (fun h27 => ?_) (fun h27 => ?_)
    · refine lv_iconst (v := 0) S.1 S.2.1 d_M_isBefore_34 (by decide) ?_
      exact m_iret S hlk hr rfl hw (⟨(congrArg b2i (show bf (sI σ) a b = false from (if_pos h12).trans (decide_eq_false (Int32.not_lt.mpr h27)))).symm, rfl⟩) (Nat.le_refl _) (Nat.le_refl _) d_M_isBefore_35
    · refine lv_iconst (v := 1) S.1 S.2.1 d_M_isBefore_30 (by decide) ?_
      refine lv_goto (tgt := 35) S.1 S.2.1 d_M_isBefore_31 rfl ?_
      exact m_iret S hlk hr rfl hw (⟨(congrArg b2i (show bf (sI σ) a b = true from (if_pos h12).trans (decide_eq_true (Int32.not_le.mp h27)))).symm, rfl⟩) (Nat.le_refl _) (Nat.le_refl _) d_M_isBefore_35
set_option maxHeartbeats 4000000 in
set_option maxRecDepth 100000 in
theorem c_M_rests (l : Launch) (γ : mG) (M : mMap) (μ : RK) (σ : St) (ε : RE) (hR : RM γ M μ σ ε) (hn : sn σ ≤ 250) (o : Nat) (ho : o < sn σ) : Met l y_M_rests w_M_rests ({ frames := 0, cells := 0, slots := 0, locals := 0 } : Room) (mPc γ M [.ref (rx μ), .int (nI o)]) (mQi γ (fun r M' => r = b2i (rs (sI σ) o) ∧ M' = M)) 0 0 (mA (gz γ)) := by
  refine m_enter (by decide) (Nat.le_of_ble_eq_true rfl) ?_
  intro p e s m below meth c ls S hr hlk hnm hl hw
  have hl : lv_has ls 2 [(0, .ref (rx μ)), (1, .int (nI o))] := hl
  have hR := hR.q
  refine lv_aload_n S.1 S.2.1 d_M_rests_0 rfl (lv_at hl 0 rfl) ?_
  refine m_get S hw cl_M hR.obj 11 (by decide) g699 (fun _ h => h) rfl d_M_rests_1 ?_
  refine lv_iload_n S.1 S.2.1 d_M_rests_4 rfl (lv_at hl 1 rfl) ?_
  refine m_rld (o := o) S hw hR 5 (by decide) (by omega) d_M_rests_5 ?_
  refine lv_if_lt (tgt := 13) S.1 S.2.1 d_M_rests_6 rfl (fun h6 => ?_) (fun h6 => ?_)
  · refine lv_iconst (v := 0) S.1 S.2.1 d_M_rests_13 (by decide) ?_
    exact m_iret S hlk hr rfl hw (⟨(congrArg b2i (show rs (sI σ) o = false from decide_eq_false (Int32.not_le.mpr h6))).symm, rfl⟩) (Nat.le_refl _) (Nat.le_refl _) d_M_rests_14
  · refine lv_iconst (v := 1) S.1 S.2.1 d_M_rests_9 (by decide) ?_
    refine lv_goto (tgt := 14) S.1 S.2.1 d_M_rests_10 rfl ?_
    exact m_iret S hlk hr rfl hw (⟨(congrArg b2i (show rs (sI σ) o = true from decide_eq_true (Int32.not_lt.mp h6))).symm, rfl⟩) (Nat.le_refl _) (Nat.le_refl _) d_M_rests_14
set_option maxHeartbeats 4000000 in
set_option maxRecDepth 100000 in
theorem c_M_show (l : Launch) (γ : mG) (M : mMap) (μ : RK) (σ : St) (ε : RE) (hR : RM γ M μ σ ε) (hn : sn σ ≤ 250) (o : Nat) (ho : o < sn σ) : Met l y_M_show w_M_show ({ frames := 0, cells := 0, slots := 0, locals := 0 } : Room) (mPc γ M [.ref (rx μ), .int (nI o)]) (mQv γ (fun M' => RQ γ M M' μ (xShow σ o) (ε))) 0 0 (mA (gz γ)) := by
  refine m_enter (by decide) (Nat.le_of_ble_eq_true rfl) ?_
  intro p e s m below meth c ls S hr hlk hnm hl hw
  have hl : lv_has ls 2 [(0, .ref (rx μ)), (1, .int (nI o))] := hl
  have hR := hR.q
  refine lv_aload_n S.1 S.2.1 d_M_show_0 rfl (lv_at hl 0 rfl) ?_
  refine m_get S hw cl_M hR.obj 10 (by decide) g698 (fun _ h => h) rfl d_M_show_1 ?_
  refine lv_iload_n S.1 S.2.1 d_M_show_4 rfl (lv_at hl 1 rfl) ?_
  refine lv_aload_n S.1 S.2.1 d_M_show_5 rfl (lv_at hl 0 rfl) ?_
  refine m_get S hw cl_M hR.obj 14 (by decide) g702 (fun _ h => h) rfl d_M_show_6 ?_
  refine lv_iload_n S.1 S.2.1 d_M_show_9 rfl (lv_at hl 1 rfl) ?_
  refine m_rld (o := o) S hw hR 8 (by decide) (by omega) d_M_show_10 ?_
  refine lv_if_le (tgt := 38) S.1 S.2.1 d_M_show_11 rfl (fun h11 => ?_) (fun h11 => ?_)
  · refine lv_aload_n S.1 S.2.1 d_M_show_38 rfl (lv_at hl 0 rfl) ?_
    refine m_get S hw cl_M hR.obj 9 (by decide) g697 (fun _ h => h) rfl d_M_show_39 ?_
    refine lv_iload_n S.1 S.2.1 d_M_show_42 rfl (lv_at hl 1 rfl) ?_
    refine m_rld (o := o) S hw hR 3 (by decide) (by omega) d_M_show_43 ?_
    refine m_rst (o := o) (v := (sI σ) 3 o) S hw hR 4 (by decide) (by omega) d_M_show_44 (fun H locs M1 hR hw => ?_)
    have hR : RQ γ _ M1 μ ((sn σ, s1 (sI σ) 4 o ((sI σ) 3 o)), (sph σ, srf σ, sbd σ, srk σ), stn σ, sT σ, sal σ) ε := hR
    exact m_vret S hlk hr hw (by have e : shw (sI σ) o = sI σ 3 o := if_neg (fun z => absurd z.1 (Int32.not_lt.mpr h11)); unfold xShow; rw [e]; exact hR) (Nat.le_refl _) (Nat.le_refl _) d_M_show_45
  · refine lv_aload_n S.1 S.2.1 d_M_show_14 rfl (lv_at hl 0 rfl) ?_
    refine m_get S hw cl_M hR.obj 14 (by decide) g702 (fun _ h => h) rfl d_M_show_15 ?_
    refine lv_iload_n S.1 S.2.1 d_M_show_18 rfl (lv_at hl 1 rfl) ?_
    refine m_rld (o := o) S hw hR 8 (by decide) (by omega) d_M_show_19 ?_
    refine lv_aload_n S.1 S.2.1 d_M_show_20 rfl (lv_at hl 0 rfl) ?_
    refine m_get S hw cl_M hR.obj 9 (by decide) g697 (fun _ h => h) rfl d_M_show_21 ?_
    refine lv_iload_n S.1 S.2.1 d_M_show_24 rfl (lv_at hl 1 rfl) ?_
    refine m_rld (o := o) S hw hR 3 (by decide) (by omega) d_M_show_25 ?_
    refine lv_icmp_ge (tgt := 38) S.1 S.2.1 d_M_show_26 rfl (fun h26 => ?_) (fun h26 => ?_)
    · refine lv_aload_n S.1 S.2.1 d_M_show_38 rfl (lv_at hl 0 rfl) ?_
      refine m_get S hw cl_M hR.obj 9 (by decide) g697 (fun _ h => h) rfl d_M_show_39 ?_
      refine lv_iload_n S.1 S.2.1 d_M_show_42 rfl (lv_at hl 1 rfl) ?_
      refine m_rld (o := o) S hw hR 3 (by decide) (by omega) d_M_show_43 ?_
      refine m_rst (o := o) (v := (sI σ) 3 o) S hw hR 4 (by decide) (by omega) d_M_show_44 (fun H locs M2 hR hw => ?_)
      have hR : RQ γ _ M2 μ ((sn σ, s1 (sI σ) 4 o ((sI σ) 3 o)), (sph σ, srf σ, sbd σ, srk σ), stn σ, sT σ, sal σ) ε := hR
      exact m_vret S hlk hr hw (by have e : shw (sI σ) o = sI σ 3 o := if_neg (fun z => absurd z.2 (Int32.not_lt.mpr h26)); unfold xShow; rw [e]; exact hR) (Nat.le_refl _) (Nat.le_refl _) d_M_show_45
    · refine lv_aload_n S.1 S.2.1 d_M_show_29 rfl (lv_at hl 0 rfl) ?_
      refine m_get S hw cl_M hR.obj 14 (by decide) g702 (fun _ h => h) rfl d_M_show_30 ?_
      refine lv_iload_n S.1 S.2.1 d_M_show_33 rfl (lv_at hl 1 rfl) ?_
      refine m_rld (o := o) S hw hR 8 (by decide) (by omega) d_M_show_34 ?_
      refine lv_goto (tgt := 44) S.1 S.2.1 d_M_show_35 rfl ?_
      refine m_rst (o := o) (v := (sI σ) 8 o) S hw hR 4 (by decide) (by omega) d_M_show_44 (fun H locs M3 hR hw => ?_)
      have hR : RQ γ _ M3 μ ((sn σ, s1 (sI σ) 4 o ((sI σ) 8 o)), (sph σ, srf σ, sbd σ, srk σ), stn σ, sT σ, sal σ) ε := hR
      exact m_vret S hlk hr hw (by have e : shw (sI σ) o = sI σ 8 o := if_pos ⟨Int32.not_le.mp h11, Int32.not_le.mp h26⟩; unfold xShow; rw [e]; exact hR) (Nat.le_refl _) (Nat.le_refl _) d_M_show_45
set_option maxHeartbeats 4000000 in
set_option maxRecDepth 100000 in
theorem c_M_comeToRest (l : Launch) (γ : mG) (M : mMap) (μ : RK) (σ : St) (ε : RE) (hR : RM γ M μ σ ε) (hn : sn σ ≤ 250) (o : Nat) (ho : o < sn σ) : Met l y_M_comeToRest w_M_comeToRest ({ frames := 1, cells := 0, slots := 0, locals := 21 } : Room) (mPc γ M [.ref (rx μ), .int (nI o)]) (mQv γ (fun M' => RQ γ M M' μ (xRest σ o) (ε))) 0 0 (mA (gz γ)) := by
  refine m_enter (by decide) (Nat.le_of_ble_eq_true rfl) ?_
  intro p e s m below meth c ls S hr hlk hnm hl hw
  have hl : lv_has ls 2 [(0, .ref (rx μ)), (1, .int (nI o))] := hl
  have hR := hR.q
  refine lv_aload_n S.1 S.2.1 d_M_comeToRest_0 rfl (lv_at hl 0 rfl) ?_
  refine m_get S hw cl_M hR.obj 11 (by decide) g699 (fun _ h => h) rfl d_M_comeToRest_1 ?_
  refine lv_iload_n S.1 S.2.1 d_M_comeToRest_4 rfl (lv_at hl 1 rfl) ?_
  refine lv_aload_n S.1 S.2.1 d_M_comeToRest_5 rfl (lv_at hl 0 rfl) ?_
  refine m_get S hw cl_M hR.obj 4 (by decide) g692 (fun _ h => h) rfl d_M_comeToRest_6 ?_
  refine m_rst (o := o) (v := srk σ) S hw hR 5 (by decide) (by omega) d_M_comeToRest_9 (fun H locs M1 hR hw => ?_)
  have hR : RQ γ _ M1 μ ((sn σ, s1 (sI σ) 5 o (srk σ)), (sph σ, srf σ, sbd σ, srk σ), stn σ, sT σ, sal σ) ε := hR
  refine lv_aload_n S.1 S.2.1 d_M_comeToRest_10 rfl (lv_at hl 0 rfl) ?_
  refine lv_dup S.1 S.2.1 d_M_comeToRest_11 rfl ?_
  refine m_get S hw cl_M hR.obj 4 (by decide) g692 (fun _ h => h) rfl d_M_comeToRest_12 ?_
  refine lv_iconst (v := 1) S.1 S.2.1 d_M_comeToRest_15 (by decide) ?_
  refine lv_iadd S.1 S.2.1 d_M_comeToRest_16 ?_
  refine m_rput (σ' := ((sn σ, s1 (sI σ) 5 o (srk σ)), (sph σ, srf σ, sbd σ, (srk σ) + 1), stn σ, sT σ, sal σ)) (ε' := ε) S hw hR 4 (by decide) g692 rfl rfl rfl d_M_comeToRest_17 rfl (fun i hi => rfl) (fun H locs M2 hR hw => ?_)
  refine lv_aload_n S.1 S.2.1 d_M_comeToRest_20 rfl (lv_at hl 0 rfl) ?_
  refine lv_iload_n S.1 S.2.1 d_M_comeToRest_21 rfl (lv_at hl 1 rfl) ?_
  refine m_cv hw (va_runV (As := [.int (nI o)]) (rest := []) S (c_M_show l γ M2 μ ((sn σ, s1 (sI σ) 5 o (srk σ)), (sph σ, srf σ, sbd σ, (srk σ) + 1), stn σ, sT σ, sal σ) ε hR.1 hn o ho) (m_cwV 1 S g836 g838 g36 g48 g839 rfl rfl ⟨by decide +kernel, by decide +kernel, by decide +kernel⟩ ⟨(Nat.le_of_ble_eq_true rfl), (Nat.le_of_ble_eq_true rfl)⟩) (hw.preV hR.obj cl_M.1) rfl rfl hl.1 rfl (lv_room (Nat.le_of_ble_eq_true rfl)) d_M_comeToRest_22 ⟨(Nat.zero_le _), (Nat.zero_le _)⟩) (fun M3 H locs hp hw => ?_)
  have hR := hp.tr hR
  exact m_vret S hlk hr hw (by have e : shw (s1 (sI σ) 5 o (srk σ)) o = shw (sI σ) o := rfl; unfold xShow at hR; rw [show sI ((sn σ, s1 (sI σ) 5 o (srk σ)), (sph σ, srf σ, sbd σ, srk σ + 1), stn σ, sT σ, sal σ) = s1 (sI σ) 5 o (srk σ) from rfl] at hR; exact hR) (Nat.le_refl _) (Nat.le_refl _) d_M_comeToRest_25
set_option maxHeartbeats 4000000 in
set_option maxRecDepth 100000 in
theorem c_M_end (l : Launch) (γ : mG) (M : mMap) (μ : RK) (σ : St) (ε : RE) (hR : RM γ M μ σ ε) (hn : sn σ ≤ 250) (o : Nat) (ho : o < sn σ) : Met l y_M_end w_M_end ({ frames := 0, cells := 0, slots := 0, locals := 0 } : Room) (mPc γ M [.ref (rx μ), .int (nI o)]) (mQv γ (fun M' => RQ γ M M' μ (xEnd σ o) (ε))) 0 0 (mA (gz γ)) := by
  refine m_enter (by decide) (Nat.le_of_ble_eq_true rfl) ?_
  intro p e s m below meth c ls S hr hlk hnm hl hw
  have hl : lv_has ls 2 [(0, .ref (rx μ)), (1, .int (nI o))] := hl
  have hR := hR.q
  refine lv_aload_n S.1 S.2.1 d_M_end_0 rfl (lv_at hl 0 rfl) ?_
  refine m_get S hw cl_M hR.obj 9 (by decide) g697 (fun _ h => h) rfl d_M_end_1 ?_
  refine lv_iload_n S.1 S.2.1 d_M_end_4 rfl (lv_at hl 1 rfl) ?_
  refine lv_iconst (v := 0) S.1 S.2.1 d_M_end_5 (by decide) ?_
  refine m_rst (o := o) (v := 0) S hw hR 3 (by decide) (by omega) d_M_end_6 (fun H locs M1 hR hw => ?_)
  have hR : RQ γ _ M1 μ ((sn σ, s1 (sI σ) 3 o 0), (sph σ, srf σ, sbd σ, srk σ), stn σ, sT σ, sal σ) ε := hR
  refine lv_aload_n S.1 S.2.1 d_M_end_7 rfl (lv_at hl 0 rfl) ?_
  refine m_get S hw cl_M hR.obj 10 (by decide) g698 (fun _ h => h) rfl d_M_end_8 ?_
  refine lv_iload_n S.1 S.2.1 d_M_end_11 rfl (lv_at hl 1 rfl) ?_
  refine lv_iconst (v := 0) S.1 S.2.1 d_M_end_12 (by decide) ?_
  refine m_rst (o := o) (v := 0) S hw hR 4 (by decide) (by omega) d_M_end_13 (fun H locs M2 hR hw => ?_)
  have hR : RQ γ _ M2 μ ((sn σ, s1 (s1 (sI σ) 3 o 0) 4 o 0), (sph σ, srf σ, sbd σ, srk σ), stn σ, sT σ, sal σ) ε := hR
  refine lv_aload_n S.1 S.2.1 d_M_end_14 rfl (lv_at hl 0 rfl) ?_
  refine m_get S hw cl_M hR.obj 11 (by decide) g699 (fun _ h => h) rfl d_M_end_15 ?_
  refine lv_iload_n S.1 S.2.1 d_M_end_18 rfl (lv_at hl 1 rfl) ?_
  refine lv_iconst (v := (-1)) S.1 S.2.1 d_M_end_19 (by decide) ?_
  refine m_rst (o := o) (v := (-1)) S hw hR 5 (by decide) (by omega) d_M_end_20 (fun H locs M3 hR hw => ?_)
  have hR : RQ γ _ M3 μ ((sn σ, s1 (s1 (s1 (sI σ) 3 o 0) 4 o 0) 5 o (-1)), (sph σ, srf σ, sbd σ, srk σ), stn σ, sT σ, sal σ) ε := hR
  exact m_vret S hlk hr hw hR (Nat.le_refl _) (Nat.le_refl _) d_M_end_21
set_option maxHeartbeats 4000000 in
set_option maxRecDepth 100000 in
theorem c_M_deal (l : Launch) (γ : mG) (M : mMap) (μ : RK) (σ : St) (ε : RE) (hR : RM γ M μ σ ε) (hn : sn σ ≤ 250) (a b : Nat) (ha : a < sn σ) (hb : b < sn σ) (p0 q0 : Int32) (ht : stn σ < 30000) : Met l y_M_deal w_M_deal ({ frames := 0, cells := 0, slots := 0, locals := 0 } : Room) (mPc γ M [.ref (rx μ), .int (nI a), .int (nI b), .int p0, .int q0]) (mQv γ (fun M' => RQ γ M M' μ (xDeal σ a b p0 q0) (ε))) 0 0 (mA (gz γ)) := by
  refine m_enter (by decide) (Nat.le_of_ble_eq_true rfl) ?_
  intro p e s m below meth c ls S hr hlk hnm hl hw
  have hl : lv_has ls 5 [(0, .ref (rx μ)), (1, .int (nI a)), (2, .int (nI b)), (3, .int p0), (4, .int q0)] := hl
  have hR := hR.q
  refine lv_aload_n S.1 S.2.1 d_M_deal_0 rfl (lv_at hl 0 rfl) ?_
  refine m_get S hw cl_M hR.obj 9 (by decide) g697 (fun _ h => h) rfl d_M_deal_1 ?_
  refine lv_iload_n S.1 S.2.1 d_M_deal_4 rfl (lv_at hl 1 rfl) ?_
  refine lv_dup2_11 S.1 S.2.1 d_M_deal_5 rfl rfl ?_
  refine m_rld (o := a) S hw hR 3 (by decide) (by omega) d_M_deal_6 ?_
  refine lv_iload S.1 S.2.1 d_M_deal_7 (lv_at hl 4 rfl) ?_
  refine lv_isub S.1 S.2.1 d_M_deal_9 ?_
  refine m_rst (o := a) (v := ((sI σ) 3 a) - q0) S hw hR 3 (by decide) (by omega) d_M_deal_10 (fun H locs M1 hR hw => ?_)
  have hR : RQ γ _ M1 μ ((sn σ, s1 (sI σ) 3 a (((sI σ) 3 a) - q0)), (sph σ, srf σ, sbd σ, srk σ), stn σ, sT σ, sal σ) ε := hR
  refine lv_aload_n S.1 S.2.1 d_M_deal_11 rfl (lv_at hl 0 rfl) ?_
  refine m_get S hw cl_M hR.obj 9 (by decide) g697 (fun _ h => h) rfl d_M_deal_12 ?_
  refine lv_iload_n S.1 S.2.1 d_M_deal_15 rfl (lv_at hl 2 rfl) ?_
  refine lv_dup2_11 S.1 S.2.1 d_M_deal_16 rfl rfl ?_
  refine m_rld (o := b) S hw hR 3 (by decide) (by omega) d_M_deal_17 ?_
  refine lv_iload S.1 S.2.1 d_M_deal_18 (lv_at hl 4 rfl) ?_
  refine lv_isub S.1 S.2.1 d_M_deal_20 ?_
  refine m_rst (o := b) (v := ((s1 (sI σ) 3 a (((sI σ) 3 a) - q0)) 3 b) - q0) S hw hR 3 (by decide) (by omega) d_M_deal_21 (fun H locs M2 hR hw => ?_)
  have hR : RQ γ _ M2 μ ((sn σ, s1 (s1 (sI σ) 3 a (((sI σ) 3 a) - q0)) 3 b (((s1 (sI σ) 3 a (((sI σ) 3 a) - q0)) 3 b) - q0)), (sph σ, srf σ, sbd σ, srk σ), stn σ, sT σ, sal σ) ε := hR
  refine lv_aload_n S.1 S.2.1 d_M_deal_22 rfl (lv_at hl 0 rfl) ?_
  refine m_get S hw cl_M hR.obj 13 (by decide) g701 (fun _ h => h) rfl d_M_deal_23 ?_
  refine lv_iload_n S.1 S.2.1 d_M_deal_26 rfl (lv_at hl 1 rfl) ?_
  refine lv_dup2_11 S.1 S.2.1 d_M_deal_27 rfl rfl ?_
  refine m_rld (o := a) S hw hR 7 (by decide) (by omega) d_M_deal_28 ?_
  refine lv_iload S.1 S.2.1 d_M_deal_29 (lv_at hl 4 rfl) ?_
  refine lv_iadd S.1 S.2.1 d_M_deal_31 ?_
  refine m_rst (o := a) (v := ((s1 (s1 (sI σ) 3 a (((sI σ) 3 a) - q0)) 3 b (((s1 (sI σ) 3 a (((sI σ) 3 a) - q0)) 3 b) - q0)) 7 a) + q0) S hw hR 7 (by decide) (by omega) d_M_deal_32 (fun H locs M3 hR hw => ?_)
  have hR : RQ γ _ M3 μ ((sn σ, s1 (s1 (s1 (sI σ) 3 a (((sI σ) 3 a) - q0)) 3 b (((s1 (sI σ) 3 a (((sI σ) 3 a) - q0)) 3 b) - q0)) 7 a (((s1 (s1 (sI σ) 3 a (((sI σ) 3 a) - q0)) 3 b (((s1 (sI σ) 3 a (((sI σ) 3 a) - q0)) 3 b) - q0)) 7 a) + q0)), (sph σ, srf σ, sbd σ, srk σ), stn σ, sT σ, sal σ) ε := hR
  refine lv_aload_n S.1 S.2.1 d_M_deal_33 rfl (lv_at hl 0 rfl) ?_
  refine m_get S hw cl_M hR.obj 13 (by decide) g701 (fun _ h => h) rfl d_M_deal_34 ?_
  refine lv_iload_n S.1 S.2.1 d_M_deal_37 rfl (lv_at hl 2 rfl) ?_
  refine lv_dup2_11 S.1 S.2.1 d_M_deal_38 rfl rfl ?_
  refine m_rld (o := b) S hw hR 7 (by decide) (by omega) d_M_deal_39 ?_
  refine lv_iload S.1 S.2.1 d_M_deal_40 (lv_at hl 4 rfl) ?_
  refine lv_iadd S.1 S.2.1 d_M_deal_42 ?_
  refine m_rst (o := b) (v := ((s1 (s1 (s1 (sI σ) 3 a (((sI σ) 3 a) - q0)) 3 b (((s1 (sI σ) 3 a (((sI σ) 3 a) - q0)) 3 b) - q0)) 7 a (((s1 (s1 (sI σ) 3 a (((sI σ) 3 a) - q0)) 3 b (((s1 (sI σ) 3 a (((sI σ) 3 a) - q0)) 3 b) - q0)) 7 a) + q0)) 7 b) + q0) S hw hR 7 (by decide) (by omega) d_M_deal_43 (fun H locs M4 hR hw => ?_)
  have hR : RQ γ _ M4 μ ((sn σ, s1 (s1 (s1 (s1 (sI σ) 3 a (((sI σ) 3 a) - q0)) 3 b (((s1 (sI σ) 3 a (((sI σ) 3 a) - q0)) 3 b) - q0)) 7 a (((s1 (s1 (sI σ) 3 a (((sI σ) 3 a) - q0)) 3 b (((s1 (sI σ) 3 a (((sI σ) 3 a) - q0)) 3 b) - q0)) 7 a) + q0)) 7 b (((s1 (s1 (s1 (sI σ) 3 a (((sI σ) 3 a) - q0)) 3 b (((s1 (sI σ) 3 a (((sI σ) 3 a) - q0)) 3 b) - q0)) 7 a (((s1 (s1 (sI σ) 3 a (((sI σ) 3 a) - q0)) 3 b (((s1 (sI σ) 3 a (((sI σ) 3 a) - q0)) 3 b) - q0)) 7 a) + q0)) 7 b) + q0)), (sph σ, srf σ, sbd σ, srk σ), stn σ, sT σ, sal σ) ε := hR
  refine lv_aload_n S.1 S.2.1 d_M_deal_44 rfl (lv_at hl 0 rfl) ?_
  refine m_get S hw cl_M hR.obj 16 (by decide) g704 (fun _ h => h) rfl d_M_deal_45 ?_
  refine lv_aload_n S.1 S.2.1 d_M_deal_48 rfl (lv_at hl 0 rfl) ?_
  refine m_get S hw cl_M hR.obj 15 (by decide) g703 (fun _ h => h) rfl d_M_deal_49 ?_
  refine lv_aload_n S.1 S.2.1 d_M_deal_52 rfl (lv_at hl 0 rfl) ?_
  refine m_get S hw cl_M hR.obj 7 (by decide) g695 (fun _ h => h) rfl d_M_deal_53 ?_
  refine lv_iload_n S.1 S.2.1 d_M_deal_56 rfl (lv_at hl 1 rfl) ?_
  refine m_rldz (o := a) S hw hR (by omega) d_M_deal_57 ?_
  refine lv_if_eq (tgt := 65) S.1 S.2.1 d_M_deal_58 rfl (fun h58 => ?_) (fun h58 => ?_)
  · refine lv_iload_n S.1 S.2.1 d_M_deal_65 rfl (lv_at hl 2 rfl) ?_
    refine m_rstT (o := stn σ) (v := nI b) S hw hR 0 (by decide) (by omega) d_M_deal_66 (fun H locs M5 hR hw => ?_)
    have hR : RQ γ _ M5 μ ((sn σ, s1 (s1 (s1 (s1 (sI σ) 3 a (((sI σ) 3 a) - q0)) 3 b (((s1 (sI σ) 3 a (((sI σ) 3 a) - q0)) 3 b) - q0)) 7 a (((s1 (s1 (sI σ) 3 a (((sI σ) 3 a) - q0)) 3 b (((s1 (sI σ) 3 a (((sI σ) 3 a) - q0)) 3 b) - q0)) 7 a) + q0)) 7 b (((s1 (s1 (s1 (sI σ) 3 a (((sI σ) 3 a) - q0)) 3 b (((s1 (sI σ) 3 a (((sI σ) 3 a) - q0)) 3 b) - q0)) 7 a (((s1 (s1 (sI σ) 3 a (((sI σ) 3 a) - q0)) 3 b (((s1 (sI σ) 3 a (((sI σ) 3 a) - q0)) 3 b) - q0)) 7 a) + q0)) 7 b) + q0)), (sph σ, srf σ, sbd σ, srk σ), stn σ, s1 (sT σ) 0 (stn σ) (nI b), sal σ) ε := hR
    refine lv_aload_n S.1 S.2.1 d_M_deal_67 rfl (lv_at hl 0 rfl) ?_
    refine m_get S hw cl_M hR.obj 17 (by decide) g705 (fun _ h => h) rfl d_M_deal_68 ?_
    refine lv_aload_n S.1 S.2.1 d_M_deal_71 rfl (lv_at hl 0 rfl) ?_
    refine m_get S hw cl_M hR.obj 15 (by decide) g703 (fun _ h => h) rfl d_M_deal_72 ?_
    refine lv_aload_n S.1 S.2.1 d_M_deal_75 rfl (lv_at hl 0 rfl) ?_
    refine m_get S hw cl_M hR.obj 7 (by decide) g695 (fun _ h => h) rfl d_M_deal_76 ?_
    refine lv_iload_n S.1 S.2.1 d_M_deal_79 rfl (lv_at hl 1 rfl) ?_
    refine m_rldz (o := a) S hw hR (by omega) d_M_deal_80 ?_
    refine lv_if_eq (tgt := 88) S.1 S.2.1 d_M_deal_81 rfl (fun _ => ?_) (fun h => absurd h58 h)
    refine lv_iload_n S.1 S.2.1 d_M_deal_88 rfl (lv_at hl 1 rfl) ?_
    refine m_rstT (o := stn σ) (v := nI a) S hw hR 1 (by decide) (by omega) d_M_deal_89 (fun H locs M6 hR hw => ?_)
    have hR : RQ γ _ M6 μ ((sn σ, s1 (s1 (s1 (s1 (sI σ) 3 a (((sI σ) 3 a) - q0)) 3 b (((s1 (sI σ) 3 a (((sI σ) 3 a) - q0)) 3 b) - q0)) 7 a (((s1 (s1 (sI σ) 3 a (((sI σ) 3 a) - q0)) 3 b (((s1 (sI σ) 3 a (((sI σ) 3 a) - q0)) 3 b) - q0)) 7 a) + q0)) 7 b (((s1 (s1 (s1 (sI σ) 3 a (((sI σ) 3 a) - q0)) 3 b (((s1 (sI σ) 3 a (((sI σ) 3 a) - q0)) 3 b) - q0)) 7 a (((s1 (s1 (sI σ) 3 a (((sI σ) 3 a) - q0)) 3 b (((s1 (sI σ) 3 a (((sI σ) 3 a) - q0)) 3 b) - q0)) 7 a) + q0)) 7 b) + q0)), (sph σ, srf σ, sbd σ, srk σ), stn σ, s1 (s1 (sT σ) 0 (stn σ) (nI b)) 1 (stn σ) (nI a), sal σ) ε := hR
    refine lv_aload_n S.1 S.2.1 d_M_deal_90 rfl (lv_at hl 0 rfl) ?_
    refine m_get S hw cl_M hR.obj 18 (by decide) g706 (fun _ h => h) rfl d_M_deal_91 ?_
    refine lv_aload_n S.1 S.2.1 d_M_deal_94 rfl (lv_at hl 0 rfl) ?_
    refine m_get S hw cl_M hR.obj 15 (by decide) g703 (fun _ h => h) rfl d_M_deal_95 ?_
    refine lv_iload_n S.1 S.2.1 d_M_deal_98 rfl (lv_at hl 3 rfl) ?_
    refine m_rstT (o := stn σ) (v := p0) S hw hR 2 (by decide) (by omega) d_M_deal_99 (fun H locs M7 hR hw => ?_)
    have hR : RQ γ _ M7 μ ((sn σ, s1 (s1 (s1 (s1 (sI σ) 3 a (((sI σ) 3 a) - q0)) 3 b (((s1 (sI σ) 3 a (((sI σ) 3 a) - q0)) 3 b) - q0)) 7 a (((s1 (s1 (sI σ) 3 a (((sI σ) 3 a) - q0)) 3 b (((s1 (sI σ) 3 a (((sI σ) 3 a) - q0)) 3 b) - q0)) 7 a) + q0)) 7 b (((s1 (s1 (s1 (sI σ) 3 a (((sI σ) 3 a) - q0)) 3 b (((s1 (sI σ) 3 a (((sI σ) 3 a) - q0)) 3 b) - q0)) 7 a (((s1 (s1 (sI σ) 3 a (((sI σ) 3 a) - q0)) 3 b (((s1 (sI σ) 3 a (((sI σ) 3 a) - q0)) 3 b) - q0)) 7 a) + q0)) 7 b) + q0)), (sph σ, srf σ, sbd σ, srk σ), stn σ, s1 (s1 (s1 (sT σ) 0 (stn σ) (nI b)) 1 (stn σ) (nI a)) 2 (stn σ) p0, sal σ) ε := hR
    refine lv_aload_n S.1 S.2.1 d_M_deal_100 rfl (lv_at hl 0 rfl) ?_
    refine m_get S hw cl_M hR.obj 19 (by decide) g707 (fun _ h => h) rfl d_M_deal_101 ?_
    refine lv_aload_n S.1 S.2.1 d_M_deal_104 rfl (lv_at hl 0 rfl) ?_
    refine m_get S hw cl_M hR.obj 15 (by decide) g703 (fun _ h => h) rfl d_M_deal_105 ?_
    refine lv_iload S.1 S.2.1 d_M_deal_108 (lv_at hl 4 rfl) ?_
    refine m_rstT (o := stn σ) (v := q0) S hw hR 3 (by decide) (by omega) d_M_deal_110 (fun H locs M8 hR hw => ?_)
    have hR : RQ γ _ M8 μ ((sn σ, s1 (s1 (s1 (s1 (sI σ) 3 a (((sI σ) 3 a) - q0)) 3 b (((s1 (sI σ) 3 a (((sI σ) 3 a) - q0)) 3 b) - q0)) 7 a (((s1 (s1 (sI σ) 3 a (((sI σ) 3 a) - q0)) 3 b (((s1 (sI σ) 3 a (((sI σ) 3 a) - q0)) 3 b) - q0)) 7 a) + q0)) 7 b (((s1 (s1 (s1 (sI σ) 3 a (((sI σ) 3 a) - q0)) 3 b (((s1 (sI σ) 3 a (((sI σ) 3 a) - q0)) 3 b) - q0)) 7 a (((s1 (s1 (sI σ) 3 a (((sI σ) 3 a) - q0)) 3 b (((s1 (sI σ) 3 a (((sI σ) 3 a) - q0)) 3 b) - q0)) 7 a) + q0)) 7 b) + q0)), (sph σ, srf σ, sbd σ, srk σ), stn σ, s1 (s1 (s1 (s1 (sT σ) 0 (stn σ) (nI b)) 1 (stn σ) (nI a)) 2 (stn σ) p0) 3 (stn σ) q0, sal σ) ε := hR
    refine lv_aload_n S.1 S.2.1 d_M_deal_111 rfl (lv_at hl 0 rfl) ?_
    refine lv_dup S.1 S.2.1 d_M_deal_112 rfl ?_
    refine m_get S hw cl_M hR.obj 15 (by decide) g703 (fun _ h => h) rfl d_M_deal_113 ?_
    refine lv_iconst (v := 1) S.1 S.2.1 d_M_deal_116 (by decide) ?_
    refine lv_iadd S.1 S.2.1 d_M_deal_117 ?_
    refine W.eq (g2 := F0 m 118 ls [.int (nI (stn σ + 1)), .ref (rx μ)]) (congrArg (fun z => F0 m 118 ls [.int z, .ref (rx μ)]) (nI_1 _)) ?_
    refine m_rput (σ' := ((sn σ, s1 (s1 (s1 (s1 (sI σ) 3 a (((sI σ) 3 a) - q0)) 3 b (((s1 (sI σ) 3 a (((sI σ) 3 a) - q0)) 3 b) - q0)) 7 a (((s1 (s1 (sI σ) 3 a (((sI σ) 3 a) - q0)) 3 b (((s1 (sI σ) 3 a (((sI σ) 3 a) - q0)) 3 b) - q0)) 7 a) + q0)) 7 b (((s1 (s1 (s1 (sI σ) 3 a (((sI σ) 3 a) - q0)) 3 b (((s1 (sI σ) 3 a (((sI σ) 3 a) - q0)) 3 b) - q0)) 7 a (((s1 (s1 (sI σ) 3 a (((sI σ) 3 a) - q0)) 3 b (((s1 (sI σ) 3 a (((sI σ) 3 a) - q0)) 3 b) - q0)) 7 a) + q0)) 7 b) + q0)), (sph σ, srf σ, sbd σ, srk σ), stn σ + 1, s1 (s1 (s1 (s1 (sT σ) 0 (stn σ) (nI b)) 1 (stn σ) (nI a)) 2 (stn σ) p0) 3 (stn σ) q0, sal σ)) (ε' := ε) S hw hR 15 (by decide) g703 rfl rfl rfl d_M_deal_118 rfl (fun i hi => rfl) (fun H locs M9 hR hw => ?_)
    refine lv_aload_n S.1 S.2.1 d_M_deal_121 rfl (lv_at hl 0 rfl) ?_
    refine lv_dup S.1 S.2.1 d_M_deal_122 rfl ?_
    refine m_get S hw cl_M hR.obj 20 (by decide) g708 (fun _ h => h) rfl d_M_deal_123 ?_
    refine lv_iload S.1 S.2.1 d_M_deal_126 (lv_at hl 4 rfl) ?_
    refine lv_i2l S.1 S.2.1 d_M_deal_128 rfl ?_
    refine lv_ladd S.1 S.2.1 d_M_deal_129 ?_
    refine m_rput (σ' := ((sn σ, s1 (s1 (s1 (s1 (sI σ) 3 a (((sI σ) 3 a) - q0)) 3 b (((s1 (sI σ) 3 a (((sI σ) 3 a) - q0)) 3 b) - q0)) 7 a (((s1 (s1 (sI σ) 3 a (((sI σ) 3 a) - q0)) 3 b (((s1 (sI σ) 3 a (((sI σ) 3 a) - q0)) 3 b) - q0)) 7 a) + q0)) 7 b (((s1 (s1 (s1 (sI σ) 3 a (((sI σ) 3 a) - q0)) 3 b (((s1 (sI σ) 3 a (((sI σ) 3 a) - q0)) 3 b) - q0)) 7 a (((s1 (s1 (sI σ) 3 a (((sI σ) 3 a) - q0)) 3 b (((s1 (sI σ) 3 a (((sI σ) 3 a) - q0)) 3 b) - q0)) 7 a) + q0)) 7 b) + q0)), (sph σ, srf σ, sbd σ, srk σ), stn σ + 1, s1 (s1 (s1 (s1 (sT σ) 0 (stn σ) (nI b)) 1 (stn σ) (nI a)) 2 (stn σ) p0) 3 (stn σ) q0, (sal σ) + q0.toInt64)) (ε' := ε) S hw hR 20 (by decide) g708 rfl rfl rfl d_M_deal_130 rfl (fun i hi => rfl) (fun H locs M10 hR hw => ?_)
    exact m_vret S hlk hr hw (by have e : sI σ 1 a = 0 := h58; unfold xDeal; rw [if_pos e, if_pos e]; exact hR) (Nat.le_refl _) (Nat.le_refl _) d_M_deal_133
  · refine lv_iload_n S.1 S.2.1 d_M_deal_61 rfl (lv_at hl 1 rfl) ?_
    refine lv_goto (tgt := 66) S.1 S.2.1 d_M_deal_62 rfl ?_
    refine m_rstT (o := stn σ) (v := nI a) S hw hR 0 (by decide) (by omega) d_M_deal_66 (fun H locs M11 hR hw => ?_)
    have hR : RQ γ _ M11 μ ((sn σ, s1 (s1 (s1 (s1 (sI σ) 3 a (((sI σ) 3 a) - q0)) 3 b (((s1 (sI σ) 3 a (((sI σ) 3 a) - q0)) 3 b) - q0)) 7 a (((s1 (s1 (sI σ) 3 a (((sI σ) 3 a) - q0)) 3 b (((s1 (sI σ) 3 a (((sI σ) 3 a) - q0)) 3 b) - q0)) 7 a) + q0)) 7 b (((s1 (s1 (s1 (sI σ) 3 a (((sI σ) 3 a) - q0)) 3 b (((s1 (sI σ) 3 a (((sI σ) 3 a) - q0)) 3 b) - q0)) 7 a (((s1 (s1 (sI σ) 3 a (((sI σ) 3 a) - q0)) 3 b (((s1 (sI σ) 3 a (((sI σ) 3 a) - q0)) 3 b) - q0)) 7 a) + q0)) 7 b) + q0)), (sph σ, srf σ, sbd σ, srk σ), stn σ, s1 (sT σ) 0 (stn σ) (nI a), sal σ) ε := hR
    refine lv_aload_n S.1 S.2.1 d_M_deal_67 rfl (lv_at hl 0 rfl) ?_
    refine m_get S hw cl_M hR.obj 17 (by decide) g705 (fun _ h => h) rfl d_M_deal_68 ?_
    refine lv_aload_n S.1 S.2.1 d_M_deal_71 rfl (lv_at hl 0 rfl) ?_
    refine m_get S hw cl_M hR.obj 15 (by decide) g703 (fun _ h => h) rfl d_M_deal_72 ?_
    refine lv_aload_n S.1 S.2.1 d_M_deal_75 rfl (lv_at hl 0 rfl) ?_
    refine m_get S hw cl_M hR.obj 7 (by decide) g695 (fun _ h => h) rfl d_M_deal_76 ?_
    refine lv_iload_n S.1 S.2.1 d_M_deal_79 rfl (lv_at hl 1 rfl) ?_
    refine m_rldz (o := a) S hw hR (by omega) d_M_deal_80 ?_
    refine lv_if_eq (tgt := 88) S.1 S.2.1 d_M_deal_81 rfl (fun h => absurd h h58) (fun _ => ?_)
    refine lv_iload_n S.1 S.2.1 d_M_deal_84 rfl (lv_at hl 2 rfl) ?_
    refine lv_goto (tgt := 89) S.1 S.2.1 d_M_deal_85 rfl ?_
    refine m_rstT (o := stn σ) (v := nI b) S hw hR 1 (by decide) (by omega) d_M_deal_89 (fun H locs M12 hR hw => ?_)
    have hR : RQ γ _ M12 μ ((sn σ, s1 (s1 (s1 (s1 (sI σ) 3 a (((sI σ) 3 a) - q0)) 3 b (((s1 (sI σ) 3 a (((sI σ) 3 a) - q0)) 3 b) - q0)) 7 a (((s1 (s1 (sI σ) 3 a (((sI σ) 3 a) - q0)) 3 b (((s1 (sI σ) 3 a (((sI σ) 3 a) - q0)) 3 b) - q0)) 7 a) + q0)) 7 b (((s1 (s1 (s1 (sI σ) 3 a (((sI σ) 3 a) - q0)) 3 b (((s1 (sI σ) 3 a (((sI σ) 3 a) - q0)) 3 b) - q0)) 7 a (((s1 (s1 (sI σ) 3 a (((sI σ) 3 a) - q0)) 3 b (((s1 (sI σ) 3 a (((sI σ) 3 a) - q0)) 3 b) - q0)) 7 a) + q0)) 7 b) + q0)), (sph σ, srf σ, sbd σ, srk σ), stn σ, s1 (s1 (sT σ) 0 (stn σ) (nI a)) 1 (stn σ) (nI b), sal σ) ε := hR
    refine lv_aload_n S.1 S.2.1 d_M_deal_90 rfl (lv_at hl 0 rfl) ?_
    refine m_get S hw cl_M hR.obj 18 (by decide) g706 (fun _ h => h) rfl d_M_deal_91 ?_
    refine lv_aload_n S.1 S.2.1 d_M_deal_94 rfl (lv_at hl 0 rfl) ?_
    refine m_get S hw cl_M hR.obj 15 (by decide) g703 (fun _ h => h) rfl d_M_deal_95 ?_
    refine lv_iload_n S.1 S.2.1 d_M_deal_98 rfl (lv_at hl 3 rfl) ?_
    refine m_rstT (o := stn σ) (v := p0) S hw hR 2 (by decide) (by omega) d_M_deal_99 (fun H locs M13 hR hw => ?_)
    have hR : RQ γ _ M13 μ ((sn σ, s1 (s1 (s1 (s1 (sI σ) 3 a (((sI σ) 3 a) - q0)) 3 b (((s1 (sI σ) 3 a (((sI σ) 3 a) - q0)) 3 b) - q0)) 7 a (((s1 (s1 (sI σ) 3 a (((sI σ) 3 a) - q0)) 3 b (((s1 (sI σ) 3 a (((sI σ) 3 a) - q0)) 3 b) - q0)) 7 a) + q0)) 7 b (((s1 (s1 (s1 (sI σ) 3 a (((sI σ) 3 a) - q0)) 3 b (((s1 (sI σ) 3 a (((sI σ) 3 a) - q0)) 3 b) - q0)) 7 a (((s1 (s1 (sI σ) 3 a (((sI σ) 3 a) - q0)) 3 b (((s1 (sI σ) 3 a (((sI σ) 3 a) - q0)) 3 b) - q0)) 7 a) + q0)) 7 b) + q0)), (sph σ, srf σ, sbd σ, srk σ), stn σ, s1 (s1 (s1 (sT σ) 0 (stn σ) (nI a)) 1 (stn σ) (nI b)) 2 (stn σ) p0, sal σ) ε := hR
    refine lv_aload_n S.1 S.2.1 d_M_deal_100 rfl (lv_at hl 0 rfl) ?_
    refine m_get S hw cl_M hR.obj 19 (by decide) g707 (fun _ h => h) rfl d_M_deal_101 ?_
    refine lv_aload_n S.1 S.2.1 d_M_deal_104 rfl (lv_at hl 0 rfl) ?_
    refine m_get S hw cl_M hR.obj 15 (by decide) g703 (fun _ h => h) rfl d_M_deal_105 ?_
    refine lv_iload S.1 S.2.1 d_M_deal_108 (lv_at hl 4 rfl) ?_
    refine m_rstT (o := stn σ) (v := q0) S hw hR 3 (by decide) (by omega) d_M_deal_110 (fun H locs M14 hR hw => ?_)
    have hR : RQ γ _ M14 μ ((sn σ, s1 (s1 (s1 (s1 (sI σ) 3 a (((sI σ) 3 a) - q0)) 3 b (((s1 (sI σ) 3 a (((sI σ) 3 a) - q0)) 3 b) - q0)) 7 a (((s1 (s1 (sI σ) 3 a (((sI σ) 3 a) - q0)) 3 b (((s1 (sI σ) 3 a (((sI σ) 3 a) - q0)) 3 b) - q0)) 7 a) + q0)) 7 b (((s1 (s1 (s1 (sI σ) 3 a (((sI σ) 3 a) - q0)) 3 b (((s1 (sI σ) 3 a (((sI σ) 3 a) - q0)) 3 b) - q0)) 7 a (((s1 (s1 (sI σ) 3 a (((sI σ) 3 a) - q0)) 3 b (((s1 (sI σ) 3 a (((sI σ) 3 a) - q0)) 3 b) - q0)) 7 a) + q0)) 7 b) + q0)), (sph σ, srf σ, sbd σ, srk σ), stn σ, s1 (s1 (s1 (s1 (sT σ) 0 (stn σ) (nI a)) 1 (stn σ) (nI b)) 2 (stn σ) p0) 3 (stn σ) q0, sal σ) ε := hR
    refine lv_aload_n S.1 S.2.1 d_M_deal_111 rfl (lv_at hl 0 rfl) ?_
    refine lv_dup S.1 S.2.1 d_M_deal_112 rfl ?_
    refine m_get S hw cl_M hR.obj 15 (by decide) g703 (fun _ h => h) rfl d_M_deal_113 ?_
    refine lv_iconst (v := 1) S.1 S.2.1 d_M_deal_116 (by decide) ?_
    refine lv_iadd S.1 S.2.1 d_M_deal_117 ?_
    refine W.eq (g2 := F0 m 118 ls [.int (nI (stn σ + 1)), .ref (rx μ)]) (congrArg (fun z => F0 m 118 ls [.int z, .ref (rx μ)]) (nI_1 _)) ?_
    refine m_rput (σ' := ((sn σ, s1 (s1 (s1 (s1 (sI σ) 3 a (((sI σ) 3 a) - q0)) 3 b (((s1 (sI σ) 3 a (((sI σ) 3 a) - q0)) 3 b) - q0)) 7 a (((s1 (s1 (sI σ) 3 a (((sI σ) 3 a) - q0)) 3 b (((s1 (sI σ) 3 a (((sI σ) 3 a) - q0)) 3 b) - q0)) 7 a) + q0)) 7 b (((s1 (s1 (s1 (sI σ) 3 a (((sI σ) 3 a) - q0)) 3 b (((s1 (sI σ) 3 a (((sI σ) 3 a) - q0)) 3 b) - q0)) 7 a (((s1 (s1 (sI σ) 3 a (((sI σ) 3 a) - q0)) 3 b (((s1 (sI σ) 3 a (((sI σ) 3 a) - q0)) 3 b) - q0)) 7 a) + q0)) 7 b) + q0)), (sph σ, srf σ, sbd σ, srk σ), stn σ + 1, s1 (s1 (s1 (s1 (sT σ) 0 (stn σ) (nI a)) 1 (stn σ) (nI b)) 2 (stn σ) p0) 3 (stn σ) q0, sal σ)) (ε' := ε) S hw hR 15 (by decide) g703 rfl rfl rfl d_M_deal_118 rfl (fun i hi => rfl) (fun H locs M15 hR hw => ?_)
    refine lv_aload_n S.1 S.2.1 d_M_deal_121 rfl (lv_at hl 0 rfl) ?_
    refine lv_dup S.1 S.2.1 d_M_deal_122 rfl ?_
    refine m_get S hw cl_M hR.obj 20 (by decide) g708 (fun _ h => h) rfl d_M_deal_123 ?_
    refine lv_iload S.1 S.2.1 d_M_deal_126 (lv_at hl 4 rfl) ?_
    refine lv_i2l S.1 S.2.1 d_M_deal_128 rfl ?_
    refine lv_ladd S.1 S.2.1 d_M_deal_129 ?_
    refine m_rput (σ' := ((sn σ, s1 (s1 (s1 (s1 (sI σ) 3 a (((sI σ) 3 a) - q0)) 3 b (((s1 (sI σ) 3 a (((sI σ) 3 a) - q0)) 3 b) - q0)) 7 a (((s1 (s1 (sI σ) 3 a (((sI σ) 3 a) - q0)) 3 b (((s1 (sI σ) 3 a (((sI σ) 3 a) - q0)) 3 b) - q0)) 7 a) + q0)) 7 b (((s1 (s1 (s1 (sI σ) 3 a (((sI σ) 3 a) - q0)) 3 b (((s1 (sI σ) 3 a (((sI σ) 3 a) - q0)) 3 b) - q0)) 7 a (((s1 (s1 (sI σ) 3 a (((sI σ) 3 a) - q0)) 3 b (((s1 (sI σ) 3 a (((sI σ) 3 a) - q0)) 3 b) - q0)) 7 a) + q0)) 7 b) + q0)), (sph σ, srf σ, sbd σ, srk σ), stn σ + 1, s1 (s1 (s1 (s1 (sT σ) 0 (stn σ) (nI a)) 1 (stn σ) (nI b)) 2 (stn σ) p0) 3 (stn σ) q0, (sal σ) + q0.toInt64)) (ε' := ε) S hw hR 20 (by decide) g708 rfl rfl rfl d_M_deal_130 rfl (fun i hi => rfl) (fun H locs M16 hR hw => ?_)
    exact m_vret S hlk hr hw (by have e : ¬ sI σ 1 a = 0 := h58; unfold xDeal; rw [if_neg e, if_neg e]; exact hR) (Nat.le_refl _) (Nat.le_refl _) d_M_deal_133
set_option maxHeartbeats 4000000 in
set_option maxRecDepth 100000 in
theorem c_M_takes (l : Launch) (γ : mG) (M : mMap) (μ : RK) (σ : St) (ε : RE) (hR : RM γ M μ σ ε) (hn : sn σ ≤ 250) (o : Nat) (ho : o < sn σ) (p0 : Int32) : Met l y_M_takes w_M_takes ({ frames := 0, cells := 0, slots := 0, locals := 0 } : Room) (mPc γ M [.ref (rx μ), .int (nI o), .int p0]) (mQi γ (fun r M' => r = b2i (tk (sI σ) o p0) ∧ M' = M)) 0 0 (mA (gz γ)) := by
  refine m_enter (by decide) (Nat.le_of_ble_eq_true rfl) ?_
  intro p e s m below meth c ls S hr hlk hnm hl hw
  have hl : lv_has ls 3 [(0, .ref (rx μ)), (1, .int (nI o)), (2, .int p0)] := hl
  have hR := hR.q
  refine lv_aload_n S.1 S.2.1 d_M_takes_0 rfl (lv_at hl 0 rfl) ?_
  refine m_get S hw cl_M hR.obj 8 (by decide) g696 (fun _ h => h) rfl d_M_takes_1 ?_
  refine lv_iload_n S.1 S.2.1 d_M_takes_4 rfl (lv_at hl 1 rfl) ?_
  refine m_rld (o := o) S hw hR 2 (by decide) (by omega) d_M_takes_5 ?_
  refine lv_if_eq (tgt := 41) S.1 S.2.1 d_M_takes_6 rfl (fun h6 => ?_) (fun h6 => ?_)
  · refine lv_iconst (v := 1) S.1 S.2.1 d_M_takes_41 (by decide) ?_
    refine lv_goto (tgt := 46) S.1 S.2.1 d_M_takes_42 rfl ?_
    exact m_iret S hlk hr rfl hw (⟨(congrArg b2i (show tk (sI σ) o p0 = true from by unfold tk; rw [decide_eq_true h6, Bool.true_or])).symm, rfl⟩) (Nat.le_refl _) (Nat.le_refl _) d_M_takes_46
  · refine lv_aload_n S.1 S.2.1 d_M_takes_9 rfl (lv_at hl 0 rfl) ?_
    refine m_get S hw cl_M hR.obj 7 (by decide) g695 (fun _ h => h) rfl d_M_takes_10 ?_
    refine lv_iload_n S.1 S.2.1 d_M_takes_13 rfl (lv_at hl 1 rfl) ?_
    refine m_rldz (o := o) S hw hR (by omega) d_M_takes_14 ?_
    refine lv_if_eq (tgt := 31) S.1 S.2.1 d_M_takes_15 rfl (fun h15 => ?_) (fun h15 => ?_)
    · refine lv_iload_n S.1 S.2.1 d_M_takes_31 rfl (lv_at hl 2 rfl) ?_
      refine lv_aload_n S.1 S.2.1 d_M_takes_32 rfl (lv_at hl 0 rfl) ?_
      refine m_get S hw cl_M hR.obj 8 (by decide) g696 (fun _ h => h) rfl d_M_takes_33 ?_
      refine lv_iload_n S.1 S.2.1 d_M_takes_36 rfl (lv_at hl 1 rfl) ?_
      refine m_rld (o := o) S hw hR 2 (by decide) (by omega) d_M_takes_37 ?_
      refine lv_icmp_lt (tgt := 45) S.1 S.2.1 d_M_takes_38 rfl (fun h38 => ?_) (fun h38 => ?_)
      · refine lv_iconst (v := 0) S.1 S.2.1 d_M_takes_45 (by decide) ?_
        exact m_iret S hlk hr rfl hw (⟨(congrArg b2i (show tk (sI σ) o p0 = false from by unfold tk; rw [decide_eq_false h6, Bool.false_or, if_pos h15]; exact decide_eq_false (Int32.not_le.mpr h38))).symm, rfl⟩) (Nat.le_refl _) (Nat.le_refl _) d_M_takes_46
      · refine lv_iconst (v := 1) S.1 S.2.1 d_M_takes_41 (by decide) ?_
        refine lv_goto (tgt := 46) S.1 S.2.1 d_M_takes_42 rfl ?_
        exact m_iret S hlk hr rfl hw (⟨(congrArg b2i (show tk (sI σ) o p0 = true from by unfold tk; rw [decide_eq_false h6, Bool.false_or, if_pos h15]; exact decide_eq_true (Int32.not_lt.mp h38))).symm, rfl⟩) (Nat.le_refl _) (Nat.le_refl _) d_M_takes_46
    · refine lv_iload_n S.1 S.2.1 d_M_takes_18 rfl (lv_at hl 2 rfl) ?_
      refine lv_aload_n S.1 S.2.1 d_M_takes_19 rfl (lv_at hl 0 rfl) ?_
      refine m_get S hw cl_M hR.obj 8 (by decide) g696 (fun _ h => h) rfl d_M_takes_20 ?_
      refine lv_iload_n S.1 S.2.1 d_M_takes_23 rfl (lv_at hl 1 rfl) ?_
      refine m_rld (o := o) S hw hR 2 (by decide) (by omega) d_M_takes_24 ?_
      refine lv_icmp_gt (tgt := 45) S.1 S.2.1 d_M_takes_25 rfl (fun h25 => ?_) (fun h25 => ?_)
      · refine lv_iconst (v := 0) S.1 S.2.1 d_M_takes_45 (by decide) ?_
        exact m_iret S hlk hr rfl hw (⟨(congrArg b2i (show tk (sI σ) o p0 = false from by unfold tk; rw [decide_eq_false h6, Bool.false_or, if_neg h15]; exact decide_eq_false (Int32.not_le.mpr h25))).symm, rfl⟩) (Nat.le_refl _) (Nat.le_refl _) d_M_takes_46
      · refine lv_goto (tgt := 41) S.1 S.2.1 d_M_takes_28 rfl ?_
        refine lv_iconst (v := 1) S.1 S.2.1 d_M_takes_41 (by decide) ?_
        refine lv_goto (tgt := 46) S.1 S.2.1 d_M_takes_42 rfl ?_
        exact m_iret S hlk hr rfl hw (⟨(congrArg b2i (show tk (sI σ) o p0 = true from by unfold tk; rw [decide_eq_false h6, Bool.false_or, if_neg h15]; exact decide_eq_true (Int32.not_lt.mp h25))).symm, rfl⟩) (Nat.le_refl _) (Nat.le_refl _) d_M_takes_46
set_option maxHeartbeats 4000000 in
set_option maxRecDepth 100000 in
theorem c_M_fitsPeak (l : Launch) (γ : mG) (M : mMap) (q0 k0 : Int32) : Met l y_M_fitsPeak w_M_fitsPeak ({ frames := 0, cells := 0, slots := 0, locals := 0 } : Room) (mPc γ M [.int q0, .int k0]) (mQi γ (fun r M' => r = b2i (fpk q0 k0) ∧ M' = M)) 0 0 (mA (gz γ)) := by
  refine m_enter (by decide) (Nat.le_of_ble_eq_true rfl) ?_
  intro p e s m below meth c ls S hr hlk hnm hl hw
  have hl : lv_has ls 2 [(0, .int q0), (1, .int k0)] := hl
  refine lv_iload_n S.1 S.2.1 d_M_fitsPeak_0 rfl (lv_at hl 1 rfl) ?_
  refine lv_if_eq (tgt := 12) S.1 S.2.1 d_M_fitsPeak_1 rfl (fun h1 => ?_) (fun h1 => ?_)
  · refine lv_iconst (v := 1) S.1 S.2.1 d_M_fitsPeak_12 (by decide) ?_
    refine lv_goto (tgt := 17) S.1 S.2.1 d_M_fitsPeak_13 rfl ?_
    exact m_iret S hlk hr rfl hw (⟨(congrArg b2i (show fpk q0 k0 = true from by unfold fpk; rw [decide_eq_true h1]; rfl)).symm, rfl⟩) (Nat.le_refl _) (Nat.le_refl _) d_M_fitsPeak_17
  · refine lv_iload_n S.1 S.2.1 d_M_fitsPeak_4 rfl (lv_at hl 0 rfl) ?_
    refine lv_bipush (v := 50) S.1 S.2.1 d_M_fitsPeak_5 (by decide) ?_
    refine lv_iload_n S.1 S.2.1 d_M_fitsPeak_7 rfl (lv_at hl 1 rfl) ?_
    refine lv_imul S.1 S.2.1 d_M_fitsPeak_8 ?_
    refine lv_icmp_gt (tgt := 16) S.1 S.2.1 d_M_fitsPeak_9 rfl (fun h9 => ?_) (fun h9 => ?_)
    · refine lv_iconst (v := 0) S.1 S.2.1 d_M_fitsPeak_16 (by decide) ?_
      exact m_iret S hlk hr rfl hw (⟨(congrArg b2i (show fpk q0 k0 = false from by unfold fpk; rw [decide_eq_false h1, decide_eq_false (Int32.not_le.mpr h9)]; rfl)).symm, rfl⟩) (Nat.le_refl _) (Nat.le_refl _) d_M_fitsPeak_17
    · refine lv_iconst (v := 1) S.1 S.2.1 d_M_fitsPeak_12 (by decide) ?_
      refine lv_goto (tgt := 17) S.1 S.2.1 d_M_fitsPeak_13 rfl ?_
      exact m_iret S hlk hr rfl hw (⟨(congrArg b2i (show fpk q0 k0 = true from by unfold fpk; rw [decide_eq_true (Int32.not_lt.mp h9), Bool.or_true])).symm, rfl⟩) (Nat.le_refl _) (Nat.le_refl _) d_M_fitsPeak_17
set_option maxHeartbeats 4000000 in
set_option maxRecDepth 100000 in
theorem c_M_isBeyond (l : Launch) (γ : mG) (M : mMap) (μ : RK) (σ : St) (ε : RE) (hR : RM γ M μ σ ε) (hB : BD σ) (p0 : Int32) (hp0 : 0 ≤ p0.toInt ∧ p0.toInt ≤ 2000) : Met l y_M_isBeyond w_M_isBeyond ({ frames := 1, cells := 0, slots := 0, locals := 21 } : Room) (mPc γ M [.ref (rx μ), .int p0]) (mQi γ (fun r M' => r = b2i (byc (srf σ) (sbd σ) p0) ∧ M' = M)) 0 0 (mA (gz γ)) := by
  refine m_enter (by decide) (Nat.le_of_ble_eq_true rfl) ?_
  intro p e s m below meth c ls S hr hlk hnm hl hw
  have hl : lv_has ls 2 [(0, .ref (rx μ)), (1, .int p0)] := hl
  have hR := hR.q
  refine lv_aload_n S.1 S.2.1 d_M_isBeyond_0 rfl (lv_at hl 0 rfl) ?_
  refine m_get S hw cl_M hR.obj 3 (by decide) g691 (fun _ h => h) rfl d_M_isBeyond_1 ?_
  refine lv_if_le (tgt := 30) S.1 S.2.1 d_M_isBeyond_4 rfl (fun h4 => ?_) (fun h4 => ?_)
  · refine lv_iconst (v := 0) S.1 S.2.1 d_M_isBeyond_30 (by decide) ?_
    exact m_iret S hlk hr rfl hw (⟨(congrArg b2i (show byc (srf σ) (sbd σ) p0 = false from (isB_byc hB hp0).symm.trans (show isB σ p0 = false from by unfold isB; rw [decide_eq_false (Int32.not_lt.mpr h4), Bool.false_and]))).symm, rfl⟩) (Nat.le_refl _) (Nat.le_refl _) d_M_isBeyond_31
  · refine lv_iload_n S.1 S.2.1 d_M_isBeyond_7 rfl (lv_at hl 1 rfl) ?_
    refine lv_aload_n S.1 S.2.1 d_M_isBeyond_8 rfl (lv_at hl 0 rfl) ?_
    refine m_get S hw cl_M hR.obj 2 (by decide) g690 (fun _ h => h) rfl d_M_isBeyond_9 ?_
    refine lv_isub S.1 S.2.1 d_M_isBeyond_12 ?_
    refine lv_i2l S.1 S.2.1 d_M_isBeyond_13 rfl ?_
    refine m_cl hw (va_runS (As := [.long ((p0 - (srf σ)).toInt64)]) (rest := []) S (c_M_abs l γ M ((p0 - (srf σ)).toInt64)) (m_cwS 1 S g809 g810 g48 g811 rfl rfl ⟨by decide +kernel, by decide +kernel, by decide +kernel⟩ ⟨(Nat.le_of_ble_eq_true rfl), (Nat.le_of_ble_eq_true rfl)⟩) hw.preS rfl rfl hl.1 rfl (lv_room (Nat.le_of_ble_eq_true rfl)) d_M_isBeyond_14 ⟨(Nat.zero_le _), (Nat.zero_le _)⟩) (fun r1 M1 H locs hp hw => ?_)
    obtain ⟨rfl, hM1⟩ := hp
    rw [hM1] at hw
    refine lv_aload_n S.1 S.2.1 d_M_isBeyond_17 rfl (lv_at hl 0 rfl) ?_
    refine m_get S hw cl_M hR.obj 3 (by decide) g691 (fun _ h => h) rfl d_M_isBeyond_18 ?_
    refine lv_i2l S.1 S.2.1 d_M_isBeyond_21 rfl ?_
    refine W.lcmp S.1 S.2.1 d_M_isBeyond_22 ?_
    refine lv_if_le (tgt := 30) S.1 S.2.1 d_M_isBeyond_23 rfl (fun h23 => ?_) (fun h23 => ?_)
    · refine lv_iconst (v := 0) S.1 S.2.1 d_M_isBeyond_30 (by decide) ?_
      exact m_iret S hlk hr rfl hw (⟨(congrArg b2i (show byc (srf σ) (sbd σ) p0 = false from (isB_byc hB hp0).symm.trans (show isB σ p0 = false from by unfold isB; rw [decide_eq_false (fun z => absurd ((lg_cmp_le _ _).mp h23) (Int64.not_le.mpr z)), Bool.and_false]))).symm, rfl⟩) (Nat.le_refl _) (Nat.le_refl _) d_M_isBeyond_31
    · refine lv_iconst (v := 1) S.1 S.2.1 d_M_isBeyond_26 (by decide) ?_
      refine lv_goto (tgt := 31) S.1 S.2.1 d_M_isBeyond_27 rfl ?_
      exact m_iret S hlk hr rfl hw (⟨(congrArg b2i (show byc (srf σ) (sbd σ) p0 = true from (isB_byc hB hp0).symm.trans (show isB σ p0 = true from by unfold isB; rw [decide_eq_true (Int32.not_le.mp h4), Bool.true_and]; exact decide_eq_true (Int64.not_le.mp (fun z => h23 ((lg_cmp_le _ _).mpr z)))))).symm, rfl⟩) (Nat.le_refl _) (Nat.le_refl _) d_M_isBeyond_31
