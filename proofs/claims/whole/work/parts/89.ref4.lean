/-! The reference: amend, call, band, order, trade, astray, told, at, depth -/
theorem nI_is2 {j : Int32} {n : Nat} (hn : n ≤ 100000) (h0 : ¬ j < 0) (h : j < nI n) : ∃ k, k < n ∧ j = nI k := by
  have h1 : (nI n).toInt = n := nI_toInt (by omega)
  have h2 := Int32.lt_iff_toInt_lt.mp h
  have h3 := Int32.le_iff_toInt_le.mp (Int32.not_lt.mp h0)
  rw [show (0 : Int32).toInt = 0 by decide] at h3
  rw [h1] at h2
  refine ⟨j.toInt.toNat, by omega, Int32.toInt_inj.mp ?_⟩
  rw [nI_toInt (by omega)]
  omega
theorem nI_m1 {n : Nat} (h : 0 < n) : nI n - 1 = nI (n - 1) := by
  have := nI_pred (n - 1)
  rw [show n - 1 + 1 = n by omega] at this
  exact this
theorem isT_t {n k : Nat} (hn : n ≤ 100000) (hk : k < n) : rg 0 (nI n - 1) (nI k) = true := by
  rw [nI_m1 (by omega)]
  exact rg_in (nI_pos (by omega)) (nI_nlt (by omega) (by omega))
theorem isT_f {n : Nat} (hn : n ≤ 100000) {j : Int32} (hj : ∀ k, k < n → ¬ j = nI k) : rg 0 (nI n - 1) j = false := by
  by_cases h0 : j < 0
  · exact rg_lo h0
  · refine rg_hi (Int32.not_le.mp (fun z => ?_))
    by_cases hz : n = 0
    · subst hz
      have h1 := Int32.le_iff_toInt_le.mp z
      have h2 := Int32.le_iff_toInt_le.mp (Int32.not_lt.mp h0)
      rw [show (nI 0 - 1).toInt = -1 by decide] at h1
      rw [i0] at h2
      omega
    · rw [nI_m1 (by omega)] at z
      have h1 := Int32.le_iff_toInt_le.mp z
      rw [nI_toInt (by omega)] at h1
      obtain ⟨k, hk, ek⟩ := nI_is2 (n := n) hn h0 (Int32.lt_iff_toInt_lt.mpr (by rw [nI_toInt (by omega)]; omega))
      exact hj k hk ek
def ctS (I : Co) (s : Int32) : Nat → Nat
  | 0 => 0
  | k + 1 => ctS I s k + (if onS I s k = true then 1 else 0)
theorem ctS_t {I : Co} {s : Int32} {k : Nat} (h : onS I s k = true) : ctS I s (k + 1) = ctS I s k + 1 := by show _ + (if _ then _ else _) = _; rw [if_pos h]
theorem ctS_f {I : Co} {s : Int32} {k : Nat} (h : onS I s k = false) : ctS I s (k + 1) = ctS I s k := by show _ + (if _ then _ else _) = _; rw [if_neg (by rw [h]; decide), Nat.add_zero]
theorem ctS_le {I : Co} {s : Int32} : ∀ k, ctS I s k ≤ k := by
  intro k
  induction k with
  | zero => exact Nat.le_refl _
  | succ k ih => show _ + (if _ then _ else _) ≤ _; split <;> omega
def tld (σ : St) (b a : Nat) (w : Int32) : Int64 := if w = 0 then (sph σ).toInt64 else if w = 1 then (srf σ).toInt64 else if w = 2 then (sbd σ).toInt64 else if w = 3 then (nI (sn σ)).toInt64 else if w = 4 then (nI b).toInt64 else if w = 5 then (nI a).toInt64 else if w = 6 then (nI (stn σ)).toInt64 else if w = 7 then sal σ else -1
theorem told_tld {σ : St} {L : Nat → List Nat} {w : Int32} : told σ L w = tld σ (L 1).length (L 2).length w := rfl
def bfc (I : Co) (b : Int32) (o : Nat) : Nat → Nat
  | 0 => 0
  | k + 1 => bfc I b o k + (if (onS I b k && bf I k o) = true then 1 else 0)
theorem bfc_t {I : Co} {b : Int32} {o k : Nat} (h : (onS I b k && bf I k o) = true) : bfc I b o (k + 1) = bfc I b o k + 1 := by show _ + (if _ then _ else _) = _; rw [if_pos h]
theorem bfc_f {I : Co} {b : Int32} {o k : Nat} (h : (onS I b k && bf I k o) = false) : bfc I b o (k + 1) = bfc I b o k := by show _ + (if _ then _ else _) = _; rw [if_neg (by rw [h]; decide), Nat.add_zero]
theorem bfc_le {I : Co} {b : Int32} {o : Nat} : ∀ k, bfc I b o k ≤ k := by
  intro k
  induction k with
  | zero => exact Nat.le_refl _
  | succ k ih => show _ + (if _ then _ else _) ≤ _; split <;> omega
def atR (I : Co) (n : Nat) (b x : Int32) : Nat → Int32
  | 0 => -1
  | k + 1 => if onS I b k = true ∧ nI (bfc I b k n) = x then nI k else atR I n b x k
def dR (I : Co) (b p f : Int32) : Nat → Int64 := gs (fun o => if (onS I b o && decide (I 2 o = p)) = true then (if f = 0 then (I 4 o).toInt64 else (I 3 o).toInt64) else 0)
theorem dR_t {I : Co} {b p f : Int32} {k : Nat} (h : (onS I b k && decide (I 2 k = p)) = true) : dR I b p f (k + 1) = dR I b p f k + (if f = 0 then (I 4 k).toInt64 else (I 3 k).toInt64) := by show _ + (if _ then _ else _) = _; rw [if_pos h]; rfl
theorem dR_f {I : Co} {b p f : Int32} {k : Nat} (h : (onS I b k && decide (I 2 k = p)) = false) : dR I b p f (k + 1) = dR I b p f k + 0 := by show _ + (if _ then _ else _) = _; rw [if_neg (by rw [h]; decide)]; rfl
theorem mn_le {x y : Int32} (h : x < y) : x = mn x y := by unfold mn; rw [if_neg (Int32.not_lt.mpr (Int32.le_of_lt h))]
theorem mn_ge {x y : Int32} (h : y ≤ x) : y = mn x y := by
  unfold mn
  by_cases e : y < x
  · rw [if_pos e]
  · rw [if_neg e]; exact Int32.le_antisymm h (Int32.not_lt.mp e)
/-- how the reference lets one come again -/
def rAm (σ : St) (k : Nat) (p q : Int32) : St := ((sn σ, s1 (s1 (sI (xEnd σ k)) 2 k p) 3 k q), σ.2)
set_option maxHeartbeats 4000000 in
set_option maxRecDepth 100000 in
theorem c_M_amendJ (l : Launch) (γ : mG) (M : mMap) (μ : RK) (σ : St) (ε : RE) (hR : RM γ M μ σ ε) (hn : sn σ ≤ 250) (j : Int32) (hj : ∀ k, k < sn σ → ¬ j = nI k) (p0 q0 : Int32) : Met l y_M_amend w_M_amend ({ frames := 2, cells := 0, slots := 0, locals := 43 } : Room) (mPc γ M [.ref (rx μ), .int j, .int p0, .int q0]) (mQi γ (fun _ M' => RQ γ M M' μ σ (1, ε.2))) 0 0 (mA (gz γ)) := by
  refine m_enter (by decide) (Nat.le_of_ble_eq_true rfl) ?_
  intro p e s m below meth c ls S hr hlk hnm hl hw
  have hl : lv_has ls 4 [(0, .ref (rx μ)), (1, .int j), (2, .int p0), (3, .int q0)] := hl
  have hR := hR.q
  refine lv_aload_n S.1 S.2.1 d_M_amend_0 rfl (lv_at hl 0 rfl) ?_
  refine lv_aload_n S.1 S.2.1 d_M_amend_1 rfl (lv_at hl 0 rfl) ?_
  refine lv_iload_n S.1 S.2.1 d_M_amend_2 rfl (lv_at hl 1 rfl) ?_
  refine m_ci hw (va_runV (As := [.int j]) (rest := [.ref (rx μ)]) S (c_M_isOrder l γ M μ σ ε hR.1 j) (m_cwV 1 S g844 g846 g37 g48 g847 rfl rfl ⟨by decide +kernel, by decide +kernel, by decide +kernel⟩ ⟨(Nat.le_of_ble_eq_true rfl), (Nat.le_of_ble_eq_true rfl)⟩) (hw.preV hR.obj cl_M.1) rfl rfl hl.1 rfl (lv_room (Nat.le_of_ble_eq_true rfl)) d_M_amend_3 ⟨(Nat.zero_le _), (Nat.zero_le _)⟩) (fun r1 M1 H locs hp hw => ?_)
  obtain ⟨rfl, hM1⟩ := hp
  rw [hM1] at hw
  refine lv_if_eq (tgt := 30) S.1 S.2.1 d_M_amend_6 rfl (fun _ => ?_) (fun h => absurd (b2i_0.mpr (isO_f hn hj)) h)
  refine lv_iconst (v := 1) S.1 S.2.1 d_M_amend_30 (by decide) ?_
  refine lv_goto (tgt := 35) S.1 S.2.1 d_M_amend_31 rfl ?_
  refine m_rput (σ' := σ) (ε' := (1, ε.2.1, ε.2.2.1, ε.2.2.2.1, ε.2.2.2.2.1, ε.2.2.2.2.2)) S hw hR 0 (by decide) g688 rfl rfl rfl d_M_amend_35 rfl (fun i hi => rfl) (fun H locs N1 hR hw => ?_)
  refine lv_aload_n S.1 S.2.1 d_M_amend_38 rfl (lv_at hl 0 rfl) ?_
  refine m_get S hw cl_M hR.obj 0 (by decide) g688 (fun _ h => h) rfl d_M_amend_39 ?_
  refine lv_if_ne (tgt := 87) S.1 S.2.1 d_M_amend_42 rfl (fun _ => ?_) (fun h => absurd h (show ¬ (1 : Int32) = 0 by decide))
  refine lv_aload_n S.1 S.2.1 d_M_amend_87 rfl (lv_at hl 0 rfl) ?_
  refine m_get S hw cl_M hR.obj 0 (by decide) g688 (fun _ h => h) rfl d_M_amend_88 ?_
  refine lv_if_le (tgt := 96) S.1 S.2.1 d_M_amend_91 rfl (fun h => absurd h (show ¬ (1 : Int32) ≤ 0 by decide)) (fun _ => ?_)
  refine lv_iconst (v := 0) S.1 S.2.1 d_M_amend_94 (by decide) ?_
  exact m_iret S hlk hr rfl hw hR (Nat.le_refl _) (Nat.le_refl _) d_M_amend_95
set_option maxHeartbeats 4000000 in
set_option maxRecDepth 100000 in
theorem c_M_amendA (l : Launch) (γ : mG) (M : mMap) (μ : RK) (σ : St) (ε : RE) (hR : RM γ M μ σ ε) (hn : sn σ ≤ 250) (k : Nat) (hk : k < sn σ) (p0 q0 : Int32) (hv : (rg 0 2000 p0 && rg 1 100000 q0 && fpk q0 (sI σ 8 k)) = false) : Met l y_M_amend w_M_amend ({ frames := 2, cells := 0, slots := 0, locals := 43 } : Room) (mPc γ M [.ref (rx μ), .int (nI k), .int p0, .int q0]) (mQi γ (fun _ M' => RQ γ M M' μ σ (1, ε.2))) 0 0 (mA (gz γ)) := by
  refine m_enter (by decide) (Nat.le_of_ble_eq_true rfl) ?_
  intro p e s m below meth c ls S hr hlk hnm hl hw
  have hl : lv_has ls 4 [(0, .ref (rx μ)), (1, .int (nI k)), (2, .int p0), (3, .int q0)] := hl
  have hR := hR.q
  refine lv_aload_n S.1 S.2.1 d_M_amend_0 rfl (lv_at hl 0 rfl) ?_
  refine lv_aload_n S.1 S.2.1 d_M_amend_1 rfl (lv_at hl 0 rfl) ?_
  refine lv_iload_n S.1 S.2.1 d_M_amend_2 rfl (lv_at hl 1 rfl) ?_
  refine m_ci hw (va_runV (As := [.int (nI k)]) (rest := [.ref (rx μ)]) S (c_M_isOrder l γ M μ σ ε hR.1 (nI k)) (m_cwV 1 S g844 g846 g37 g48 g847 rfl rfl ⟨by decide +kernel, by decide +kernel, by decide +kernel⟩ ⟨(Nat.le_of_ble_eq_true rfl), (Nat.le_of_ble_eq_true rfl)⟩) (hw.preV hR.obj cl_M.1) rfl rfl hl.1 rfl (lv_room (Nat.le_of_ble_eq_true rfl)) d_M_amend_3 ⟨(Nat.zero_le _), (Nat.zero_le _)⟩) (fun r1 M1 H locs hp hw => ?_)
  obtain ⟨rfl, hM1⟩ := hp
  rw [hM1] at hw
  refine lv_if_eq (tgt := 30) S.1 S.2.1 d_M_amend_6 rfl (fun h => absurd h (b2i_n0.mpr (isO_t hn hk))) (fun _ => ?_)
  refine lv_iload_n S.1 S.2.1 d_M_amend_9 rfl (lv_at hl 2 rfl) ?_
  refine lv_iconst (v := 0) S.1 S.2.1 d_M_amend_10 (by decide) ?_
  refine lv_sipush (v := 2000) S.1 S.2.1 d_M_amend_11 (by decide) ?_
  refine m_ci hw (va_runS (As := [.int p0, .int 0, .int 2000]) (rest := [.ref (rx μ)]) S (c_M_in l γ M p0 0 2000) (m_cwS 3 S g778 g779 g48 g780 rfl rfl ⟨by decide +kernel, by decide +kernel, by decide +kernel⟩ ⟨(Nat.le_of_ble_eq_true rfl), (Nat.le_of_ble_eq_true rfl)⟩) hw.preS rfl rfl hl.1 rfl (lv_room (Nat.le_of_ble_eq_true rfl)) d_M_amend_14 ⟨(Nat.zero_le _), (Nat.zero_le _)⟩) (fun r1 M1 H locs hp hw => ?_)
  obtain ⟨rfl, hM1⟩ := hp
  rw [hM1] at hw
  refine lv_if_eq (tgt := 30) S.1 S.2.1 d_M_amend_17 rfl (fun h17 => ?_) (fun h17 => ?_)
  · refine lv_iconst (v := 1) S.1 S.2.1 d_M_amend_30 (by decide) ?_
    refine lv_goto (tgt := 35) S.1 S.2.1 d_M_amend_31 rfl ?_
    refine m_rput (σ' := σ) (ε' := (1, ε.2.1, ε.2.2.1, ε.2.2.2.1, ε.2.2.2.2.1, ε.2.2.2.2.2)) S hw hR 0 (by decide) g688 rfl rfl rfl d_M_amend_35 rfl (fun i hi => rfl) (fun H locs N1 hR hw => ?_)
    refine lv_aload_n S.1 S.2.1 d_M_amend_38 rfl (lv_at hl 0 rfl) ?_
    refine m_get S hw cl_M hR.obj 0 (by decide) g688 (fun _ h => h) rfl d_M_amend_39 ?_
    refine lv_if_ne (tgt := 87) S.1 S.2.1 d_M_amend_42 rfl (fun _ => ?_) (fun h => absurd h (show ¬ (1 : Int32) = 0 by decide))
    refine lv_aload_n S.1 S.2.1 d_M_amend_87 rfl (lv_at hl 0 rfl) ?_
    refine m_get S hw cl_M hR.obj 0 (by decide) g688 (fun _ h => h) rfl d_M_amend_88 ?_
    refine lv_if_le (tgt := 96) S.1 S.2.1 d_M_amend_91 rfl (fun h => absurd h (show ¬ (1 : Int32) ≤ 0 by decide)) (fun _ => ?_)
    refine lv_iconst (v := 0) S.1 S.2.1 d_M_amend_94 (by decide) ?_
    exact m_iret S hlk hr rfl hw hR (Nat.le_refl _) (Nat.le_refl _) d_M_amend_95
  · refine lv_iload_n S.1 S.2.1 d_M_amend_20 rfl (lv_at hl 3 rfl) ?_
    refine lv_iconst (v := 1) S.1 S.2.1 d_M_amend_21 (by decide) ?_
    refine lv_ldc S.1 S.2.1 S.2.2.2.1 (S.2.2.2.2 _ (gc g781)) d_M_amend_22 ?_
    refine m_ci hw (va_runS (As := [.int q0, .int 1, .int 100000]) (rest := [.ref (rx μ)]) S (c_M_in l γ M q0 1 100000) (m_cwS 3 S g778 g779 g48 g780 rfl rfl ⟨by decide +kernel, by decide +kernel, by decide +kernel⟩ ⟨(Nat.le_of_ble_eq_true rfl), (Nat.le_of_ble_eq_true rfl)⟩) hw.preS rfl rfl hl.1 rfl (lv_room (Nat.le_of_ble_eq_true rfl)) d_M_amend_24 ⟨(Nat.zero_le _), (Nat.zero_le _)⟩) (fun r1 M1 H locs hp hw => ?_)
    obtain ⟨rfl, hM1⟩ := hp
    rw [hM1] at hw
    refine lv_if_ne (tgt := 34) S.1 S.2.1 d_M_amend_27 rfl (fun h27 => ?_) (fun h27 => ?_)
    · refine lv_iconst (v := 0) S.1 S.2.1 d_M_amend_34 (by decide) ?_
      refine m_rput (σ' := σ) (ε' := (0, ε.2.1, ε.2.2.1, ε.2.2.2.1, ε.2.2.2.2.1, ε.2.2.2.2.2)) S hw hR 0 (by decide) g688 rfl rfl rfl d_M_amend_35 rfl (fun i hi => rfl) (fun H locs N2 hR hw => ?_)
      refine lv_aload_n S.1 S.2.1 d_M_amend_38 rfl (lv_at hl 0 rfl) ?_
      refine m_get S hw cl_M hR.obj 0 (by decide) g688 (fun _ h => h) rfl d_M_amend_39 ?_
      refine lv_if_ne (tgt := 87) S.1 S.2.1 d_M_amend_42 rfl (fun h => absurd (show (0 : Int32) = 0 by decide) h) (fun _ => ?_)
      refine lv_aload_n S.1 S.2.1 d_M_amend_45 rfl (lv_at hl 0 rfl) ?_
      refine lv_iload_n S.1 S.2.1 d_M_amend_46 rfl (lv_at hl 3 rfl) ?_
      refine lv_aload_n S.1 S.2.1 d_M_amend_47 rfl (lv_at hl 0 rfl) ?_
      refine m_get S hw cl_M hR.obj 14 (by decide) g702 (fun _ h => h) rfl d_M_amend_48 ?_
      refine lv_iload_n S.1 S.2.1 d_M_amend_51 rfl (lv_at hl 1 rfl) ?_
      refine m_rld (o := k) S hw hR 8 (by decide) (by omega) d_M_amend_52 ?_
      refine m_ci hw (va_runS (As := [.int q0, .int ((sI σ) 8 k)]) (rest := [.ref (rx μ)]) S (c_M_fitsPeak l γ N2 q0 ((sI σ) 8 k)) (m_cwS 2 S g782 g783 g48 g784 rfl rfl ⟨by decide +kernel, by decide +kernel, by decide +kernel⟩ ⟨(Nat.le_of_ble_eq_true rfl), (Nat.le_of_ble_eq_true rfl)⟩) hw.preS rfl rfl hl.1 rfl (lv_room (Nat.le_of_ble_eq_true rfl)) d_M_amend_53 ⟨(Nat.zero_le _), (Nat.zero_le _)⟩) (fun r1 M1 H locs hp hw => ?_)
      obtain ⟨rfl, hM1⟩ := hp
      rw [hM1] at hw
      refine lv_if_ne (tgt := 63) S.1 S.2.1 d_M_amend_56 rfl (fun h56 => ?_) (fun h56 => ?_)
      · exfalso
        rw [b2i_n0.mp h17, b2i_n0.mp h27, b2i_n0.mp h56] at hv
        cases hv
      · refine lv_iconst (v := 1) S.1 S.2.1 d_M_amend_59 (by decide) ?_
        refine lv_goto (tgt := 84) S.1 S.2.1 d_M_amend_60 rfl ?_
        refine m_rput (σ' := σ) (ε' := (1, ε.2.1, ε.2.2.1, ε.2.2.2.1, ε.2.2.2.2.1, ε.2.2.2.2.2)) S hw hR 0 (by decide) g688 rfl rfl rfl d_M_amend_84 rfl (fun i hi => rfl) (fun H locs N3 hR hw => ?_)
        refine lv_aload_n S.1 S.2.1 d_M_amend_87 rfl (lv_at hl 0 rfl) ?_
        refine m_get S hw cl_M hR.obj 0 (by decide) g688 (fun _ h => h) rfl d_M_amend_88 ?_
        refine lv_if_le (tgt := 96) S.1 S.2.1 d_M_amend_91 rfl (fun h => absurd h (show ¬ (1 : Int32) ≤ 0 by decide)) (fun _ => ?_)
        refine lv_iconst (v := 0) S.1 S.2.1 d_M_amend_94 (by decide) ?_
        exact m_iret S hlk hr rfl hw hR (Nat.le_refl _) (Nat.le_refl _) d_M_amend_95
    · refine lv_iconst (v := 1) S.1 S.2.1 d_M_amend_30 (by decide) ?_
      refine lv_goto (tgt := 35) S.1 S.2.1 d_M_amend_31 rfl ?_
      refine m_rput (σ' := σ) (ε' := (1, ε.2.1, ε.2.2.1, ε.2.2.2.1, ε.2.2.2.2.1, ε.2.2.2.2.2)) S hw hR 0 (by decide) g688 rfl rfl rfl d_M_amend_35 rfl (fun i hi => rfl) (fun H locs N4 hR hw => ?_)
      refine lv_aload_n S.1 S.2.1 d_M_amend_38 rfl (lv_at hl 0 rfl) ?_
      refine m_get S hw cl_M hR.obj 0 (by decide) g688 (fun _ h => h) rfl d_M_amend_39 ?_
      refine lv_if_ne (tgt := 87) S.1 S.2.1 d_M_amend_42 rfl (fun _ => ?_) (fun h => absurd h (show ¬ (1 : Int32) = 0 by decide))
      refine lv_aload_n S.1 S.2.1 d_M_amend_87 rfl (lv_at hl 0 rfl) ?_
      refine m_get S hw cl_M hR.obj 0 (by decide) g688 (fun _ h => h) rfl d_M_amend_88 ?_
      refine lv_if_le (tgt := 96) S.1 S.2.1 d_M_amend_91 rfl (fun h => absurd h (show ¬ (1 : Int32) ≤ 0 by decide)) (fun _ => ?_)
      refine lv_iconst (v := 0) S.1 S.2.1 d_M_amend_94 (by decide) ?_
      exact m_iret S hlk hr rfl hw hR (Nat.le_refl _) (Nat.le_refl _) d_M_amend_95
set_option maxHeartbeats 4000000 in
set_option maxRecDepth 100000 in
theorem c_M_amendS (l : Launch) (γ : mG) (M : mMap) (μ : RK) (σ : St) (ε : RE) (hR : RM γ M μ σ ε) (hn : sn σ ≤ 250) (k : Nat) (hk : k < sn σ) (p0 q0 : Int32) (hv1 : rg 0 2000 p0 = true) (hv2 : rg 1 100000 q0 = true) (hv3 : fpk q0 (sI σ 8 k) = true) (hv : sI σ 5 k = -1 ∨ sph σ = 2) : Met l y_M_amend w_M_amend ({ frames := 2, cells := 0, slots := 0, locals := 43 } : Room) (mPc γ M [.ref (rx μ), .int (nI k), .int p0, .int q0]) (mQi γ (fun _ M' => RQ γ M M' μ σ (2, ε.2))) 0 0 (mA (gz γ)) := by
  refine m_enter (by decide) (Nat.le_of_ble_eq_true rfl) ?_
  intro p e s m below meth c ls S hr hlk hnm hl hw
  have hl : lv_has ls 4 [(0, .ref (rx μ)), (1, .int (nI k)), (2, .int p0), (3, .int q0)] := hl
  have hR := hR.q
  refine lv_aload_n S.1 S.2.1 d_M_amend_0 rfl (lv_at hl 0 rfl) ?_
  refine lv_aload_n S.1 S.2.1 d_M_amend_1 rfl (lv_at hl 0 rfl) ?_
  refine lv_iload_n S.1 S.2.1 d_M_amend_2 rfl (lv_at hl 1 rfl) ?_
  refine m_ci hw (va_runV (As := [.int (nI k)]) (rest := [.ref (rx μ)]) S (c_M_isOrder l γ M μ σ ε hR.1 (nI k)) (m_cwV 1 S g844 g846 g37 g48 g847 rfl rfl ⟨by decide +kernel, by decide +kernel, by decide +kernel⟩ ⟨(Nat.le_of_ble_eq_true rfl), (Nat.le_of_ble_eq_true rfl)⟩) (hw.preV hR.obj cl_M.1) rfl rfl hl.1 rfl (lv_room (Nat.le_of_ble_eq_true rfl)) d_M_amend_3 ⟨(Nat.zero_le _), (Nat.zero_le _)⟩) (fun r1 M1 H locs hp hw => ?_)
  obtain ⟨rfl, hM1⟩ := hp
  rw [hM1] at hw
  refine lv_if_eq (tgt := 30) S.1 S.2.1 d_M_amend_6 rfl (fun h => absurd h (b2i_n0.mpr (isO_t hn hk))) (fun _ => ?_)
  refine lv_iload_n S.1 S.2.1 d_M_amend_9 rfl (lv_at hl 2 rfl) ?_
  refine lv_iconst (v := 0) S.1 S.2.1 d_M_amend_10 (by decide) ?_
  refine lv_sipush (v := 2000) S.1 S.2.1 d_M_amend_11 (by decide) ?_
  refine m_ci hw (va_runS (As := [.int p0, .int 0, .int 2000]) (rest := [.ref (rx μ)]) S (c_M_in l γ M p0 0 2000) (m_cwS 3 S g778 g779 g48 g780 rfl rfl ⟨by decide +kernel, by decide +kernel, by decide +kernel⟩ ⟨(Nat.le_of_ble_eq_true rfl), (Nat.le_of_ble_eq_true rfl)⟩) hw.preS rfl rfl hl.1 rfl (lv_room (Nat.le_of_ble_eq_true rfl)) d_M_amend_14 ⟨(Nat.zero_le _), (Nat.zero_le _)⟩) (fun r1 M1 H locs hp hw => ?_)
  obtain ⟨rfl, hM1⟩ := hp
  rw [hM1] at hw
  refine lv_if_eq (tgt := 30) S.1 S.2.1 d_M_amend_17 rfl (fun h => absurd h (b2i_n0.mpr hv1)) (fun _ => ?_)
  refine lv_iload_n S.1 S.2.1 d_M_amend_20 rfl (lv_at hl 3 rfl) ?_
  refine lv_iconst (v := 1) S.1 S.2.1 d_M_amend_21 (by decide) ?_
  refine lv_ldc S.1 S.2.1 S.2.2.2.1 (S.2.2.2.2 _ (gc g781)) d_M_amend_22 ?_
  refine m_ci hw (va_runS (As := [.int q0, .int 1, .int 100000]) (rest := [.ref (rx μ)]) S (c_M_in l γ M q0 1 100000) (m_cwS 3 S g778 g779 g48 g780 rfl rfl ⟨by decide +kernel, by decide +kernel, by decide +kernel⟩ ⟨(Nat.le_of_ble_eq_true rfl), (Nat.le_of_ble_eq_true rfl)⟩) hw.preS rfl rfl hl.1 rfl (lv_room (Nat.le_of_ble_eq_true rfl)) d_M_amend_24 ⟨(Nat.zero_le _), (Nat.zero_le _)⟩) (fun r1 M1 H locs hp hw => ?_)
  obtain ⟨rfl, hM1⟩ := hp
  rw [hM1] at hw
  refine lv_if_ne (tgt := 34) S.1 S.2.1 d_M_amend_27 rfl (fun _ => ?_) (fun h => absurd h (b2i_n0.mpr hv2))
  refine lv_iconst (v := 0) S.1 S.2.1 d_M_amend_34 (by decide) ?_
  refine m_rput (σ' := σ) (ε' := (0, ε.2.1, ε.2.2.1, ε.2.2.2.1, ε.2.2.2.2.1, ε.2.2.2.2.2)) S hw hR 0 (by decide) g688 rfl rfl rfl d_M_amend_35 rfl (fun i hi => rfl) (fun H locs N1 hR hw => ?_)
  refine lv_aload_n S.1 S.2.1 d_M_amend_38 rfl (lv_at hl 0 rfl) ?_
  refine m_get S hw cl_M hR.obj 0 (by decide) g688 (fun _ h => h) rfl d_M_amend_39 ?_
  refine lv_if_ne (tgt := 87) S.1 S.2.1 d_M_amend_42 rfl (fun h => absurd (show (0 : Int32) = 0 by decide) h) (fun _ => ?_)
  refine lv_aload_n S.1 S.2.1 d_M_amend_45 rfl (lv_at hl 0 rfl) ?_
  refine lv_iload_n S.1 S.2.1 d_M_amend_46 rfl (lv_at hl 3 rfl) ?_
  refine lv_aload_n S.1 S.2.1 d_M_amend_47 rfl (lv_at hl 0 rfl) ?_
  refine m_get S hw cl_M hR.obj 14 (by decide) g702 (fun _ h => h) rfl d_M_amend_48 ?_
  refine lv_iload_n S.1 S.2.1 d_M_amend_51 rfl (lv_at hl 1 rfl) ?_
  refine m_rld (o := k) S hw hR 8 (by decide) (by omega) d_M_amend_52 ?_
  refine m_ci hw (va_runS (As := [.int q0, .int ((sI σ) 8 k)]) (rest := [.ref (rx μ)]) S (c_M_fitsPeak l γ N1 q0 ((sI σ) 8 k)) (m_cwS 2 S g782 g783 g48 g784 rfl rfl ⟨by decide +kernel, by decide +kernel, by decide +kernel⟩ ⟨(Nat.le_of_ble_eq_true rfl), (Nat.le_of_ble_eq_true rfl)⟩) hw.preS rfl rfl hl.1 rfl (lv_room (Nat.le_of_ble_eq_true rfl)) d_M_amend_53 ⟨(Nat.zero_le _), (Nat.zero_le _)⟩) (fun r1 M1 H locs hp hw => ?_)
  obtain ⟨rfl, hM1⟩ := hp
  rw [hM1] at hw
  refine lv_if_ne (tgt := 63) S.1 S.2.1 d_M_amend_56 rfl (fun _ => ?_) (fun h => absurd h (b2i_n0.mpr hv3))
  refine lv_aload_n S.1 S.2.1 d_M_amend_63 rfl (lv_at hl 0 rfl) ?_
  refine lv_iload_n S.1 S.2.1 d_M_amend_64 rfl (lv_at hl 1 rfl) ?_
  refine m_ci hw (va_runV (As := [.int (nI k)]) (rest := [.ref (rx μ)]) S (c_M_rests l γ N1 μ σ (0, ε.2.1, ε.2.2.1, ε.2.2.2.1, ε.2.2.2.2.1, ε.2.2.2.2.2) hR.1 hn k hk) (m_cwV 1 S g793 g795 g26 g48 g796 rfl rfl ⟨by decide +kernel, by decide +kernel, by decide +kernel⟩ ⟨(Nat.le_of_ble_eq_true rfl), (Nat.le_of_ble_eq_true rfl)⟩) (hw.preV hR.obj cl_M.1) rfl rfl hl.1 rfl (lv_room (Nat.le_of_ble_eq_true rfl)) d_M_amend_65 ⟨(Nat.zero_le _), (Nat.zero_le _)⟩) (fun r1 M1 H locs hp hw => ?_)
  obtain ⟨rfl, hM1⟩ := hp
  rw [hM1] at hw
  refine lv_if_eq (tgt := 79) S.1 S.2.1 d_M_amend_68 rfl (fun h68 => ?_) (fun h68 => ?_)
  · refine lv_iconst (v := 2) S.1 S.2.1 d_M_amend_79 (by decide) ?_
    refine lv_goto (tgt := 84) S.1 S.2.1 d_M_amend_80 rfl ?_
    refine m_rput (σ' := σ) (ε' := (2, ε.2.1, ε.2.2.1, ε.2.2.2.1, ε.2.2.2.2.1, ε.2.2.2.2.2)) S hw hR 0 (by decide) g688 rfl rfl rfl d_M_amend_84 rfl (fun i hi => rfl) (fun H locs N2 hR hw => ?_)
    refine lv_aload_n S.1 S.2.1 d_M_amend_87 rfl (lv_at hl 0 rfl) ?_
    refine m_get S hw cl_M hR.obj 0 (by decide) g688 (fun _ h => h) rfl d_M_amend_88 ?_
    refine lv_if_le (tgt := 96) S.1 S.2.1 d_M_amend_91 rfl (fun h => absurd h (show ¬ (2 : Int32) ≤ 0 by decide)) (fun _ => ?_)
    refine lv_iconst (v := 0) S.1 S.2.1 d_M_amend_94 (by decide) ?_
    exact m_iret S hlk hr rfl hw hR (Nat.le_refl _) (Nat.le_refl _) d_M_amend_95
  · refine lv_aload_n S.1 S.2.1 d_M_amend_71 rfl (lv_at hl 0 rfl) ?_
    refine m_get S hw cl_M hR.obj 1 (by decide) g689 (fun _ h => h) rfl d_M_amend_72 ?_
    refine lv_iconst (v := 2) S.1 S.2.1 d_M_amend_75 (by decide) ?_
    refine lv_icmp_ne (tgt := 83) S.1 S.2.1 d_M_amend_76 rfl (fun h76 => ?_) (fun h76 => ?_)
    · exfalso
      exact hv.elim (fun z => absurd (b2i_n0.mp h68) (by rw [rs_m1 z]; decide)) h76
    · refine lv_iconst (v := 2) S.1 S.2.1 d_M_amend_79 (by decide) ?_
      refine lv_goto (tgt := 84) S.1 S.2.1 d_M_amend_80 rfl ?_
      refine m_rput (σ' := σ) (ε' := (2, ε.2.1, ε.2.2.1, ε.2.2.2.1, ε.2.2.2.2.1, ε.2.2.2.2.2)) S hw hR 0 (by decide) g688 rfl rfl rfl d_M_amend_84 rfl (fun i hi => rfl) (fun H locs N3 hR hw => ?_)
      refine lv_aload_n S.1 S.2.1 d_M_amend_87 rfl (lv_at hl 0 rfl) ?_
      refine m_get S hw cl_M hR.obj 0 (by decide) g688 (fun _ h => h) rfl d_M_amend_88 ?_
      refine lv_if_le (tgt := 96) S.1 S.2.1 d_M_amend_91 rfl (fun h => absurd h (show ¬ (2 : Int32) ≤ 0 by decide)) (fun _ => ?_)
      refine lv_iconst (v := 0) S.1 S.2.1 d_M_amend_94 (by decide) ?_
      exact m_iret S hlk hr rfl hw hR (Nat.le_refl _) (Nat.le_refl _) d_M_amend_95
set_option maxHeartbeats 4000000 in
set_option maxRecDepth 100000 in
theorem c_M_amendL (l : Launch) (γ : mG) (M : mMap) (μ : RK) (σ : St) (ε : RE) (hR : RM γ M μ σ ε) (hn : sn σ ≤ 250) (k : Nat) (hk : k < sn σ) (p0 q0 : Int32) (hv1 : rg 0 2000 p0 = true) (hv2 : rg 1 100000 q0 = true) (hv3 : fpk q0 (sI σ 8 k) = true) (hs : rs (sI σ) k = true) (hph : ¬ sph σ = 2) (hlo : p0 = sI σ 2 k ∧ q0 ≤ sI σ 3 k) : Met l y_M_amend w_M_amend ({ frames := 2, cells := 0, slots := 0, locals := 43 } : Room) (mPc γ M [.ref (rx μ), .int (nI k), .int p0, .int q0]) (mQi γ (fun r M' => r = 1 ∧ RQ γ M M' μ (xLess σ k q0) (0, ε.2))) 0 0 (mA (gz γ)) := by
  refine m_enter (by decide) (Nat.le_of_ble_eq_true rfl) ?_
  intro p e s m below meth c ls S hr hlk hnm hl hw
  have hl : lv_has ls 4 [(0, .ref (rx μ)), (1, .int (nI k)), (2, .int p0), (3, .int q0)] := hl
  have hR := hR.q
  refine lv_aload_n S.1 S.2.1 d_M_amend_0 rfl (lv_at hl 0 rfl) ?_
  refine lv_aload_n S.1 S.2.1 d_M_amend_1 rfl (lv_at hl 0 rfl) ?_
  refine lv_iload_n S.1 S.2.1 d_M_amend_2 rfl (lv_at hl 1 rfl) ?_
  refine m_ci hw (va_runV (As := [.int (nI k)]) (rest := [.ref (rx μ)]) S (c_M_isOrder l γ M μ σ ε hR.1 (nI k)) (m_cwV 1 S g844 g846 g37 g48 g847 rfl rfl ⟨by decide +kernel, by decide +kernel, by decide +kernel⟩ ⟨(Nat.le_of_ble_eq_true rfl), (Nat.le_of_ble_eq_true rfl)⟩) (hw.preV hR.obj cl_M.1) rfl rfl hl.1 rfl (lv_room (Nat.le_of_ble_eq_true rfl)) d_M_amend_3 ⟨(Nat.zero_le _), (Nat.zero_le _)⟩) (fun r1 M1 H locs hp hw => ?_)
  obtain ⟨rfl, hM1⟩ := hp
  rw [hM1] at hw
  refine lv_if_eq (tgt := 30) S.1 S.2.1 d_M_amend_6 rfl (fun h => absurd h (b2i_n0.mpr (isO_t hn hk))) (fun _ => ?_)
  refine lv_iload_n S.1 S.2.1 d_M_amend_9 rfl (lv_at hl 2 rfl) ?_
  refine lv_iconst (v := 0) S.1 S.2.1 d_M_amend_10 (by decide) ?_
  refine lv_sipush (v := 2000) S.1 S.2.1 d_M_amend_11 (by decide) ?_
  refine m_ci hw (va_runS (As := [.int p0, .int 0, .int 2000]) (rest := [.ref (rx μ)]) S (c_M_in l γ M p0 0 2000) (m_cwS 3 S g778 g779 g48 g780 rfl rfl ⟨by decide +kernel, by decide +kernel, by decide +kernel⟩ ⟨(Nat.le_of_ble_eq_true rfl), (Nat.le_of_ble_eq_true rfl)⟩) hw.preS rfl rfl hl.1 rfl (lv_room (Nat.le_of_ble_eq_true rfl)) d_M_amend_14 ⟨(Nat.zero_le _), (Nat.zero_le _)⟩) (fun r1 M1 H locs hp hw => ?_)
  obtain ⟨rfl, hM1⟩ := hp
  rw [hM1] at hw
  refine lv_if_eq (tgt := 30) S.1 S.2.1 d_M_amend_17 rfl (fun h => absurd h (b2i_n0.mpr hv1)) (fun _ => ?_)
  refine lv_iload_n S.1 S.2.1 d_M_amend_20 rfl (lv_at hl 3 rfl) ?_
  refine lv_iconst (v := 1) S.1 S.2.1 d_M_amend_21 (by decide) ?_
  refine lv_ldc S.1 S.2.1 S.2.2.2.1 (S.2.2.2.2 _ (gc g781)) d_M_amend_22 ?_
  refine m_ci hw (va_runS (As := [.int q0, .int 1, .int 100000]) (rest := [.ref (rx μ)]) S (c_M_in l γ M q0 1 100000) (m_cwS 3 S g778 g779 g48 g780 rfl rfl ⟨by decide +kernel, by decide +kernel, by decide +kernel⟩ ⟨(Nat.le_of_ble_eq_true rfl), (Nat.le_of_ble_eq_true rfl)⟩) hw.preS rfl rfl hl.1 rfl (lv_room (Nat.le_of_ble_eq_true rfl)) d_M_amend_24 ⟨(Nat.zero_le _), (Nat.zero_le _)⟩) (fun r1 M1 H locs hp hw => ?_)
  obtain ⟨rfl, hM1⟩ := hp
  rw [hM1] at hw
  refine lv_if_ne (tgt := 34) S.1 S.2.1 d_M_amend_27 rfl (fun _ => ?_) (fun h => absurd h (b2i_n0.mpr hv2))
  refine lv_iconst (v := 0) S.1 S.2.1 d_M_amend_34 (by decide) ?_
  refine m_rput (σ' := σ) (ε' := (0, ε.2.1, ε.2.2.1, ε.2.2.2.1, ε.2.2.2.2.1, ε.2.2.2.2.2)) S hw hR 0 (by decide) g688 rfl rfl rfl d_M_amend_35 rfl (fun i hi => rfl) (fun H locs N1 hR hw => ?_)
  refine lv_aload_n S.1 S.2.1 d_M_amend_38 rfl (lv_at hl 0 rfl) ?_
  refine m_get S hw cl_M hR.obj 0 (by decide) g688 (fun _ h => h) rfl d_M_amend_39 ?_
  refine lv_if_ne (tgt := 87) S.1 S.2.1 d_M_amend_42 rfl (fun h => absurd (show (0 : Int32) = 0 by decide) h) (fun _ => ?_)
  refine lv_aload_n S.1 S.2.1 d_M_amend_45 rfl (lv_at hl 0 rfl) ?_
  refine lv_iload_n S.1 S.2.1 d_M_amend_46 rfl (lv_at hl 3 rfl) ?_
  refine lv_aload_n S.1 S.2.1 d_M_amend_47 rfl (lv_at hl 0 rfl) ?_
  refine m_get S hw cl_M hR.obj 14 (by decide) g702 (fun _ h => h) rfl d_M_amend_48 ?_
  refine lv_iload_n S.1 S.2.1 d_M_amend_51 rfl (lv_at hl 1 rfl) ?_
  refine m_rld (o := k) S hw hR 8 (by decide) (by omega) d_M_amend_52 ?_
  refine m_ci hw (va_runS (As := [.int q0, .int ((sI σ) 8 k)]) (rest := [.ref (rx μ)]) S (c_M_fitsPeak l γ N1 q0 ((sI σ) 8 k)) (m_cwS 2 S g782 g783 g48 g784 rfl rfl ⟨by decide +kernel, by decide +kernel, by decide +kernel⟩ ⟨(Nat.le_of_ble_eq_true rfl), (Nat.le_of_ble_eq_true rfl)⟩) hw.preS rfl rfl hl.1 rfl (lv_room (Nat.le_of_ble_eq_true rfl)) d_M_amend_53 ⟨(Nat.zero_le _), (Nat.zero_le _)⟩) (fun r1 M1 H locs hp hw => ?_)
  obtain ⟨rfl, hM1⟩ := hp
  rw [hM1] at hw
  refine lv_if_ne (tgt := 63) S.1 S.2.1 d_M_amend_56 rfl (fun _ => ?_) (fun h => absurd h (b2i_n0.mpr hv3))
  refine lv_aload_n S.1 S.2.1 d_M_amend_63 rfl (lv_at hl 0 rfl) ?_
  refine lv_iload_n S.1 S.2.1 d_M_amend_64 rfl (lv_at hl 1 rfl) ?_
  refine m_ci hw (va_runV (As := [.int (nI k)]) (rest := [.ref (rx μ)]) S (c_M_rests l γ N1 μ σ (0, ε.2.1, ε.2.2.1, ε.2.2.2.1, ε.2.2.2.2.1, ε.2.2.2.2.2) hR.1 hn k hk) (m_cwV 1 S g793 g795 g26 g48 g796 rfl rfl ⟨by decide +kernel, by decide +kernel, by decide +kernel⟩ ⟨(Nat.le_of_ble_eq_true rfl), (Nat.le_of_ble_eq_true rfl)⟩) (hw.preV hR.obj cl_M.1) rfl rfl hl.1 rfl (lv_room (Nat.le_of_ble_eq_true rfl)) d_M_amend_65 ⟨(Nat.zero_le _), (Nat.zero_le _)⟩) (fun r1 M1 H locs hp hw => ?_)
  obtain ⟨rfl, hM1⟩ := hp
  rw [hM1] at hw
  refine lv_if_eq (tgt := 79) S.1 S.2.1 d_M_amend_68 rfl (fun h => absurd h (b2i_n0.mpr hs)) (fun _ => ?_)
  refine lv_aload_n S.1 S.2.1 d_M_amend_71 rfl (lv_at hl 0 rfl) ?_
  refine m_get S hw cl_M hR.obj 1 (by decide) g689 (fun _ h => h) rfl d_M_amend_72 ?_
  refine lv_iconst (v := 2) S.1 S.2.1 d_M_amend_75 (by decide) ?_
  refine lv_icmp_ne (tgt := 83) S.1 S.2.1 d_M_amend_76 rfl (fun _ => ?_) (fun h => absurd h hph)
  refine lv_iconst (v := 0) S.1 S.2.1 d_M_amend_83 (by decide) ?_
  refine m_rput (σ' := σ) (ε' := (0, ε.2.1, ε.2.2.1, ε.2.2.2.1, ε.2.2.2.2.1, ε.2.2.2.2.2)) S hw hR 0 (by decide) g688 rfl rfl rfl d_M_amend_84 rfl (fun i hi => rfl) (fun H locs N2 hR hw => ?_)
  refine lv_aload_n S.1 S.2.1 d_M_amend_87 rfl (lv_at hl 0 rfl) ?_
  refine m_get S hw cl_M hR.obj 0 (by decide) g688 (fun _ h => h) rfl d_M_amend_88 ?_
  refine lv_if_le (tgt := 96) S.1 S.2.1 d_M_amend_91 rfl (fun _ => ?_) (fun h => absurd (show (0 : Int32) ≤ 0 by decide) h)
  refine lv_iload_n S.1 S.2.1 d_M_amend_96 rfl (lv_at hl 2 rfl) ?_
  refine lv_aload_n S.1 S.2.1 d_M_amend_97 rfl (lv_at hl 0 rfl) ?_
  refine m_get S hw cl_M hR.obj 8 (by decide) g696 (fun _ h => h) rfl d_M_amend_98 ?_
  refine lv_iload_n S.1 S.2.1 d_M_amend_101 rfl (lv_at hl 1 rfl) ?_
  refine m_rld (o := k) S hw hR 2 (by decide) (by omega) d_M_amend_102 ?_
  refine lv_icmp_ne (tgt := 151) S.1 S.2.1 d_M_amend_103 rfl (fun h => absurd hlo.1 h) (fun _ => ?_)
  refine lv_iload_n S.1 S.2.1 d_M_amend_106 rfl (lv_at hl 3 rfl) ?_
  refine lv_aload_n S.1 S.2.1 d_M_amend_107 rfl (lv_at hl 0 rfl) ?_
  refine m_get S hw cl_M hR.obj 9 (by decide) g697 (fun _ h => h) rfl d_M_amend_108 ?_
  refine lv_iload_n S.1 S.2.1 d_M_amend_111 rfl (lv_at hl 1 rfl) ?_
  refine m_rld (o := k) S hw hR 3 (by decide) (by omega) d_M_amend_112 ?_
  refine lv_icmp_gt (tgt := 151) S.1 S.2.1 d_M_amend_113 rfl (fun h => absurd h (Int32.not_lt.mpr hlo.2)) (fun _ => ?_)
  refine lv_aload_n S.1 S.2.1 d_M_amend_116 rfl (lv_at hl 0 rfl) ?_
  refine m_get S hw cl_M hR.obj 9 (by decide) g697 (fun _ h => h) rfl d_M_amend_117 ?_
  refine lv_iload_n S.1 S.2.1 d_M_amend_120 rfl (lv_at hl 1 rfl) ?_
  refine lv_iload_n S.1 S.2.1 d_M_amend_121 rfl (lv_at hl 3 rfl) ?_
  refine m_rst (o := k) (v := q0) S hw hR 3 (by decide) (by omega) d_M_amend_122 (fun H locs N3 hR hw => ?_)
  have hR : RQ γ _ N3 μ ((sn σ, s1 (sI σ) 3 k q0), (sph σ, srf σ, sbd σ, srk σ), stn σ, sT σ, sal σ) (0, ε.2.1, ε.2.2.1, ε.2.2.2.1, ε.2.2.2.2.1, ε.2.2.2.2.2) := hR
  refine lv_aload_n S.1 S.2.1 d_M_amend_123 rfl (lv_at hl 0 rfl) ?_
  refine m_get S hw cl_M hR.obj 10 (by decide) g698 (fun _ h => h) rfl d_M_amend_124 ?_
  refine lv_iload_n S.1 S.2.1 d_M_amend_127 rfl (lv_at hl 1 rfl) ?_
  refine lv_aload_n S.1 S.2.1 d_M_amend_128 rfl (lv_at hl 0 rfl) ?_
  refine m_get S hw cl_M hR.obj 10 (by decide) g698 (fun _ h => h) rfl d_M_amend_129 ?_
  refine lv_iload_n S.1 S.2.1 d_M_amend_132 rfl (lv_at hl 1 rfl) ?_
  refine m_rld (o := k) S hw hR 4 (by decide) (by omega) d_M_amend_133 ?_
  refine lv_iload_n S.1 S.2.1 d_M_amend_134 rfl (lv_at hl 3 rfl) ?_
  refine lv_icmp_ge (tgt := 147) S.1 S.2.1 d_M_amend_135 rfl (fun h135 => ?_) (fun h135 => ?_)
  · refine lv_iload_n S.1 S.2.1 d_M_amend_147 rfl (lv_at hl 3 rfl) ?_
    refine W.eq (g2 := F0 m 148 ls [.int (mn (sI σ 4 k) q0), .int (nI k), .ref (ra μ 4)]) (congrArg (fun z => F0 m 148 ls [.int z, .int (nI k), .ref (ra μ 4)]) (mn_ge h135)) ?_
    refine m_rst (o := k) (v := mn (sI σ 4 k) q0) S hw hR 4 (by decide) (by omega) d_M_amend_148 (fun H locs N4 hR hw => ?_)
    have hR : RQ γ _ N4 μ ((sn σ, s1 (s1 (sI σ) 3 k q0) 4 k (mn (sI σ 4 k) q0)), (sph σ, srf σ, sbd σ, srk σ), stn σ, sT σ, sal σ) (0, ε.2.1, ε.2.2.1, ε.2.2.2.1, ε.2.2.2.2.1, ε.2.2.2.2.2) := hR
    refine lv_iconst (v := 1) S.1 S.2.1 d_M_amend_149 (by decide) ?_
    exact m_iret S hlk hr rfl hw (⟨rfl, hR⟩) (Nat.le_refl _) (Nat.le_refl _) d_M_amend_150
  · refine lv_aload_n S.1 S.2.1 d_M_amend_138 rfl (lv_at hl 0 rfl) ?_
    refine m_get S hw cl_M hR.obj 10 (by decide) g698 (fun _ h => h) rfl d_M_amend_139 ?_
    refine lv_iload_n S.1 S.2.1 d_M_amend_142 rfl (lv_at hl 1 rfl) ?_
    refine m_rld (o := k) S hw hR 4 (by decide) (by omega) d_M_amend_143 ?_
    refine lv_goto (tgt := 148) S.1 S.2.1 d_M_amend_144 rfl ?_
    refine W.eq (g2 := F0 m 148 ls [.int (mn (sI σ 4 k) q0), .int (nI k), .ref (ra μ 4)]) (congrArg (fun z => F0 m 148 ls [.int z, .int (nI k), .ref (ra μ 4)]) (mn_le (Int32.not_le.mp h135))) ?_
    refine m_rst (o := k) (v := mn (sI σ 4 k) q0) S hw hR 4 (by decide) (by omega) d_M_amend_148 (fun H locs N5 hR hw => ?_)
    have hR : RQ γ _ N5 μ ((sn σ, s1 (s1 (sI σ) 3 k q0) 4 k (mn (sI σ 4 k) q0)), (sph σ, srf σ, sbd σ, srk σ), stn σ, sT σ, sal σ) (0, ε.2.1, ε.2.2.1, ε.2.2.2.1, ε.2.2.2.2.1, ε.2.2.2.2.2) := hR
    refine lv_iconst (v := 1) S.1 S.2.1 d_M_amend_149 (by decide) ?_
    exact m_iret S hlk hr rfl hw (⟨rfl, hR⟩) (Nat.le_refl _) (Nat.le_refl _) d_M_amend_150
set_option maxHeartbeats 4000000 in
set_option maxRecDepth 100000 in
theorem c_M_amendN (l : Launch) (γ : mG) (M : mMap) (μ : RK) (σ : St) (ε : RE) (hR : RM γ M μ σ ε) (hn : sn σ ≤ 250) (k : Nat) (hk : k < sn σ) (p0 q0 : Int32) (hv1 : rg 0 2000 p0 = true) (hv2 : rg 1 100000 q0 = true) (hv3 : fpk q0 (sI σ 8 k) = true) (hs : rs (sI σ) k = true) (hph : ¬ sph σ = 2) (hlo : ¬ (p0 = sI σ 2 k ∧ q0 ≤ sI σ 3 k)) (L : Nat → List Nat) (hI1 : Inv0 (rAm σ k p0 q0)) (hL1 : LN (rAm σ k p0 q0) L) (hB : BD σ) (hrk : (srk σ).toInt ≤ 500000000) (σ' : St) (hfin : xCome (cov (rAm σ k p0 q0) k) (rAm σ k p0 q0) k = σ') (hT : stn σ' ≤ 30000) : Met l y_M_amend w_M_amend ({ frames := 5, cells := 0, slots := 0, locals := 112 } : Room) (mPc γ M [.ref (rx μ), .int (nI k), .int p0, .int q0]) (mQi γ (fun r M' => r = b2i (decide (¬ sI σ' 5 k = -1)) ∧ RQ γ M M' μ (σ') (0, ε.2))) 0 0 (mA (gz γ)) := by
  refine m_enter (by decide) (Nat.le_of_ble_eq_true rfl) ?_
  intro p e s m below meth c ls S hr hlk hnm hl hw
  have hl : lv_has ls 4 [(0, .ref (rx μ)), (1, .int (nI k)), (2, .int p0), (3, .int q0)] := hl
  have hR := hR.q
  have hq0 := rg_i hv2
  rw [show (1 : Int32).toInt = 1 by decide, show (100000 : Int32).toInt = 100000 by decide] at hq0
  have hq3 : sI (rAm σ k p0 q0) 3 k = q0 := by show s1 (s1 (sI (xEnd σ k)) 2 k p0) 3 k q0 3 k = q0; exact s1_ss _ _ _ _
  refine lv_aload_n S.1 S.2.1 d_M_amend_0 rfl (lv_at hl 0 rfl) ?_
  refine lv_aload_n S.1 S.2.1 d_M_amend_1 rfl (lv_at hl 0 rfl) ?_
  refine lv_iload_n S.1 S.2.1 d_M_amend_2 rfl (lv_at hl 1 rfl) ?_
  refine m_ci hw (va_runV (As := [.int (nI k)]) (rest := [.ref (rx μ)]) S (c_M_isOrder l γ M μ σ ε hR.1 (nI k)) (m_cwV 1 S g844 g846 g37 g48 g847 rfl rfl ⟨by decide +kernel, by decide +kernel, by decide +kernel⟩ ⟨(Nat.le_of_ble_eq_true rfl), (Nat.le_of_ble_eq_true rfl)⟩) (hw.preV hR.obj cl_M.1) rfl rfl hl.1 rfl (lv_room (Nat.le_of_ble_eq_true rfl)) d_M_amend_3 ⟨(Nat.zero_le _), (Nat.zero_le _)⟩) (fun r1 M1 H locs hp hw => ?_)
  obtain ⟨rfl, hM1⟩ := hp
  rw [hM1] at hw
  refine lv_if_eq (tgt := 30) S.1 S.2.1 d_M_amend_6 rfl (fun h => absurd h (b2i_n0.mpr (isO_t hn hk))) (fun _ => ?_)
  refine lv_iload_n S.1 S.2.1 d_M_amend_9 rfl (lv_at hl 2 rfl) ?_
  refine lv_iconst (v := 0) S.1 S.2.1 d_M_amend_10 (by decide) ?_
  refine lv_sipush (v := 2000) S.1 S.2.1 d_M_amend_11 (by decide) ?_
  refine m_ci hw (va_runS (As := [.int p0, .int 0, .int 2000]) (rest := [.ref (rx μ)]) S (c_M_in l γ M p0 0 2000) (m_cwS 3 S g778 g779 g48 g780 rfl rfl ⟨by decide +kernel, by decide +kernel, by decide +kernel⟩ ⟨(Nat.le_of_ble_eq_true rfl), (Nat.le_of_ble_eq_true rfl)⟩) hw.preS rfl rfl hl.1 rfl (lv_room (Nat.le_of_ble_eq_true rfl)) d_M_amend_14 ⟨(Nat.zero_le _), (Nat.zero_le _)⟩) (fun r1 M1 H locs hp hw => ?_)
  obtain ⟨rfl, hM1⟩ := hp
  rw [hM1] at hw
  refine lv_if_eq (tgt := 30) S.1 S.2.1 d_M_amend_17 rfl (fun h => absurd h (b2i_n0.mpr hv1)) (fun _ => ?_)
  refine lv_iload_n S.1 S.2.1 d_M_amend_20 rfl (lv_at hl 3 rfl) ?_
  refine lv_iconst (v := 1) S.1 S.2.1 d_M_amend_21 (by decide) ?_
  refine lv_ldc S.1 S.2.1 S.2.2.2.1 (S.2.2.2.2 _ (gc g781)) d_M_amend_22 ?_
  refine m_ci hw (va_runS (As := [.int q0, .int 1, .int 100000]) (rest := [.ref (rx μ)]) S (c_M_in l γ M q0 1 100000) (m_cwS 3 S g778 g779 g48 g780 rfl rfl ⟨by decide +kernel, by decide +kernel, by decide +kernel⟩ ⟨(Nat.le_of_ble_eq_true rfl), (Nat.le_of_ble_eq_true rfl)⟩) hw.preS rfl rfl hl.1 rfl (lv_room (Nat.le_of_ble_eq_true rfl)) d_M_amend_24 ⟨(Nat.zero_le _), (Nat.zero_le _)⟩) (fun r1 M1 H locs hp hw => ?_)
  obtain ⟨rfl, hM1⟩ := hp
  rw [hM1] at hw
  refine lv_if_ne (tgt := 34) S.1 S.2.1 d_M_amend_27 rfl (fun _ => ?_) (fun h => absurd h (b2i_n0.mpr hv2))
  refine lv_iconst (v := 0) S.1 S.2.1 d_M_amend_34 (by decide) ?_
  refine m_rput (σ' := σ) (ε' := (0, ε.2.1, ε.2.2.1, ε.2.2.2.1, ε.2.2.2.2.1, ε.2.2.2.2.2)) S hw hR 0 (by decide) g688 rfl rfl rfl d_M_amend_35 rfl (fun i hi => rfl) (fun H locs N1 hR hw => ?_)
  refine lv_aload_n S.1 S.2.1 d_M_amend_38 rfl (lv_at hl 0 rfl) ?_
  refine m_get S hw cl_M hR.obj 0 (by decide) g688 (fun _ h => h) rfl d_M_amend_39 ?_
  refine lv_if_ne (tgt := 87) S.1 S.2.1 d_M_amend_42 rfl (fun h => absurd (show (0 : Int32) = 0 by decide) h) (fun _ => ?_)
  refine lv_aload_n S.1 S.2.1 d_M_amend_45 rfl (lv_at hl 0 rfl) ?_
  refine lv_iload_n S.1 S.2.1 d_M_amend_46 rfl (lv_at hl 3 rfl) ?_
  refine lv_aload_n S.1 S.2.1 d_M_amend_47 rfl (lv_at hl 0 rfl) ?_
  refine m_get S hw cl_M hR.obj 14 (by decide) g702 (fun _ h => h) rfl d_M_amend_48 ?_
  refine lv_iload_n S.1 S.2.1 d_M_amend_51 rfl (lv_at hl 1 rfl) ?_
  refine m_rld (o := k) S hw hR 8 (by decide) (by omega) d_M_amend_52 ?_
  refine m_ci hw (va_runS (As := [.int q0, .int ((sI σ) 8 k)]) (rest := [.ref (rx μ)]) S (c_M_fitsPeak l γ N1 q0 ((sI σ) 8 k)) (m_cwS 2 S g782 g783 g48 g784 rfl rfl ⟨by decide +kernel, by decide +kernel, by decide +kernel⟩ ⟨(Nat.le_of_ble_eq_true rfl), (Nat.le_of_ble_eq_true rfl)⟩) hw.preS rfl rfl hl.1 rfl (lv_room (Nat.le_of_ble_eq_true rfl)) d_M_amend_53 ⟨(Nat.zero_le _), (Nat.zero_le _)⟩) (fun r1 M1 H locs hp hw => ?_)
  obtain ⟨rfl, hM1⟩ := hp
  rw [hM1] at hw
  refine lv_if_ne (tgt := 63) S.1 S.2.1 d_M_amend_56 rfl (fun _ => ?_) (fun h => absurd h (b2i_n0.mpr hv3))
  refine lv_aload_n S.1 S.2.1 d_M_amend_63 rfl (lv_at hl 0 rfl) ?_
  refine lv_iload_n S.1 S.2.1 d_M_amend_64 rfl (lv_at hl 1 rfl) ?_
  refine m_ci hw (va_runV (As := [.int (nI k)]) (rest := [.ref (rx μ)]) S (c_M_rests l γ N1 μ σ (0, ε.2.1, ε.2.2.1, ε.2.2.2.1, ε.2.2.2.2.1, ε.2.2.2.2.2) hR.1 hn k hk) (m_cwV 1 S g793 g795 g26 g48 g796 rfl rfl ⟨by decide +kernel, by decide +kernel, by decide +kernel⟩ ⟨(Nat.le_of_ble_eq_true rfl), (Nat.le_of_ble_eq_true rfl)⟩) (hw.preV hR.obj cl_M.1) rfl rfl hl.1 rfl (lv_room (Nat.le_of_ble_eq_true rfl)) d_M_amend_65 ⟨(Nat.zero_le _), (Nat.zero_le _)⟩) (fun r1 M1 H locs hp hw => ?_)
  obtain ⟨rfl, hM1⟩ := hp
  rw [hM1] at hw
  refine lv_if_eq (tgt := 79) S.1 S.2.1 d_M_amend_68 rfl (fun h => absurd h (b2i_n0.mpr hs)) (fun _ => ?_)
  refine lv_aload_n S.1 S.2.1 d_M_amend_71 rfl (lv_at hl 0 rfl) ?_
  refine m_get S hw cl_M hR.obj 1 (by decide) g689 (fun _ h => h) rfl d_M_amend_72 ?_
  refine lv_iconst (v := 2) S.1 S.2.1 d_M_amend_75 (by decide) ?_
  refine lv_icmp_ne (tgt := 83) S.1 S.2.1 d_M_amend_76 rfl (fun _ => ?_) (fun h => absurd h hph)
  refine lv_iconst (v := 0) S.1 S.2.1 d_M_amend_83 (by decide) ?_
  refine m_rput (σ' := σ) (ε' := (0, ε.2.1, ε.2.2.1, ε.2.2.2.1, ε.2.2.2.2.1, ε.2.2.2.2.2)) S hw hR 0 (by decide) g688 rfl rfl rfl d_M_amend_84 rfl (fun i hi => rfl) (fun H locs N2 hR hw => ?_)
  refine lv_aload_n S.1 S.2.1 d_M_amend_87 rfl (lv_at hl 0 rfl) ?_
  refine m_get S hw cl_M hR.obj 0 (by decide) g688 (fun _ h => h) rfl d_M_amend_88 ?_
  refine lv_if_le (tgt := 96) S.1 S.2.1 d_M_amend_91 rfl (fun _ => ?_) (fun h => absurd (show (0 : Int32) ≤ 0 by decide) h)
  refine lv_iload_n S.1 S.2.1 d_M_amend_96 rfl (lv_at hl 2 rfl) ?_
  refine lv_aload_n S.1 S.2.1 d_M_amend_97 rfl (lv_at hl 0 rfl) ?_
  refine m_get S hw cl_M hR.obj 8 (by decide) g696 (fun _ h => h) rfl d_M_amend_98 ?_
  refine lv_iload_n S.1 S.2.1 d_M_amend_101 rfl (lv_at hl 1 rfl) ?_
  refine m_rld (o := k) S hw hR 2 (by decide) (by omega) d_M_amend_102 ?_
  refine lv_icmp_ne (tgt := 151) S.1 S.2.1 d_M_amend_103 rfl (fun h103 => ?_) (fun h103 => ?_)
  · refine lv_aload_n S.1 S.2.1 d_M_amend_151 rfl (lv_at hl 0 rfl) ?_
    refine lv_iload_n S.1 S.2.1 d_M_amend_152 rfl (lv_at hl 1 rfl) ?_
    refine m_cv hw (va_runV (As := [.int (nI k)]) (rest := []) S (c_M_end l γ N2 μ σ (0, ε.2.1, ε.2.2.1, ε.2.2.2.1, ε.2.2.2.2.1, ε.2.2.2.2.2) hR.1 hn k hk) (m_cwV 1 S g828 g830 g34 g48 g831 rfl rfl ⟨by decide +kernel, by decide +kernel, by decide +kernel⟩ ⟨(Nat.le_of_ble_eq_true rfl), (Nat.le_of_ble_eq_true rfl)⟩) (hw.preV hR.obj cl_M.1) rfl rfl hl.1 rfl (lv_room (Nat.le_of_ble_eq_true rfl)) d_M_amend_153 ⟨(Nat.zero_le _), (Nat.zero_le _)⟩) (fun N3 H locs hp hw => ?_)
    have hR := hp.tr hR
    refine lv_aload_n S.1 S.2.1 d_M_amend_156 rfl (lv_at hl 0 rfl) ?_
    refine m_get S hw cl_M hR.obj 8 (by decide) g696 (fun _ h => h) rfl d_M_amend_157 ?_
    refine lv_iload_n S.1 S.2.1 d_M_amend_160 rfl (lv_at hl 1 rfl) ?_
    refine lv_iload_n S.1 S.2.1 d_M_amend_161 rfl (lv_at hl 2 rfl) ?_
    refine m_rst (o := k) (v := p0) S hw hR 2 (by decide) (by omega) d_M_amend_162 (fun H locs N4 hR hw => ?_)
    have hR : RQ γ _ N4 μ ((sn (xEnd σ k), s1 (sI (xEnd σ k)) 2 k p0), (sph (xEnd σ k), srf (xEnd σ k), sbd (xEnd σ k), srk (xEnd σ k)), stn (xEnd σ k), sT (xEnd σ k), sal (xEnd σ k)) (0, ε.2.1, ε.2.2.1, ε.2.2.2.1, ε.2.2.2.2.1, ε.2.2.2.2.2) := hR
    refine lv_aload_n S.1 S.2.1 d_M_amend_163 rfl (lv_at hl 0 rfl) ?_
    refine m_get S hw cl_M hR.obj 9 (by decide) g697 (fun _ h => h) rfl d_M_amend_164 ?_
    refine lv_iload_n S.1 S.2.1 d_M_amend_167 rfl (lv_at hl 1 rfl) ?_
    refine lv_iload_n S.1 S.2.1 d_M_amend_168 rfl (lv_at hl 3 rfl) ?_
    refine m_rst (o := k) (v := q0) S hw hR 3 (by decide) (by omega) d_M_amend_169 (fun H locs N5 hR hw => ?_)
    have hR : RQ γ _ N5 μ ((sn (xEnd σ k), s1 (s1 (sI (xEnd σ k)) 2 k p0) 3 k q0), (sph (xEnd σ k), srf (xEnd σ k), sbd (xEnd σ k), srk (xEnd σ k)), stn (xEnd σ k), sT (xEnd σ k), sal (xEnd σ k)) (0, ε.2.1, ε.2.2.1, ε.2.2.2.1, ε.2.2.2.2.1, ε.2.2.2.2.2) := hR
    have hR : RQ γ _ N5 μ (rAm σ k p0 q0) (0, ε.2) := hR
    refine lv_aload_n S.1 S.2.1 d_M_amend_170 rfl (lv_at hl 0 rfl) ?_
    refine lv_iload_n S.1 S.2.1 d_M_amend_171 rfl (lv_at hl 1 rfl) ?_
    refine m_ci hw (va_runV (As := [.int (nI k)]) (rest := []) S (c_M_comes l γ N5 μ (rAm σ k p0 q0) (0, ε.2) hR.1 L hI1 hL1 hB k hk (by show s1 (s1 (s1 (s1 (s1 (sI σ) 3 k 0) 4 k 0) 5 k (-1)) 2 k p0) 3 k q0 5 k = -1; rw [s1_f (by decide), s1_f (by decide)]; exact s1_ss _ _ _ _) (by rw [hq3]; omega) (by rw [hq3]; omega) hrk σ' hfin hT) (m_cwV 1 S g785 g787 g24 g48 g788 rfl rfl ⟨by decide +kernel, by decide +kernel, by decide +kernel⟩ ⟨(Nat.le_of_ble_eq_true rfl), (Nat.le_of_ble_eq_true rfl)⟩) (hw.preV hR.obj cl_M.1) rfl rfl hl.1 rfl (lv_room (Nat.le_of_ble_eq_true rfl)) d_M_amend_172 ⟨(Nat.zero_le _), (Nat.zero_le _)⟩) (fun r1 N6 H locs hp hw => ?_)
    obtain ⟨hr1, hp⟩ := hp
    have hR := hp.tr hR
    exact m_iret S hlk hr (by rw [hr1]; exact b2i_nar _) hw (⟨hr1, hR⟩) (Nat.le_refl _) (Nat.le_refl _) d_M_amend_175
  · refine lv_iload_n S.1 S.2.1 d_M_amend_106 rfl (lv_at hl 3 rfl) ?_
    refine lv_aload_n S.1 S.2.1 d_M_amend_107 rfl (lv_at hl 0 rfl) ?_
    refine m_get S hw cl_M hR.obj 9 (by decide) g697 (fun _ h => h) rfl d_M_amend_108 ?_
    refine lv_iload_n S.1 S.2.1 d_M_amend_111 rfl (lv_at hl 1 rfl) ?_
    refine m_rld (o := k) S hw hR 3 (by decide) (by omega) d_M_amend_112 ?_
    refine lv_icmp_gt (tgt := 151) S.1 S.2.1 d_M_amend_113 rfl (fun _ => ?_) (fun h => absurd (Int32.not_le.mp (fun z => hlo ⟨h103, z⟩)) h)
    refine lv_aload_n S.1 S.2.1 d_M_amend_151 rfl (lv_at hl 0 rfl) ?_
    refine lv_iload_n S.1 S.2.1 d_M_amend_152 rfl (lv_at hl 1 rfl) ?_
    refine m_cv hw (va_runV (As := [.int (nI k)]) (rest := []) S (c_M_end l γ N2 μ σ (0, ε.2.1, ε.2.2.1, ε.2.2.2.1, ε.2.2.2.2.1, ε.2.2.2.2.2) hR.1 hn k hk) (m_cwV 1 S g828 g830 g34 g48 g831 rfl rfl ⟨by decide +kernel, by decide +kernel, by decide +kernel⟩ ⟨(Nat.le_of_ble_eq_true rfl), (Nat.le_of_ble_eq_true rfl)⟩) (hw.preV hR.obj cl_M.1) rfl rfl hl.1 rfl (lv_room (Nat.le_of_ble_eq_true rfl)) d_M_amend_153 ⟨(Nat.zero_le _), (Nat.zero_le _)⟩) (fun N7 H locs hp hw => ?_)
    have hR := hp.tr hR
    refine lv_aload_n S.1 S.2.1 d_M_amend_156 rfl (lv_at hl 0 rfl) ?_
    refine m_get S hw cl_M hR.obj 8 (by decide) g696 (fun _ h => h) rfl d_M_amend_157 ?_
    refine lv_iload_n S.1 S.2.1 d_M_amend_160 rfl (lv_at hl 1 rfl) ?_
    refine lv_iload_n S.1 S.2.1 d_M_amend_161 rfl (lv_at hl 2 rfl) ?_
    refine m_rst (o := k) (v := p0) S hw hR 2 (by decide) (by omega) d_M_amend_162 (fun H locs N8 hR hw => ?_)
    have hR : RQ γ _ N8 μ ((sn (xEnd σ k), s1 (sI (xEnd σ k)) 2 k p0), (sph (xEnd σ k), srf (xEnd σ k), sbd (xEnd σ k), srk (xEnd σ k)), stn (xEnd σ k), sT (xEnd σ k), sal (xEnd σ k)) (0, ε.2.1, ε.2.2.1, ε.2.2.2.1, ε.2.2.2.2.1, ε.2.2.2.2.2) := hR
    refine lv_aload_n S.1 S.2.1 d_M_amend_163 rfl (lv_at hl 0 rfl) ?_
    refine m_get S hw cl_M hR.obj 9 (by decide) g697 (fun _ h => h) rfl d_M_amend_164 ?_
    refine lv_iload_n S.1 S.2.1 d_M_amend_167 rfl (lv_at hl 1 rfl) ?_
    refine lv_iload_n S.1 S.2.1 d_M_amend_168 rfl (lv_at hl 3 rfl) ?_
    refine m_rst (o := k) (v := q0) S hw hR 3 (by decide) (by omega) d_M_amend_169 (fun H locs N9 hR hw => ?_)
    have hR : RQ γ _ N9 μ ((sn (xEnd σ k), s1 (s1 (sI (xEnd σ k)) 2 k p0) 3 k q0), (sph (xEnd σ k), srf (xEnd σ k), sbd (xEnd σ k), srk (xEnd σ k)), stn (xEnd σ k), sT (xEnd σ k), sal (xEnd σ k)) (0, ε.2.1, ε.2.2.1, ε.2.2.2.1, ε.2.2.2.2.1, ε.2.2.2.2.2) := hR
    have hR : RQ γ _ N9 μ (rAm σ k p0 q0) (0, ε.2) := hR
    refine lv_aload_n S.1 S.2.1 d_M_amend_170 rfl (lv_at hl 0 rfl) ?_
    refine lv_iload_n S.1 S.2.1 d_M_amend_171 rfl (lv_at hl 1 rfl) ?_
    refine m_ci hw (va_runV (As := [.int (nI k)]) (rest := []) S (c_M_comes l γ N9 μ (rAm σ k p0 q0) (0, ε.2) hR.1 L hI1 hL1 hB k hk (by show s1 (s1 (s1 (s1 (s1 (sI σ) 3 k 0) 4 k 0) 5 k (-1)) 2 k p0) 3 k q0 5 k = -1; rw [s1_f (by decide), s1_f (by decide)]; exact s1_ss _ _ _ _) (by rw [hq3]; omega) (by rw [hq3]; omega) hrk σ' hfin hT) (m_cwV 1 S g785 g787 g24 g48 g788 rfl rfl ⟨by decide +kernel, by decide +kernel, by decide +kernel⟩ ⟨(Nat.le_of_ble_eq_true rfl), (Nat.le_of_ble_eq_true rfl)⟩) (hw.preV hR.obj cl_M.1) rfl rfl hl.1 rfl (lv_room (Nat.le_of_ble_eq_true rfl)) d_M_amend_172 ⟨(Nat.zero_le _), (Nat.zero_le _)⟩) (fun r1 N10 H locs hp hw => ?_)
    obtain ⟨hr1, hp⟩ := hp
    have hR := hp.tr hR
    exact m_iret S hlk hr (by rw [hr1]; exact b2i_nar _) hw (⟨hr1, hR⟩) (Nat.le_refl _) (Nat.le_refl _) d_M_amend_175
set_option maxHeartbeats 4000000 in
set_option maxRecDepth 100000 in
theorem c_M_call (l : Launch) (γ : mG) (M : mMap) (μ : RK) (σ : St) (ε : RE) (hR : RM γ M μ σ ε)  : Met l y_M_call w_M_call ({ frames := 0, cells := 0, slots := 0, locals := 0 } : Room) (mPc γ M [.ref (rx μ)]) (mQi γ (fun r M' => r = sph σ ∧ RQ γ M M' μ (oPh σ 0) (0, ε.2))) 0 0 (mA (gz γ)) := by
  refine m_enter (by decide) (Nat.le_of_ble_eq_true rfl) ?_
  intro p e s m below meth c ls S hr hlk hnm hl hw
  have hl : lv_has ls 2 [(0, .ref (rx μ))] := hl
  have hR := hR.q
  refine lv_aload_n S.1 S.2.1 d_M_call_0 rfl (lv_at hl 0 rfl) ?_
  refine lv_iconst (v := 0) S.1 S.2.1 d_M_call_1 (by decide) ?_
  refine m_rput (σ' := σ) (ε' := (0, ε.2.1, ε.2.2.1, ε.2.2.2.1, ε.2.2.2.2.1, ε.2.2.2.2.2)) S hw hR 0 (by decide) g688 rfl rfl rfl d_M_call_2 rfl (fun i hi => rfl) (fun H locs N1 hR hw => ?_)
  refine lv_aload_n S.1 S.2.1 d_M_call_5 rfl (lv_at hl 0 rfl) ?_
  refine m_get S hw cl_M hR.obj 1 (by decide) g689 (fun _ h => h) rfl d_M_call_6 ?_
  refine lv_istore_n S.1 S.2.1 d_M_call_9 rfl hl (by decide) rfl (fun ls hl => ?_)
  have hl : lv_has ls 2 [(1, .int (sph σ)), (0, .ref (rx μ))] := hl
  refine lv_aload_n S.1 S.2.1 d_M_call_10 rfl (lv_at hl 1 rfl) ?_
  refine lv_iconst (v := 0) S.1 S.2.1 d_M_call_11 (by decide) ?_
  refine m_rput (σ' := ((sn σ, sI σ), (0, srf σ, sbd σ, srk σ), stn σ, sT σ, sal σ)) (ε' := (0, ε.2.1, ε.2.2.1, ε.2.2.2.1, ε.2.2.2.2.1, ε.2.2.2.2.2)) S hw hR 1 (by decide) g689 rfl rfl rfl d_M_call_12 rfl (fun i hi => rfl) (fun H locs N2 hR hw => ?_)
  refine lv_iload_n S.1 S.2.1 d_M_call_15 rfl (lv_at hl 0 rfl) ?_
  exact m_iret S hlk hr rfl hw (⟨rfl, hR⟩) (Nat.le_refl _) (Nat.le_refl _) d_M_call_16
set_option maxHeartbeats 4000000 in
set_option maxRecDepth 100000 in
theorem c_M_bandA (l : Launch) (γ : mG) (M : mMap) (μ : RK) (σ : St) (ε : RE) (hR : RM γ M μ σ ε) (a0 b0 : Int32) (hv : (rg 1 2000 a0 && rg 0 2000 b0) = false) : Met l y_M_band w_M_band ({ frames := 1, cells := 0, slots := 0, locals := 22 } : Room) (mPc γ M [.ref (rx μ), .int a0, .int b0]) (mQi γ (fun _ M' => RQ γ M M' μ σ (1, ε.2))) 0 0 (mA (gz γ)) := by
  refine m_enter (by decide) (Nat.le_of_ble_eq_true rfl) ?_
  intro p e s m below meth c ls S hr hlk hnm hl hw
  have hl : lv_has ls 4 [(0, .ref (rx μ)), (1, .int a0), (2, .int b0)] := hl
  have hR := hR.q
  refine lv_aload_n S.1 S.2.1 d_M_band_0 rfl (lv_at hl 0 rfl) ?_
  refine lv_iload_n S.1 S.2.1 d_M_band_1 rfl (lv_at hl 1 rfl) ?_
  refine lv_iconst (v := 1) S.1 S.2.1 d_M_band_2 (by decide) ?_
  refine lv_sipush (v := 2000) S.1 S.2.1 d_M_band_3 (by decide) ?_
  refine m_ci hw (va_runS (As := [.int a0, .int 1, .int 2000]) (rest := [.ref (rx μ)]) S (c_M_in l γ M a0 1 2000) (m_cwS 3 S g778 g779 g48 g780 rfl rfl ⟨by decide +kernel, by decide +kernel, by decide +kernel⟩ ⟨(Nat.le_of_ble_eq_true rfl), (Nat.le_of_ble_eq_true rfl)⟩) hw.preS rfl rfl hl.1 rfl (lv_room (Nat.le_of_ble_eq_true rfl)) d_M_band_6 ⟨(Nat.zero_le _), (Nat.zero_le _)⟩) (fun r1 M1 H locs hp hw => ?_)
  obtain ⟨rfl, hM1⟩ := hp
  rw [hM1] at hw
  refine lv_if_eq (tgt := 27) S.1 S.2.1 d_M_band_9 rfl (fun h9 => ?_) (fun h9 => ?_)
  · refine lv_iconst (v := 1) S.1 S.2.1 d_M_band_27 (by decide) ?_
    refine m_rput (σ' := σ) (ε' := (1, ε.2.1, ε.2.2.1, ε.2.2.2.1, ε.2.2.2.2.1, ε.2.2.2.2.2)) S hw hR 0 (by decide) g688 rfl rfl rfl d_M_band_28 rfl (fun i hi => rfl) (fun H locs N1 hR hw => ?_)
    refine lv_aload_n S.1 S.2.1 d_M_band_31 rfl (lv_at hl 0 rfl) ?_
    refine m_get S hw cl_M hR.obj 0 (by decide) g688 (fun _ h => h) rfl d_M_band_32 ?_
    refine lv_if_le (tgt := 40) S.1 S.2.1 d_M_band_35 rfl (fun h => absurd h (show ¬ (1 : Int32) ≤ 0 by decide)) (fun _ => ?_)
    refine lv_iconst (v := 0) S.1 S.2.1 d_M_band_38 (by decide) ?_
    exact m_iret S hlk hr rfl hw hR (Nat.le_refl _) (Nat.le_refl _) d_M_band_39
  · refine lv_iload_n S.1 S.2.1 d_M_band_12 rfl (lv_at hl 2 rfl) ?_
    refine lv_iconst (v := 0) S.1 S.2.1 d_M_band_13 (by decide) ?_
    refine lv_sipush (v := 2000) S.1 S.2.1 d_M_band_14 (by decide) ?_
    refine m_ci hw (va_runS (As := [.int b0, .int 0, .int 2000]) (rest := [.ref (rx μ)]) S (c_M_in l γ M b0 0 2000) (m_cwS 3 S g778 g779 g48 g780 rfl rfl ⟨by decide +kernel, by decide +kernel, by decide +kernel⟩ ⟨(Nat.le_of_ble_eq_true rfl), (Nat.le_of_ble_eq_true rfl)⟩) hw.preS rfl rfl hl.1 rfl (lv_room (Nat.le_of_ble_eq_true rfl)) d_M_band_17 ⟨(Nat.zero_le _), (Nat.zero_le _)⟩) (fun r1 M1 H locs hp hw => ?_)
    obtain ⟨rfl, hM1⟩ := hp
    rw [hM1] at hw
    refine lv_if_eq (tgt := 27) S.1 S.2.1 d_M_band_20 rfl (fun h20 => ?_) (fun h20 => ?_)
    · refine lv_iconst (v := 1) S.1 S.2.1 d_M_band_27 (by decide) ?_
      refine m_rput (σ' := σ) (ε' := (1, ε.2.1, ε.2.2.1, ε.2.2.2.1, ε.2.2.2.2.1, ε.2.2.2.2.2)) S hw hR 0 (by decide) g688 rfl rfl rfl d_M_band_28 rfl (fun i hi => rfl) (fun H locs N2 hR hw => ?_)
      refine lv_aload_n S.1 S.2.1 d_M_band_31 rfl (lv_at hl 0 rfl) ?_
      refine m_get S hw cl_M hR.obj 0 (by decide) g688 (fun _ h => h) rfl d_M_band_32 ?_
      refine lv_if_le (tgt := 40) S.1 S.2.1 d_M_band_35 rfl (fun h => absurd h (show ¬ (1 : Int32) ≤ 0 by decide)) (fun _ => ?_)
      refine lv_iconst (v := 0) S.1 S.2.1 d_M_band_38 (by decide) ?_
      exact m_iret S hlk hr rfl hw hR (Nat.le_refl _) (Nat.le_refl _) d_M_band_39
    · exfalso
      rw [b2i_n0.mp h9, b2i_n0.mp h20] at hv
      cases hv
set_option maxHeartbeats 4000000 in
set_option maxRecDepth 100000 in
theorem c_M_band (l : Launch) (γ : mG) (M : mMap) (μ : RK) (σ : St) (ε : RE) (hR : RM γ M μ σ ε) (a0 b0 : Int32) (hv1 : rg 1 2000 a0 = true) (hv2 : rg 0 2000 b0 = true) : Met l y_M_band w_M_band ({ frames := 1, cells := 0, slots := 0, locals := 22 } : Room) (mPc γ M [.ref (rx μ), .int a0, .int b0]) (mQi γ (fun r M' => r = srf σ ∧ RQ γ M M' μ (oBand σ a0 b0) (0, ε.2))) 0 0 (mA (gz γ)) := by
  refine m_enter (by decide) (Nat.le_of_ble_eq_true rfl) ?_
  intro p e s m below meth c ls S hr hlk hnm hl hw
  have hl : lv_has ls 4 [(0, .ref (rx μ)), (1, .int a0), (2, .int b0)] := hl
  have hR := hR.q
  refine lv_aload_n S.1 S.2.1 d_M_band_0 rfl (lv_at hl 0 rfl) ?_
  refine lv_iload_n S.1 S.2.1 d_M_band_1 rfl (lv_at hl 1 rfl) ?_
  refine lv_iconst (v := 1) S.1 S.2.1 d_M_band_2 (by decide) ?_
  refine lv_sipush (v := 2000) S.1 S.2.1 d_M_band_3 (by decide) ?_
  refine m_ci hw (va_runS (As := [.int a0, .int 1, .int 2000]) (rest := [.ref (rx μ)]) S (c_M_in l γ M a0 1 2000) (m_cwS 3 S g778 g779 g48 g780 rfl rfl ⟨by decide +kernel, by decide +kernel, by decide +kernel⟩ ⟨(Nat.le_of_ble_eq_true rfl), (Nat.le_of_ble_eq_true rfl)⟩) hw.preS rfl rfl hl.1 rfl (lv_room (Nat.le_of_ble_eq_true rfl)) d_M_band_6 ⟨(Nat.zero_le _), (Nat.zero_le _)⟩) (fun r1 M1 H locs hp hw => ?_)
  obtain ⟨rfl, hM1⟩ := hp
  rw [hM1] at hw
  refine lv_if_eq (tgt := 27) S.1 S.2.1 d_M_band_9 rfl (fun h => absurd h (b2i_n0.mpr hv1)) (fun _ => ?_)
  refine lv_iload_n S.1 S.2.1 d_M_band_12 rfl (lv_at hl 2 rfl) ?_
  refine lv_iconst (v := 0) S.1 S.2.1 d_M_band_13 (by decide) ?_
  refine lv_sipush (v := 2000) S.1 S.2.1 d_M_band_14 (by decide) ?_
  refine m_ci hw (va_runS (As := [.int b0, .int 0, .int 2000]) (rest := [.ref (rx μ)]) S (c_M_in l γ M b0 0 2000) (m_cwS 3 S g778 g779 g48 g780 rfl rfl ⟨by decide +kernel, by decide +kernel, by decide +kernel⟩ ⟨(Nat.le_of_ble_eq_true rfl), (Nat.le_of_ble_eq_true rfl)⟩) hw.preS rfl rfl hl.1 rfl (lv_room (Nat.le_of_ble_eq_true rfl)) d_M_band_17 ⟨(Nat.zero_le _), (Nat.zero_le _)⟩) (fun r1 M1 H locs hp hw => ?_)
  obtain ⟨rfl, hM1⟩ := hp
  rw [hM1] at hw
  refine lv_if_eq (tgt := 27) S.1 S.2.1 d_M_band_20 rfl (fun h => absurd h (b2i_n0.mpr hv2)) (fun _ => ?_)
  refine lv_iconst (v := 0) S.1 S.2.1 d_M_band_23 (by decide) ?_
  refine lv_goto (tgt := 28) S.1 S.2.1 d_M_band_24 rfl ?_
  refine m_rput (σ' := σ) (ε' := (0, ε.2.1, ε.2.2.1, ε.2.2.2.1, ε.2.2.2.2.1, ε.2.2.2.2.2)) S hw hR 0 (by decide) g688 rfl rfl rfl d_M_band_28 rfl (fun i hi => rfl) (fun H locs N1 hR hw => ?_)
  refine lv_aload_n S.1 S.2.1 d_M_band_31 rfl (lv_at hl 0 rfl) ?_
  refine m_get S hw cl_M hR.obj 0 (by decide) g688 (fun _ h => h) rfl d_M_band_32 ?_
  refine lv_if_le (tgt := 40) S.1 S.2.1 d_M_band_35 rfl (fun _ => ?_) (fun h => absurd (show (0 : Int32) ≤ 0 by decide) h)
  refine lv_aload_n S.1 S.2.1 d_M_band_40 rfl (lv_at hl 0 rfl) ?_
  refine m_get S hw cl_M hR.obj 2 (by decide) g690 (fun _ h => h) rfl d_M_band_41 ?_
  refine lv_istore_n S.1 S.2.1 d_M_band_44 rfl hl (by decide) rfl (fun ls hl => ?_)
  have hl : lv_has ls 4 [(3, .int (srf σ)), (0, .ref (rx μ)), (1, .int a0), (2, .int b0)] := hl
  refine lv_aload_n S.1 S.2.1 d_M_band_45 rfl (lv_at hl 1 rfl) ?_
  refine lv_iload_n S.1 S.2.1 d_M_band_46 rfl (lv_at hl 2 rfl) ?_
  refine m_rput (σ' := ((sn σ, sI σ), (sph σ, a0, sbd σ, srk σ), stn σ, sT σ, sal σ)) (ε' := (0, ε.2.1, ε.2.2.1, ε.2.2.2.1, ε.2.2.2.2.1, ε.2.2.2.2.2)) S hw hR 2 (by decide) g690 rfl rfl rfl d_M_band_47 rfl (fun i hi => rfl) (fun H locs N2 hR hw => ?_)
  refine lv_aload_n S.1 S.2.1 d_M_band_50 rfl (lv_at hl 1 rfl) ?_
  refine lv_iload_n S.1 S.2.1 d_M_band_51 rfl (lv_at hl 3 rfl) ?_
  refine m_rput (σ' := ((sn σ, sI σ), (sph σ, a0, b0, srk σ), stn σ, sT σ, sal σ)) (ε' := (0, ε.2.1, ε.2.2.1, ε.2.2.2.1, ε.2.2.2.2.1, ε.2.2.2.2.2)) S hw hR 3 (by decide) g691 rfl rfl rfl d_M_band_52 rfl (fun i hi => rfl) (fun H locs N3 hR hw => ?_)
  refine lv_iload_n S.1 S.2.1 d_M_band_55 rfl (lv_at hl 0 rfl) ?_
  exact m_iret S hlk hr rfl hw (⟨rfl, hR⟩) (Nat.le_refl _) (Nat.le_refl _) d_M_band_56
set_option maxHeartbeats 4000000 in
set_option maxRecDepth 100000 in
theorem c_M_orderJ (l : Launch) (γ : mG) (M : mMap) (μ : RK) (σ : St) (ε : RE) (hR : RM γ M μ σ ε) (hn : sn σ ≤ 250) (j : Int32) (hj : ∀ k, k < sn σ → ¬ j = nI k) (w0 : Int32) : Met l y_M_order w_M_order ({ frames := 2, cells := 0, slots := 0, locals := 43 } : Room) (mPc γ M [.ref (rx μ), .int j, .int w0]) (mQi γ (fun _ M' => RQ γ M M' μ σ (1, ε.2))) 0 0 (mA (gz γ)) := by
  refine m_enter (by decide) (Nat.le_of_ble_eq_true rfl) ?_
  intro p e s m below meth c ls S hr hlk hnm hl hw
  have hl : lv_has ls 3 [(0, .ref (rx μ)), (1, .int j), (2, .int w0)] := hl
  have hR := hR.q
  refine lv_aload_n S.1 S.2.1 d_M_order_0 rfl (lv_at hl 0 rfl) ?_
  refine lv_aload_n S.1 S.2.1 d_M_order_1 rfl (lv_at hl 0 rfl) ?_
  refine lv_iload_n S.1 S.2.1 d_M_order_2 rfl (lv_at hl 1 rfl) ?_
  refine m_ci hw (va_runV (As := [.int j]) (rest := [.ref (rx μ)]) S (c_M_isOrder l γ M μ σ ε hR.1 j) (m_cwV 1 S g844 g846 g37 g48 g847 rfl rfl ⟨by decide +kernel, by decide +kernel, by decide +kernel⟩ ⟨(Nat.le_of_ble_eq_true rfl), (Nat.le_of_ble_eq_true rfl)⟩) (hw.preV hR.obj cl_M.1) rfl rfl hl.1 rfl (lv_room (Nat.le_of_ble_eq_true rfl)) d_M_order_3 ⟨(Nat.zero_le _), (Nat.zero_le _)⟩) (fun r1 M1 H locs hp hw => ?_)
  obtain ⟨rfl, hM1⟩ := hp
  rw [hM1] at hw
  refine lv_if_eq (tgt := 23) S.1 S.2.1 d_M_order_6 rfl (fun _ => ?_) (fun h => absurd (b2i_0.mpr (isO_f hn hj)) h)
  refine lv_iconst (v := 1) S.1 S.2.1 d_M_order_23 (by decide) ?_
  refine m_rput (σ' := σ) (ε' := (1, ε.2.1, ε.2.2.1, ε.2.2.2.1, ε.2.2.2.2.1, ε.2.2.2.2.2)) S hw hR 0 (by decide) g688 rfl rfl rfl d_M_order_24 rfl (fun i hi => rfl) (fun H locs N1 hR hw => ?_)
  refine lv_aload_n S.1 S.2.1 d_M_order_27 rfl (lv_at hl 0 rfl) ?_
  refine m_get S hw cl_M hR.obj 0 (by decide) g688 (fun _ h => h) rfl d_M_order_28 ?_
  refine lv_if_le (tgt := 36) S.1 S.2.1 d_M_order_31 rfl (fun h => absurd h (show ¬ (1 : Int32) ≤ 0 by decide)) (fun _ => ?_)
  refine lv_iconst (v := 0) S.1 S.2.1 d_M_order_34 (by decide) ?_
  exact m_iret S hlk hr rfl hw hR (Nat.le_refl _) (Nat.le_refl _) d_M_order_35
set_option maxHeartbeats 4000000 in
set_option maxRecDepth 100000 in
theorem c_M_orderW (l : Launch) (γ : mG) (M : mMap) (μ : RK) (σ : St) (ε : RE) (hR : RM γ M μ σ ε) (hn : sn σ ≤ 250) (k : Nat) (hk : k < sn σ) (w0 : Int32) (hv : rg 0 8 w0 = false) : Met l y_M_order w_M_order ({ frames := 2, cells := 0, slots := 0, locals := 43 } : Room) (mPc γ M [.ref (rx μ), .int (nI k), .int w0]) (mQi γ (fun _ M' => RQ γ M M' μ σ (1, ε.2))) 0 0 (mA (gz γ)) := by
  refine m_enter (by decide) (Nat.le_of_ble_eq_true rfl) ?_
  intro p e s m below meth c ls S hr hlk hnm hl hw
  have hl : lv_has ls 3 [(0, .ref (rx μ)), (1, .int (nI k)), (2, .int w0)] := hl
  have hR := hR.q
  refine lv_aload_n S.1 S.2.1 d_M_order_0 rfl (lv_at hl 0 rfl) ?_
  refine lv_aload_n S.1 S.2.1 d_M_order_1 rfl (lv_at hl 0 rfl) ?_
  refine lv_iload_n S.1 S.2.1 d_M_order_2 rfl (lv_at hl 1 rfl) ?_
  refine m_ci hw (va_runV (As := [.int (nI k)]) (rest := [.ref (rx μ)]) S (c_M_isOrder l γ M μ σ ε hR.1 (nI k)) (m_cwV 1 S g844 g846 g37 g48 g847 rfl rfl ⟨by decide +kernel, by decide +kernel, by decide +kernel⟩ ⟨(Nat.le_of_ble_eq_true rfl), (Nat.le_of_ble_eq_true rfl)⟩) (hw.preV hR.obj cl_M.1) rfl rfl hl.1 rfl (lv_room (Nat.le_of_ble_eq_true rfl)) d_M_order_3 ⟨(Nat.zero_le _), (Nat.zero_le _)⟩) (fun r1 M1 H locs hp hw => ?_)
  obtain ⟨rfl, hM1⟩ := hp
  rw [hM1] at hw
  refine lv_if_eq (tgt := 23) S.1 S.2.1 d_M_order_6 rfl (fun h => absurd h (b2i_n0.mpr (isO_t hn hk))) (fun _ => ?_)
  refine lv_iload_n S.1 S.2.1 d_M_order_9 rfl (lv_at hl 2 rfl) ?_
  refine lv_iconst (v := 0) S.1 S.2.1 d_M_order_10 (by decide) ?_
  refine lv_bipush (v := 8) S.1 S.2.1 d_M_order_11 (by decide) ?_
  refine m_ci hw (va_runS (As := [.int w0, .int 0, .int 8]) (rest := [.ref (rx μ)]) S (c_M_in l γ M w0 0 8) (m_cwS 3 S g778 g779 g48 g780 rfl rfl ⟨by decide +kernel, by decide +kernel, by decide +kernel⟩ ⟨(Nat.le_of_ble_eq_true rfl), (Nat.le_of_ble_eq_true rfl)⟩) hw.preS rfl rfl hl.1 rfl (lv_room (Nat.le_of_ble_eq_true rfl)) d_M_order_13 ⟨(Nat.zero_le _), (Nat.zero_le _)⟩) (fun r1 M1 H locs hp hw => ?_)
  obtain ⟨rfl, hM1⟩ := hp
  rw [hM1] at hw
  refine lv_if_eq (tgt := 23) S.1 S.2.1 d_M_order_16 rfl (fun _ => ?_) (fun h => absurd (b2i_0.mpr hv) h)
  refine lv_iconst (v := 1) S.1 S.2.1 d_M_order_23 (by decide) ?_
  refine m_rput (σ' := σ) (ε' := (1, ε.2.1, ε.2.2.1, ε.2.2.2.1, ε.2.2.2.2.1, ε.2.2.2.2.2)) S hw hR 0 (by decide) g688 rfl rfl rfl d_M_order_24 rfl (fun i hi => rfl) (fun H locs N1 hR hw => ?_)
  refine lv_aload_n S.1 S.2.1 d_M_order_27 rfl (lv_at hl 0 rfl) ?_
  refine m_get S hw cl_M hR.obj 0 (by decide) g688 (fun _ h => h) rfl d_M_order_28 ?_
  refine lv_if_le (tgt := 36) S.1 S.2.1 d_M_order_31 rfl (fun h => absurd h (show ¬ (1 : Int32) ≤ 0 by decide)) (fun _ => ?_)
  refine lv_iconst (v := 0) S.1 S.2.1 d_M_order_34 (by decide) ?_
  exact m_iret S hlk hr rfl hw hR (Nat.le_refl _) (Nat.le_refl _) d_M_order_35
set_option maxHeartbeats 4000000 in
set_option maxRecDepth 100000 in
theorem c_M_order (l : Launch) (γ : mG) (M : mMap) (μ : RK) (σ : St) (ε : RE) (hR : RM γ M μ σ ε) (hn : sn σ ≤ 250) (k : Nat) (hk : k < sn σ) (hsd : sI σ 1 k = 0 ∨ sI σ 1 k = 1) (w0 : Int32) (hv : rg 0 8 w0 = true) : Met l y_M_order w_M_order ({ frames := 2, cells := 0, slots := 0, locals := 43 } : Room) (mPc γ M [.ref (rx μ), .int (nI k), .int w0]) (mQi γ (fun r M' => r = och (sI σ) k w0 ∧ RQ γ M M' μ (σ) (0, ε.2))) 0 0 (mA (gz γ)) := by
  refine m_enter (by decide) (Nat.le_of_ble_eq_true rfl) ?_
  intro p e s m below meth c ls S hr hlk hnm hl hw
  have hl : lv_has ls 3 [(0, .ref (rx μ)), (1, .int (nI k)), (2, .int w0)] := hl
  have hR := hR.q
  refine lv_aload_n S.1 S.2.1 d_M_order_0 rfl (lv_at hl 0 rfl) ?_
  refine lv_aload_n S.1 S.2.1 d_M_order_1 rfl (lv_at hl 0 rfl) ?_
  refine lv_iload_n S.1 S.2.1 d_M_order_2 rfl (lv_at hl 1 rfl) ?_
  refine m_ci hw (va_runV (As := [.int (nI k)]) (rest := [.ref (rx μ)]) S (c_M_isOrder l γ M μ σ ε hR.1 (nI k)) (m_cwV 1 S g844 g846 g37 g48 g847 rfl rfl ⟨by decide +kernel, by decide +kernel, by decide +kernel⟩ ⟨(Nat.le_of_ble_eq_true rfl), (Nat.le_of_ble_eq_true rfl)⟩) (hw.preV hR.obj cl_M.1) rfl rfl hl.1 rfl (lv_room (Nat.le_of_ble_eq_true rfl)) d_M_order_3 ⟨(Nat.zero_le _), (Nat.zero_le _)⟩) (fun r1 M1 H locs hp hw => ?_)
  obtain ⟨rfl, hM1⟩ := hp
  rw [hM1] at hw
  refine lv_if_eq (tgt := 23) S.1 S.2.1 d_M_order_6 rfl (fun h => absurd h (b2i_n0.mpr (isO_t hn hk))) (fun _ => ?_)
  refine lv_iload_n S.1 S.2.1 d_M_order_9 rfl (lv_at hl 2 rfl) ?_
  refine lv_iconst (v := 0) S.1 S.2.1 d_M_order_10 (by decide) ?_
  refine lv_bipush (v := 8) S.1 S.2.1 d_M_order_11 (by decide) ?_
  refine m_ci hw (va_runS (As := [.int w0, .int 0, .int 8]) (rest := [.ref (rx μ)]) S (c_M_in l γ M w0 0 8) (m_cwS 3 S g778 g779 g48 g780 rfl rfl ⟨by decide +kernel, by decide +kernel, by decide +kernel⟩ ⟨(Nat.le_of_ble_eq_true rfl), (Nat.le_of_ble_eq_true rfl)⟩) hw.preS rfl rfl hl.1 rfl (lv_room (Nat.le_of_ble_eq_true rfl)) d_M_order_13 ⟨(Nat.zero_le _), (Nat.zero_le _)⟩) (fun r1 M1 H locs hp hw => ?_)
  obtain ⟨rfl, hM1⟩ := hp
  rw [hM1] at hw
  refine lv_if_eq (tgt := 23) S.1 S.2.1 d_M_order_16 rfl (fun h => absurd h (b2i_n0.mpr hv)) (fun _ => ?_)
  refine lv_iconst (v := 0) S.1 S.2.1 d_M_order_19 (by decide) ?_
  refine lv_goto (tgt := 24) S.1 S.2.1 d_M_order_20 rfl ?_
  refine m_rput (σ' := σ) (ε' := (0, ε.2.1, ε.2.2.1, ε.2.2.2.1, ε.2.2.2.2.1, ε.2.2.2.2.2)) S hw hR 0 (by decide) g688 rfl rfl rfl d_M_order_24 rfl (fun i hi => rfl) (fun H locs N1 hR hw => ?_)
  refine lv_aload_n S.1 S.2.1 d_M_order_27 rfl (lv_at hl 0 rfl) ?_
  refine m_get S hw cl_M hR.obj 0 (by decide) g688 (fun _ h => h) rfl d_M_order_28 ?_
  refine lv_if_le (tgt := 36) S.1 S.2.1 d_M_order_31 rfl (fun _ => ?_) (fun h => absurd (show (0 : Int32) ≤ 0 by decide) h)
  refine lv_iload_n S.1 S.2.1 d_M_order_36 rfl (lv_at hl 2 rfl) ?_
  by_cases hs0 : w0 = 0
  · refine lv_tableIn (off := 47) (tgt := 84) S.1 S.2.1 d_M_order_37 (by rw [hs0]; decide) (by rw [hs0]; decide) (by rw [hs0]; decide) (by decide) ?_
    refine lv_aload_n S.1 S.2.1 d_M_order_84 rfl (lv_at hl 0 rfl) ?_
    refine m_get S hw cl_M hR.obj 6 (by decide) g694 (fun _ h => h) rfl d_M_order_85 ?_
    refine lv_iload_n S.1 S.2.1 d_M_order_88 rfl (lv_at hl 1 rfl) ?_
    refine m_rld (o := k) S hw hR 0 (by decide) (by omega) d_M_order_89 ?_
    exact m_iret S hlk hr rfl hw (⟨(show och (sI σ) k w0 = (sI σ) 0 k from by rw [hs0]; rfl).symm, hR⟩) (Nat.le_refl _) (Nat.le_refl _) d_M_order_90
  by_cases hs1 : w0 = 1
  · refine lv_tableIn (off := 54) (tgt := 91) S.1 S.2.1 d_M_order_37 (by rw [hs1]; decide) (by rw [hs1]; decide) (by rw [hs1]; decide) (by decide) ?_
    refine lv_aload_n S.1 S.2.1 d_M_order_91 rfl (lv_at hl 0 rfl) ?_
    refine m_get S hw cl_M hR.obj 7 (by decide) g695 (fun _ h => h) rfl d_M_order_92 ?_
    refine lv_iload_n S.1 S.2.1 d_M_order_95 rfl (lv_at hl 1 rfl) ?_
    refine m_rldz (o := k) S hw hR (by omega) d_M_order_96 ?_
    refine lv_if_eq (tgt := 104) S.1 S.2.1 d_M_order_97 rfl (fun h97 => ?_) (fun h97 => ?_)
    · refine lv_iconst (v := 0) S.1 S.2.1 d_M_order_104 (by decide) ?_
      exact m_iret S hlk hr rfl hw (⟨(show och (sI σ) k w0 = 0 from by rw [hs1]; show sI σ 1 k = 0; exact h97).symm, hR⟩) (Nat.le_refl _) (Nat.le_refl _) d_M_order_105
    · refine lv_iconst (v := 1) S.1 S.2.1 d_M_order_100 (by decide) ?_
      refine lv_goto (tgt := 105) S.1 S.2.1 d_M_order_101 rfl ?_
      exact m_iret S hlk hr rfl hw (⟨(show och (sI σ) k w0 = 1 from by rw [hs1]; show sI σ 1 k = 1; exact hsd.resolve_left h97).symm, hR⟩) (Nat.le_refl _) (Nat.le_refl _) d_M_order_105
  by_cases hs2 : w0 = 2
  · refine lv_tableIn (off := 69) (tgt := 106) S.1 S.2.1 d_M_order_37 (by rw [hs2]; decide) (by rw [hs2]; decide) (by rw [hs2]; decide) (by decide) ?_
    refine lv_aload_n S.1 S.2.1 d_M_order_106 rfl (lv_at hl 0 rfl) ?_
    refine m_get S hw cl_M hR.obj 8 (by decide) g696 (fun _ h => h) rfl d_M_order_107 ?_
    refine lv_iload_n S.1 S.2.1 d_M_order_110 rfl (lv_at hl 1 rfl) ?_
    refine m_rld (o := k) S hw hR 2 (by decide) (by omega) d_M_order_111 ?_
    exact m_iret S hlk hr rfl hw (⟨(show och (sI σ) k w0 = (sI σ) 2 k from by rw [hs2]; rfl).symm, hR⟩) (Nat.le_refl _) (Nat.le_refl _) d_M_order_112
  by_cases hs3 : w0 = 3
  · refine lv_tableIn (off := 76) (tgt := 113) S.1 S.2.1 d_M_order_37 (by rw [hs3]; decide) (by rw [hs3]; decide) (by rw [hs3]; decide) (by decide) ?_
    refine lv_aload_n S.1 S.2.1 d_M_order_113 rfl (lv_at hl 0 rfl) ?_
    refine m_get S hw cl_M hR.obj 9 (by decide) g697 (fun _ h => h) rfl d_M_order_114 ?_
    refine lv_iload_n S.1 S.2.1 d_M_order_117 rfl (lv_at hl 1 rfl) ?_
    refine m_rld (o := k) S hw hR 3 (by decide) (by omega) d_M_order_118 ?_
    exact m_iret S hlk hr rfl hw (⟨(show och (sI σ) k w0 = (sI σ) 3 k from by rw [hs3]; rfl).symm, hR⟩) (Nat.le_refl _) (Nat.le_refl _) d_M_order_119
  by_cases hs4 : w0 = 4
  · refine lv_tableIn (off := 83) (tgt := 120) S.1 S.2.1 d_M_order_37 (by rw [hs4]; decide) (by rw [hs4]; decide) (by rw [hs4]; decide) (by decide) ?_
    refine lv_aload_n S.1 S.2.1 d_M_order_120 rfl (lv_at hl 0 rfl) ?_
    refine m_get S hw cl_M hR.obj 10 (by decide) g698 (fun _ h => h) rfl d_M_order_121 ?_
    refine lv_iload_n S.1 S.2.1 d_M_order_124 rfl (lv_at hl 1 rfl) ?_
    refine m_rld (o := k) S hw hR 4 (by decide) (by omega) d_M_order_125 ?_
    exact m_iret S hlk hr rfl hw (⟨(show och (sI σ) k w0 = (sI σ) 4 k from by rw [hs4]; rfl).symm, hR⟩) (Nat.le_refl _) (Nat.le_refl _) d_M_order_126
  by_cases hs5 : w0 = 5
  · refine lv_tableIn (off := 90) (tgt := 127) S.1 S.2.1 d_M_order_37 (by rw [hs5]; decide) (by rw [hs5]; decide) (by rw [hs5]; decide) (by decide) ?_
    refine lv_aload_n S.1 S.2.1 d_M_order_127 rfl (lv_at hl 0 rfl) ?_
    refine m_get S hw cl_M hR.obj 11 (by decide) g699 (fun _ h => h) rfl d_M_order_128 ?_
    refine lv_iload_n S.1 S.2.1 d_M_order_131 rfl (lv_at hl 1 rfl) ?_
    refine m_rld (o := k) S hw hR 5 (by decide) (by omega) d_M_order_132 ?_
    exact m_iret S hlk hr rfl hw (⟨(show och (sI σ) k w0 = (sI σ) 5 k from by rw [hs5]; rfl).symm, hR⟩) (Nat.le_refl _) (Nat.le_refl _) d_M_order_133
  by_cases hs6 : w0 = 6
  · refine lv_tableIn (off := 97) (tgt := 134) S.1 S.2.1 d_M_order_37 (by rw [hs6]; decide) (by rw [hs6]; decide) (by rw [hs6]; decide) (by decide) ?_
    refine lv_aload_n S.1 S.2.1 d_M_order_134 rfl (lv_at hl 0 rfl) ?_
    refine m_get S hw cl_M hR.obj 12 (by decide) g700 (fun _ h => h) rfl d_M_order_135 ?_
    refine lv_iload_n S.1 S.2.1 d_M_order_138 rfl (lv_at hl 1 rfl) ?_
    refine m_rld (o := k) S hw hR 6 (by decide) (by omega) d_M_order_139 ?_
    exact m_iret S hlk hr rfl hw (⟨(show och (sI σ) k w0 = (sI σ) 6 k from by rw [hs6]; rfl).symm, hR⟩) (Nat.le_refl _) (Nat.le_refl _) d_M_order_140
  by_cases hs7 : w0 = 7
  · refine lv_tableIn (off := 104) (tgt := 141) S.1 S.2.1 d_M_order_37 (by rw [hs7]; decide) (by rw [hs7]; decide) (by rw [hs7]; decide) (by decide) ?_
    refine lv_aload_n S.1 S.2.1 d_M_order_141 rfl (lv_at hl 0 rfl) ?_
    refine m_get S hw cl_M hR.obj 13 (by decide) g701 (fun _ h => h) rfl d_M_order_142 ?_
    refine lv_iload_n S.1 S.2.1 d_M_order_145 rfl (lv_at hl 1 rfl) ?_
    refine m_rld (o := k) S hw hR 7 (by decide) (by omega) d_M_order_146 ?_
    exact m_iret S hlk hr rfl hw (⟨(show och (sI σ) k w0 = (sI σ) 7 k from by rw [hs7]; rfl).symm, hR⟩) (Nat.le_refl _) (Nat.le_refl _) d_M_order_147
  refine lv_tableOut (tgt := 148) S.1 S.2.1 d_M_order_37 (by have q0 := lv_neT hs0 (show (0 : Int32).toInt = 0 by decide); have q1 := lv_neT hs1 (show (1 : Int32).toInt = 1 by decide); have q2 := lv_neT hs2 (show (2 : Int32).toInt = 2 by decide); have q3 := lv_neT hs3 (show (3 : Int32).toInt = 3 by decide); have q4 := lv_neT hs4 (show (4 : Int32).toInt = 4 by decide); have q5 := lv_neT hs5 (show (5 : Int32).toInt = 5 by decide); have q6 := lv_neT hs6 (show (6 : Int32).toInt = 6 by decide); have q7 := lv_neT hs7 (show (7 : Int32).toInt = 7 by decide); omega) (by decide) ?_
  refine lv_aload_n S.1 S.2.1 d_M_order_148 rfl (lv_at hl 0 rfl) ?_
  refine m_get S hw cl_M hR.obj 14 (by decide) g702 (fun _ h => h) rfl d_M_order_149 ?_
  refine lv_iload_n S.1 S.2.1 d_M_order_152 rfl (lv_at hl 1 rfl) ?_
  refine m_rld (o := k) S hw hR 8 (by decide) (by omega) d_M_order_153 ?_
  exact m_iret S hlk hr rfl hw (⟨(show och (sI σ) k w0 = (sI σ) 8 k from by unfold och; rw [if_neg hs0, if_neg hs1, if_neg hs2, if_neg hs3, if_neg hs4, if_neg hs5, if_neg hs6, if_neg hs7]).symm, hR⟩) (Nat.le_refl _) (Nat.le_refl _) d_M_order_154
set_option maxHeartbeats 4000000 in
set_option maxRecDepth 100000 in
theorem c_M_tradeN (l : Launch) (γ : mG) (M : mMap) (μ : RK) (σ : St) (ε : RE) (hR : RM γ M μ σ ε) (ht : stn σ ≤ 30000) (x0 w0 : Int32) (hj : ∀ k, k < stn σ → ¬ x0 = nI k) : Met l y_M_trade w_M_trade ({ frames := 1, cells := 0, slots := 0, locals := 22 } : Room) (mPc γ M [.ref (rx μ), .int x0, .int w0]) (mQi γ (fun r M' => r = -1 ∧ RQ γ M M' μ (σ) (0, ε.2))) 0 0 (mA (gz γ)) := by
  refine m_enter (by decide) (Nat.le_of_ble_eq_true rfl) ?_
  intro p e s m below meth c ls S hr hlk hnm hl hw
  have hl : lv_has ls 3 [(0, .ref (rx μ)), (1, .int x0), (2, .int w0)] := hl
  have hR := hR.q
  refine lv_aload_n S.1 S.2.1 d_M_trade_0 rfl (lv_at hl 0 rfl) ?_
  refine lv_iconst (v := 0) S.1 S.2.1 d_M_trade_1 (by decide) ?_
  refine m_rput (σ' := σ) (ε' := (0, ε.2.1, ε.2.2.1, ε.2.2.2.1, ε.2.2.2.2.1, ε.2.2.2.2.2)) S hw hR 0 (by decide) g688 rfl rfl rfl d_M_trade_2 rfl (fun i hi => rfl) (fun H locs N1 hR hw => ?_)
  refine lv_iload_n S.1 S.2.1 d_M_trade_5 rfl (lv_at hl 1 rfl) ?_
  refine lv_iconst (v := 0) S.1 S.2.1 d_M_trade_6 (by decide) ?_
  refine lv_aload_n S.1 S.2.1 d_M_trade_7 rfl (lv_at hl 0 rfl) ?_
  refine m_get S hw cl_M hR.obj 15 (by decide) g703 (fun _ h => h) rfl d_M_trade_8 ?_
  refine lv_iconst (v := 1) S.1 S.2.1 d_M_trade_11 (by decide) ?_
  refine lv_isub S.1 S.2.1 d_M_trade_12 ?_
  refine m_ci hw (va_runS (As := [.int x0, .int 0, .int ((nI (stn σ)) - 1)]) (rest := []) S (c_M_in l γ N1 x0 0 ((nI (stn σ)) - 1)) (m_cwS 3 S g778 g779 g48 g780 rfl rfl ⟨by decide +kernel, by decide +kernel, by decide +kernel⟩ ⟨(Nat.le_of_ble_eq_true rfl), (Nat.le_of_ble_eq_true rfl)⟩) hw.preS rfl rfl hl.1 rfl (lv_room (Nat.le_of_ble_eq_true rfl)) d_M_trade_13 ⟨(Nat.zero_le _), (Nat.zero_le _)⟩) (fun r1 M1 H locs hp hw => ?_)
  obtain ⟨rfl, hM1⟩ := hp
  rw [hM1] at hw
  refine lv_if_ne (tgt := 21) S.1 S.2.1 d_M_trade_16 rfl (fun h => absurd (b2i_0.mpr (isT_f (by omega) hj)) h) (fun _ => ?_)
  refine lv_iconst (v := (-1)) S.1 S.2.1 d_M_trade_19 (by decide) ?_
  exact m_iret S hlk hr rfl hw (⟨rfl, hR⟩) (Nat.le_refl _) (Nat.le_refl _) d_M_trade_20
set_option maxHeartbeats 4000000 in
set_option maxRecDepth 100000 in
theorem c_M_trade (l : Launch) (γ : mG) (M : mMap) (μ : RK) (σ : St) (ε : RE) (hR : RM γ M μ σ ε) (ht : stn σ ≤ 30000) (k : Nat) (hk : k < stn σ) (w0 : Int32) : Met l y_M_trade w_M_trade ({ frames := 1, cells := 0, slots := 0, locals := 22 } : Room) (mPc γ M [.ref (rx μ), .int (nI k), .int w0]) (mQi γ (fun r M' => r = tlv σ k w0 ∧ RQ γ M M' μ (σ) (0, ε.2))) 0 0 (mA (gz γ)) := by
  refine m_enter (by decide) (Nat.le_of_ble_eq_true rfl) ?_
  intro p e s m below meth c ls S hr hlk hnm hl hw
  have hl : lv_has ls 3 [(0, .ref (rx μ)), (1, .int (nI k)), (2, .int w0)] := hl
  have hR := hR.q
  refine lv_aload_n S.1 S.2.1 d_M_trade_0 rfl (lv_at hl 0 rfl) ?_
  refine lv_iconst (v := 0) S.1 S.2.1 d_M_trade_1 (by decide) ?_
  refine m_rput (σ' := σ) (ε' := (0, ε.2.1, ε.2.2.1, ε.2.2.2.1, ε.2.2.2.2.1, ε.2.2.2.2.2)) S hw hR 0 (by decide) g688 rfl rfl rfl d_M_trade_2 rfl (fun i hi => rfl) (fun H locs N1 hR hw => ?_)
  refine lv_iload_n S.1 S.2.1 d_M_trade_5 rfl (lv_at hl 1 rfl) ?_
  refine lv_iconst (v := 0) S.1 S.2.1 d_M_trade_6 (by decide) ?_
  refine lv_aload_n S.1 S.2.1 d_M_trade_7 rfl (lv_at hl 0 rfl) ?_
  refine m_get S hw cl_M hR.obj 15 (by decide) g703 (fun _ h => h) rfl d_M_trade_8 ?_
  refine lv_iconst (v := 1) S.1 S.2.1 d_M_trade_11 (by decide) ?_
  refine lv_isub S.1 S.2.1 d_M_trade_12 ?_
  refine m_ci hw (va_runS (As := [.int (nI k), .int 0, .int ((nI (stn σ)) - 1)]) (rest := []) S (c_M_in l γ N1 (nI k) 0 ((nI (stn σ)) - 1)) (m_cwS 3 S g778 g779 g48 g780 rfl rfl ⟨by decide +kernel, by decide +kernel, by decide +kernel⟩ ⟨(Nat.le_of_ble_eq_true rfl), (Nat.le_of_ble_eq_true rfl)⟩) hw.preS rfl rfl hl.1 rfl (lv_room (Nat.le_of_ble_eq_true rfl)) d_M_trade_13 ⟨(Nat.zero_le _), (Nat.zero_le _)⟩) (fun r1 M1 H locs hp hw => ?_)
  obtain ⟨rfl, hM1⟩ := hp
  rw [hM1] at hw
  refine lv_if_ne (tgt := 21) S.1 S.2.1 d_M_trade_16 rfl (fun _ => ?_) (fun h => absurd h (b2i_n0.mpr (isT_t (by omega) hk)))
  refine lv_iload_n S.1 S.2.1 d_M_trade_21 rfl (lv_at hl 2 rfl) ?_
  by_cases hs0 : w0 = 0
  · refine lv_tableIn (off := 30) (tgt := 52) S.1 S.2.1 d_M_trade_22 (by rw [hs0]; decide) (by rw [hs0]; decide) (by rw [hs0]; decide) (by decide) ?_
    refine lv_aload_n S.1 S.2.1 d_M_trade_52 rfl (lv_at hl 0 rfl) ?_
    refine m_get S hw cl_M hR.obj 16 (by decide) g704 (fun _ h => h) rfl d_M_trade_53 ?_
    refine lv_iload_n S.1 S.2.1 d_M_trade_56 rfl (lv_at hl 1 rfl) ?_
    refine m_rldT (o := k) S hw hR 0 (by decide) (by omega) d_M_trade_57 ?_
    exact m_iret S hlk hr rfl hw (⟨(show tlv σ k w0 = (sT σ) 0 k from by rw [hs0]; rfl).symm, hR⟩) (Nat.le_refl _) (Nat.le_refl _) d_M_trade_58
  by_cases hs1 : w0 = 1
  · refine lv_tableIn (off := 37) (tgt := 59) S.1 S.2.1 d_M_trade_22 (by rw [hs1]; decide) (by rw [hs1]; decide) (by rw [hs1]; decide) (by decide) ?_
    refine lv_aload_n S.1 S.2.1 d_M_trade_59 rfl (lv_at hl 0 rfl) ?_
    refine m_get S hw cl_M hR.obj 17 (by decide) g705 (fun _ h => h) rfl d_M_trade_60 ?_
    refine lv_iload_n S.1 S.2.1 d_M_trade_63 rfl (lv_at hl 1 rfl) ?_
    refine m_rldT (o := k) S hw hR 1 (by decide) (by omega) d_M_trade_64 ?_
    exact m_iret S hlk hr rfl hw (⟨(show tlv σ k w0 = (sT σ) 1 k from by rw [hs1]; rfl).symm, hR⟩) (Nat.le_refl _) (Nat.le_refl _) d_M_trade_65
  by_cases hs2 : w0 = 2
  · refine lv_tableIn (off := 44) (tgt := 66) S.1 S.2.1 d_M_trade_22 (by rw [hs2]; decide) (by rw [hs2]; decide) (by rw [hs2]; decide) (by decide) ?_
    refine lv_aload_n S.1 S.2.1 d_M_trade_66 rfl (lv_at hl 0 rfl) ?_
    refine m_get S hw cl_M hR.obj 18 (by decide) g706 (fun _ h => h) rfl d_M_trade_67 ?_
    refine lv_iload_n S.1 S.2.1 d_M_trade_70 rfl (lv_at hl 1 rfl) ?_
    refine m_rldT (o := k) S hw hR 2 (by decide) (by omega) d_M_trade_71 ?_
    exact m_iret S hlk hr rfl hw (⟨(show tlv σ k w0 = (sT σ) 2 k from by rw [hs2]; rfl).symm, hR⟩) (Nat.le_refl _) (Nat.le_refl _) d_M_trade_72
  by_cases hs3 : w0 = 3
  · refine lv_tableIn (off := 51) (tgt := 73) S.1 S.2.1 d_M_trade_22 (by rw [hs3]; decide) (by rw [hs3]; decide) (by rw [hs3]; decide) (by decide) ?_
    refine lv_aload_n S.1 S.2.1 d_M_trade_73 rfl (lv_at hl 0 rfl) ?_
    refine m_get S hw cl_M hR.obj 19 (by decide) g707 (fun _ h => h) rfl d_M_trade_74 ?_
    refine lv_iload_n S.1 S.2.1 d_M_trade_77 rfl (lv_at hl 1 rfl) ?_
    refine m_rldT (o := k) S hw hR 3 (by decide) (by omega) d_M_trade_78 ?_
    exact m_iret S hlk hr rfl hw (⟨(show tlv σ k w0 = (sT σ) 3 k from by rw [hs3]; rfl).symm, hR⟩) (Nat.le_refl _) (Nat.le_refl _) d_M_trade_79
  refine lv_tableOut (tgt := 80) S.1 S.2.1 d_M_trade_22 (by have q0 := lv_neT hs0 (show (0 : Int32).toInt = 0 by decide); have q1 := lv_neT hs1 (show (1 : Int32).toInt = 1 by decide); have q2 := lv_neT hs2 (show (2 : Int32).toInt = 2 by decide); have q3 := lv_neT hs3 (show (3 : Int32).toInt = 3 by decide); omega) (by decide) ?_
  refine lv_iconst (v := (-1)) S.1 S.2.1 d_M_trade_80 (by decide) ?_
  exact m_iret S hlk hr rfl hw (⟨(show tlv σ k w0 = -1 from by unfold tlv; rw [if_neg hs0, if_neg hs1, if_neg hs2, if_neg hs3]).symm, hR⟩) (Nat.le_refl _) (Nat.le_refl _) d_M_trade_81
set_option maxHeartbeats 4000000 in
set_option maxRecDepth 100000 in
theorem c_M_astray (l : Launch) (γ : mG) (M : mMap) (μ : RK) (σ : St) (ε : RE) (hR : RM γ M μ σ ε)  : Met l y_M_astray w_M_astray ({ frames := 0, cells := 0, slots := 0, locals := 0 } : Room) (mPc γ M [.ref (rx μ)]) (mQi γ (fun r M' => r = 0 ∧ RQ γ M M' μ (σ) (0, ε.2))) 0 0 (mA (gz γ)) := by
  refine m_enter (by decide) (Nat.le_of_ble_eq_true rfl) ?_
  intro p e s m below meth c ls S hr hlk hnm hl hw
  have hl : lv_has ls 1 [(0, .ref (rx μ))] := hl
  have hR := hR.q
  refine lv_aload_n S.1 S.2.1 d_M_astray_0 rfl (lv_at hl 0 rfl) ?_
  refine lv_iconst (v := 0) S.1 S.2.1 d_M_astray_1 (by decide) ?_
  refine m_rput (σ' := σ) (ε' := (0, ε.2.1, ε.2.2.1, ε.2.2.2.1, ε.2.2.2.2.1, ε.2.2.2.2.2)) S hw hR 0 (by decide) g688 rfl rfl rfl d_M_astray_2 rfl (fun i hi => rfl) (fun H locs N1 hR hw => ?_)
  refine lv_iconst (v := 0) S.1 S.2.1 d_M_astray_5 (by decide) ?_
  exact m_iret S hlk hr rfl hw (⟨rfl, hR⟩) (Nat.le_refl _) (Nat.le_refl _) d_M_astray_6
set_option maxHeartbeats 4000000 in
set_option maxRecDepth 100000 in
theorem c_M_told (l : Launch) (γ : mG) (M : mMap) (μ : RK) (σ : St) (ε : RE) (hR : RM γ M μ σ ε) (hn : sn σ ≤ 250) (hO : oOK (sI σ) (sn σ)) (w0 : Int32) : Met l y_M_told w_M_told ({ frames := 1, cells := 0, slots := 0, locals := 21 } : Room) (mPc γ M [.ref (rx μ), .int w0]) (mQl γ (fun r M' => r = tld σ (ctS (sI σ) 1 (sn σ)) (ctS (sI σ) 0 (sn σ)) w0 ∧ RQ γ M M' μ (σ) (0, ε.2))) 0 0 (mA (gz γ)) := by
  refine m_enter (by decide) (Nat.le_of_ble_eq_true rfl) ?_
  intro p e s m below meth c ls S hr hlk hnm hl hw
  have hl : lv_has ls 5 [(0, .ref (rx μ)), (1, .int w0)] := hl
  have hR := hR.q
  refine lv_aload_n S.1 S.2.1 d_M_told_0 rfl (lv_at hl 0 rfl) ?_
  refine lv_iconst (v := 0) S.1 S.2.1 d_M_told_1 (by decide) ?_
  refine m_rput (σ' := σ) (ε' := (0, ε.2.1, ε.2.2.1, ε.2.2.2.1, ε.2.2.2.2.1, ε.2.2.2.2.2)) S hw hR 0 (by decide) g688 rfl rfl rfl d_M_told_2 rfl (fun i hi => rfl) (fun H locs N1 hR hw => ?_)
  refine lv_iconst (v := 0) S.1 S.2.1 d_M_told_5 (by decide) ?_
  refine lv_istore_n S.1 S.2.1 d_M_told_6 rfl hl (by decide) rfl (fun ls hl => ?_)
  have hl : lv_has ls 5 [(2, .int 0), (0, .ref (rx μ)), (1, .int w0)] := hl
  refine lv_iconst (v := 0) S.1 S.2.1 d_M_told_7 (by decide) ?_
  refine lv_istore_n S.1 S.2.1 d_M_told_8 rfl hl (by decide) rfl (fun ls hl => ?_)
  have hl : lv_has ls 5 [(3, .int 0), (2, .int 0), (0, .ref (rx μ)), (1, .int w0)] := hl
  refine lv_iconst (v := 0) S.1 S.2.1 d_M_told_9 (by decide) ?_
  refine lv_istore S.1 S.2.1 d_M_told_10 hl (by decide) rfl (fun ls hl => ?_)
  have hl : lv_has ls 5 [(4, .int 0), (3, .int 0), (2, .int 0), (0, .ref (rx μ)), (1, .int w0)] := hl
  have loop : ∀ (d x : Nat) (Mc : mMap) (H : Heap) (locs : List Loc) (ls : Array Slot), x + d = sn σ → RQ γ M Mc μ σ (0, ε.2) → lv_has ls 5 [(4, .int (nI x)), (3, .int (nI (ctS (sI σ) 0 x))), (2, .int (nI (ctS (sI σ) 1 x))), (1, .int w0), (0, .ref (rx μ))] → mW γ Mc s H locs → W p l e ({ frames := 1, cells := 0, slots := 0, locals := 21 } : Room) s m #[.ref (rx μ), .int w0] below meth c H locs 0 0 (MQ below (mQl γ (fun r M' => r = tld σ (ctS (sI σ) 1 (sn σ)) (ctS (sI σ) 0 (sn σ)) w0 ∧ RQ γ M M' μ (σ) (0, ε.2))) #[.ref (rx μ), .int w0] s 0 0 (mA (gz γ))) (F0 m 12 ls []) := by
    intro d
    induction d with
    | zero =>
      intro x Mc H locs ls hi hR hl hw
      have hi2 : x = sn σ := by omega
      refine lv_iload S.1 S.2.1 d_M_told_12 (lv_at hl 0 rfl) ?_
      refine lv_aload_n S.1 S.2.1 d_M_told_14 rfl (lv_at hl 4 rfl) ?_
      refine m_get S hw cl_M hR.obj 5 (by decide) g693 (fun _ h => h) rfl d_M_told_15 ?_
      refine lv_icmp_ge (tgt := 81) S.1 S.2.1 d_M_told_18 rfl (fun _ => ?_) (fun h => absurd (nI_le (by omega) (by omega)) h)
      refine lv_iload_n S.1 S.2.1 d_M_told_81 rfl (lv_at hl 3 rfl) ?_
      by_cases hs0 : w0 = 0
      · refine lv_tableIn (off := 46) (tgt := 128) S.1 S.2.1 d_M_told_82 (by rw [hs0]; decide) (by rw [hs0]; decide) (by rw [hs0]; decide) (by decide) ?_
        refine lv_aload_n S.1 S.2.1 d_M_told_128 rfl (lv_at hl 4 rfl) ?_
        refine m_get S hw cl_M hR.obj 1 (by decide) g689 (fun _ h => h) rfl d_M_told_129 ?_
        refine lv_i2l S.1 S.2.1 d_M_told_132 rfl ?_
        exact m_lret S hlk hr hw (⟨(show tld σ _ _ w0 = (sph σ).toInt64 from by rw [hs0]; rfl).symm, hR⟩) (Nat.le_refl _) (Nat.le_refl _) d_M_told_133
      by_cases hs1 : w0 = 1
      · refine lv_tableIn (off := 52) (tgt := 134) S.1 S.2.1 d_M_told_82 (by rw [hs1]; decide) (by rw [hs1]; decide) (by rw [hs1]; decide) (by decide) ?_
        refine lv_aload_n S.1 S.2.1 d_M_told_134 rfl (lv_at hl 4 rfl) ?_
        refine m_get S hw cl_M hR.obj 2 (by decide) g690 (fun _ h => h) rfl d_M_told_135 ?_
        refine lv_i2l S.1 S.2.1 d_M_told_138 rfl ?_
        exact m_lret S hlk hr hw (⟨(show tld σ _ _ w0 = (srf σ).toInt64 from by rw [hs1]; rfl).symm, hR⟩) (Nat.le_refl _) (Nat.le_refl _) d_M_told_139
      by_cases hs2 : w0 = 2
      · refine lv_tableIn (off := 58) (tgt := 140) S.1 S.2.1 d_M_told_82 (by rw [hs2]; decide) (by rw [hs2]; decide) (by rw [hs2]; decide) (by decide) ?_
        refine lv_aload_n S.1 S.2.1 d_M_told_140 rfl (lv_at hl 4 rfl) ?_
        refine m_get S hw cl_M hR.obj 3 (by decide) g691 (fun _ h => h) rfl d_M_told_141 ?_
        refine lv_i2l S.1 S.2.1 d_M_told_144 rfl ?_
        exact m_lret S hlk hr hw (⟨(show tld σ _ _ w0 = (sbd σ).toInt64 from by rw [hs2]; rfl).symm, hR⟩) (Nat.le_refl _) (Nat.le_refl _) d_M_told_145
      by_cases hs3 : w0 = 3
      · refine lv_tableIn (off := 64) (tgt := 146) S.1 S.2.1 d_M_told_82 (by rw [hs3]; decide) (by rw [hs3]; decide) (by rw [hs3]; decide) (by decide) ?_
        refine lv_aload_n S.1 S.2.1 d_M_told_146 rfl (lv_at hl 4 rfl) ?_
        refine m_get S hw cl_M hR.obj 5 (by decide) g693 (fun _ h => h) rfl d_M_told_147 ?_
        refine lv_i2l S.1 S.2.1 d_M_told_150 rfl ?_
        exact m_lret S hlk hr hw (⟨(show tld σ _ _ w0 = (nI (sn σ)).toInt64 from by rw [hs3]; rfl).symm, hR⟩) (Nat.le_refl _) (Nat.le_refl _) d_M_told_151
      by_cases hs4 : w0 = 4
      · refine lv_tableIn (off := 70) (tgt := 152) S.1 S.2.1 d_M_told_82 (by rw [hs4]; decide) (by rw [hs4]; decide) (by rw [hs4]; decide) (by decide) ?_
        refine lv_iload_n S.1 S.2.1 d_M_told_152 rfl (lv_at hl 2 rfl) ?_
        refine lv_i2l S.1 S.2.1 d_M_told_153 rfl ?_
        exact m_lret S hlk hr hw (⟨(show tld σ _ _ w0 = (nI (ctS (sI σ) 1 x)).toInt64 from by rw [hs4, ← hi2]; rfl).symm, hR⟩) (Nat.le_refl _) (Nat.le_refl _) d_M_told_154
      by_cases hs5 : w0 = 5
      · refine lv_tableIn (off := 73) (tgt := 155) S.1 S.2.1 d_M_told_82 (by rw [hs5]; decide) (by rw [hs5]; decide) (by rw [hs5]; decide) (by decide) ?_
        refine lv_iload_n S.1 S.2.1 d_M_told_155 rfl (lv_at hl 1 rfl) ?_
        refine lv_i2l S.1 S.2.1 d_M_told_156 rfl ?_
        exact m_lret S hlk hr hw (⟨(show tld σ _ _ w0 = (nI (ctS (sI σ) 0 x)).toInt64 from by rw [hs5, ← hi2]; rfl).symm, hR⟩) (Nat.le_refl _) (Nat.le_refl _) d_M_told_157
      by_cases hs6 : w0 = 6
      · refine lv_tableIn (off := 76) (tgt := 158) S.1 S.2.1 d_M_told_82 (by rw [hs6]; decide) (by rw [hs6]; decide) (by rw [hs6]; decide) (by decide) ?_
        refine lv_aload_n S.1 S.2.1 d_M_told_158 rfl (lv_at hl 4 rfl) ?_
        refine m_get S hw cl_M hR.obj 15 (by decide) g703 (fun _ h => h) rfl d_M_told_159 ?_
        refine lv_i2l S.1 S.2.1 d_M_told_162 rfl ?_
        exact m_lret S hlk hr hw (⟨(show tld σ _ _ w0 = (nI (stn σ)).toInt64 from by rw [hs6]; rfl).symm, hR⟩) (Nat.le_refl _) (Nat.le_refl _) d_M_told_163
      by_cases hs7 : w0 = 7
      · refine lv_tableIn (off := 82) (tgt := 164) S.1 S.2.1 d_M_told_82 (by rw [hs7]; decide) (by rw [hs7]; decide) (by rw [hs7]; decide) (by decide) ?_
        refine lv_aload_n S.1 S.2.1 d_M_told_164 rfl (lv_at hl 4 rfl) ?_
        refine m_get S hw cl_M hR.obj 20 (by decide) g708 (fun _ h => h) rfl d_M_told_165 ?_
        exact m_lret S hlk hr hw (⟨(show tld σ _ _ w0 = sal σ from by rw [hs7]; rfl).symm, hR⟩) (Nat.le_refl _) (Nat.le_refl _) d_M_told_168
      refine lv_tableOut (tgt := 169) S.1 S.2.1 d_M_told_82 (by have q0 := lv_neT hs0 (show (0 : Int32).toInt = 0 by decide); have q1 := lv_neT hs1 (show (1 : Int32).toInt = 1 by decide); have q2 := lv_neT hs2 (show (2 : Int32).toInt = 2 by decide); have q3 := lv_neT hs3 (show (3 : Int32).toInt = 3 by decide); have q4 := lv_neT hs4 (show (4 : Int32).toInt = 4 by decide); have q5 := lv_neT hs5 (show (5 : Int32).toInt = 5 by decide); have q6 := lv_neT hs6 (show (6 : Int32).toInt = 6 by decide); have q7 := lv_neT hs7 (show (7 : Int32).toInt = 7 by decide); omega) (by decide) ?_
      refine lv_ldc2 S.1 S.2.1 S.2.2.2.1 (S.2.2.2.2 _ (gc g900)) d_M_told_169 ?_
      exact m_lret S hlk hr hw (⟨(show tld σ _ _ w0 = -1 from by unfold tld; rw [if_neg hs0, if_neg hs1, if_neg hs2, if_neg hs3, if_neg hs4, if_neg hs5, if_neg hs6, if_neg hs7]).symm, hR⟩) (Nat.le_refl _) (Nat.le_refl _) d_M_told_172
    | succ d ih =>
      intro x Mc H locs ls hi hR hl hw
      have hx : x < sn σ := by omega
      have hsd := (hO.1 x hx).2.2
      refine lv_iload S.1 S.2.1 d_M_told_12 (lv_at hl 0 rfl) ?_
      refine lv_aload_n S.1 S.2.1 d_M_told_14 rfl (lv_at hl 4 rfl) ?_
      refine m_get S hw cl_M hR.obj 5 (by decide) g693 (fun _ h => h) rfl d_M_told_15 ?_
      refine lv_icmp_ge (tgt := 81) S.1 S.2.1 d_M_told_18 rfl (fun h => absurd h (nI_ge (by omega) (by omega))) (fun _ => ?_)
      refine lv_iload_n S.1 S.2.1 d_M_told_21 rfl (lv_at hl 2 rfl) ?_
      refine lv_aload_n S.1 S.2.1 d_M_told_22 rfl (lv_at hl 4 rfl) ?_
      refine lv_iload S.1 S.2.1 d_M_told_23 (lv_at hl 0 rfl) ?_
      refine m_ci hw (va_runV (As := [.int (nI x)]) (rest := [.int (nI (ctS (sI σ) 1 x))]) S (c_M_rests l γ Mc μ σ (0, ε.2.1, ε.2.2.1, ε.2.2.2.1, ε.2.2.2.2.1, ε.2.2.2.2.2) hR.1 hn x hx) (m_cwV 1 S g793 g795 g26 g48 g796 rfl rfl ⟨by decide +kernel, by decide +kernel, by decide +kernel⟩ ⟨(Nat.le_of_ble_eq_true rfl), (Nat.le_of_ble_eq_true rfl)⟩) (hw.preV hR.obj cl_M.1) rfl rfl hl.1 rfl (lv_room (Nat.le_of_ble_eq_true rfl)) d_M_told_25 ⟨(Nat.zero_le _), (Nat.zero_le _)⟩) (fun r1 M1 H locs hp hw => ?_)
      obtain ⟨rfl, hM1⟩ := hp
      rw [hM1] at hw
      refine lv_if_eq (tgt := 45) S.1 S.2.1 d_M_told_28 rfl (fun h28 => ?_) (fun h28 => ?_)
      · refine lv_iconst (v := 0) S.1 S.2.1 d_M_told_45 (by decide) ?_
        refine lv_iadd S.1 S.2.1 d_M_told_46 ?_
        have hX1 : ctS (sI σ) 1 (x + 1) = _ := ctS_f (onS_f1 (b2i_0.mp h28))
        refine W.eq (g2 := F0 m 47 ls [.int (nI (ctS (sI σ) 1 (x + 1)))]) (congrArg (fun z => F0 m 47 ls [.int z]) (by rw [hX1]; exact Int32.add_zero _)) ?_
        refine lv_istore_n S.1 S.2.1 d_M_told_47 rfl hl (by decide) rfl (fun ls hl => ?_)
        have hl : lv_has ls 5 [(2, .int (nI (ctS (sI σ) 1 (x + 1)))), (4, .int (nI x)), (3, .int (nI (ctS (sI σ) 0 x))), (1, .int w0), (0, .ref (rx μ))] := hl
        refine lv_iload_n S.1 S.2.1 d_M_told_48 rfl (lv_at hl 2 rfl) ?_
        refine lv_aload_n S.1 S.2.1 d_M_told_49 rfl (lv_at hl 4 rfl) ?_
        refine lv_iload S.1 S.2.1 d_M_told_50 (lv_at hl 1 rfl) ?_
        refine m_ci hw (va_runV (As := [.int (nI x)]) (rest := [.int (nI (ctS (sI σ) 0 x))]) S (c_M_rests l γ Mc μ σ (0, ε.2.1, ε.2.2.1, ε.2.2.2.1, ε.2.2.2.2.1, ε.2.2.2.2.2) hR.1 hn x hx) (m_cwV 1 S g793 g795 g26 g48 g796 rfl rfl ⟨by decide +kernel, by decide +kernel, by decide +kernel⟩ ⟨(Nat.le_of_ble_eq_true rfl), (Nat.le_of_ble_eq_true rfl)⟩) (hw.preV hR.obj cl_M.1) rfl rfl hl.1 rfl (lv_room (Nat.le_of_ble_eq_true rfl)) d_M_told_52 ⟨(Nat.zero_le _), (Nat.zero_le _)⟩) (fun r1 M1 H locs hp hw => ?_)
        obtain ⟨rfl, hM1⟩ := hp
        rw [hM1] at hw
        refine lv_if_eq (tgt := 72) S.1 S.2.1 d_M_told_55 rfl (fun h55 => ?_) (fun h55 => ?_)
        · refine lv_iconst (v := 0) S.1 S.2.1 d_M_told_72 (by decide) ?_
          refine lv_iadd S.1 S.2.1 d_M_told_73 ?_
          have hX0 : ctS (sI σ) 0 (x + 1) = _ := ctS_f (onS_f1 (b2i_0.mp h55))
          refine W.eq (g2 := F0 m 74 ls [.int (nI (ctS (sI σ) 0 (x + 1)))]) (congrArg (fun z => F0 m 74 ls [.int z]) (by rw [hX0]; exact Int32.add_zero _)) ?_
          refine lv_istore_n S.1 S.2.1 d_M_told_74 rfl hl (by decide) rfl (fun ls hl => ?_)
          have hl : lv_has ls 5 [(3, .int (nI (ctS (sI σ) 0 (x + 1)))), (2, .int (nI (ctS (sI σ) 1 (x + 1)))), (4, .int (nI x)), (1, .int w0), (0, .ref (rx μ))] := hl
          refine lv_iinc (k := 2) (v := nI (x + 1)) S.1 S.2.1 d_M_told_75 hl rfl (nI_1 x) (by decide) rfl (fun ls hl => ?_)
          have hl : lv_has ls 5 [(4, .int (nI (x + 1))), (3, .int (nI (ctS (sI σ) 0 (x + 1)))), (2, .int (nI (ctS (sI σ) 1 (x + 1)))), (1, .int w0), (0, .ref (rx μ))] := hl
          refine lv_goto (tgt := 12) S.1 S.2.1 d_M_told_78 rfl ?_
          have hl := lv_sub hl [0, 1, 2, 3, 4] rfl
          exact ih (x + 1) Mc H locs ls (by omega) hR hl hw
        · refine lv_aload_n S.1 S.2.1 d_M_told_58 rfl (lv_at hl 4 rfl) ?_
          refine m_get S hw cl_M hR.obj 7 (by decide) g695 (fun _ h => h) rfl d_M_told_59 ?_
          refine lv_iload S.1 S.2.1 d_M_told_62 (lv_at hl 1 rfl) ?_
          refine m_rldz (o := x) S hw hR (by omega) d_M_told_64 ?_
          refine lv_if_ne (tgt := 72) S.1 S.2.1 d_M_told_65 rfl (fun h65 => ?_) (fun h65 => ?_)
          · refine lv_iconst (v := 0) S.1 S.2.1 d_M_told_72 (by decide) ?_
            refine lv_iadd S.1 S.2.1 d_M_told_73 ?_
            have hX0 : ctS (sI σ) 0 (x + 1) = _ := ctS_f (onS_f2 h65)
            refine W.eq (g2 := F0 m 74 ls [.int (nI (ctS (sI σ) 0 (x + 1)))]) (congrArg (fun z => F0 m 74 ls [.int z]) (by rw [hX0]; exact Int32.add_zero _)) ?_
            refine lv_istore_n S.1 S.2.1 d_M_told_74 rfl hl (by decide) rfl (fun ls hl => ?_)
            have hl : lv_has ls 5 [(3, .int (nI (ctS (sI σ) 0 (x + 1)))), (2, .int (nI (ctS (sI σ) 1 (x + 1)))), (4, .int (nI x)), (1, .int w0), (0, .ref (rx μ))] := hl
            refine lv_iinc (k := 2) (v := nI (x + 1)) S.1 S.2.1 d_M_told_75 hl rfl (nI_1 x) (by decide) rfl (fun ls hl => ?_)
            have hl : lv_has ls 5 [(4, .int (nI (x + 1))), (3, .int (nI (ctS (sI σ) 0 (x + 1)))), (2, .int (nI (ctS (sI σ) 1 (x + 1)))), (1, .int w0), (0, .ref (rx μ))] := hl
            refine lv_goto (tgt := 12) S.1 S.2.1 d_M_told_78 rfl ?_
            have hl := lv_sub hl [0, 1, 2, 3, 4] rfl
            exact ih (x + 1) Mc H locs ls (by omega) hR hl hw
          · refine lv_iconst (v := 1) S.1 S.2.1 d_M_told_68 (by decide) ?_
            refine lv_goto (tgt := 73) S.1 S.2.1 d_M_told_69 rfl ?_
            refine lv_iadd S.1 S.2.1 d_M_told_73 ?_
            have hX0 : ctS (sI σ) 0 (x + 1) = _ := ctS_t (onS_t (b2i_n0.mp h55) h65)
            refine W.eq (g2 := F0 m 74 ls [.int (nI (ctS (sI σ) 0 (x + 1)))]) (congrArg (fun z => F0 m 74 ls [.int z]) (by rw [hX0]; exact nI_1 _)) ?_
            refine lv_istore_n S.1 S.2.1 d_M_told_74 rfl hl (by decide) rfl (fun ls hl => ?_)
            have hl : lv_has ls 5 [(3, .int (nI (ctS (sI σ) 0 (x + 1)))), (2, .int (nI (ctS (sI σ) 1 (x + 1)))), (4, .int (nI x)), (1, .int w0), (0, .ref (rx μ))] := hl
            refine lv_iinc (k := 2) (v := nI (x + 1)) S.1 S.2.1 d_M_told_75 hl rfl (nI_1 x) (by decide) rfl (fun ls hl => ?_)
            have hl : lv_has ls 5 [(4, .int (nI (x + 1))), (3, .int (nI (ctS (sI σ) 0 (x + 1)))), (2, .int (nI (ctS (sI σ) 1 (x + 1)))), (1, .int w0), (0, .ref (rx μ))] := hl
            refine lv_goto (tgt := 12) S.1 S.2.1 d_M_told_78 rfl ?_
            have hl := lv_sub hl [0, 1, 2, 3, 4] rfl
            exact ih (x + 1) Mc H locs ls (by omega) hR hl hw
      · refine lv_aload_n S.1 S.2.1 d_M_told_31 rfl (lv_at hl 4 rfl) ?_
        refine m_get S hw cl_M hR.obj 7 (by decide) g695 (fun _ h => h) rfl d_M_told_32 ?_
        refine lv_iload S.1 S.2.1 d_M_told_35 (lv_at hl 0 rfl) ?_
        refine m_rldz (o := x) S hw hR (by omega) d_M_told_37 ?_
        refine lv_if_eq (tgt := 45) S.1 S.2.1 d_M_told_38 rfl (fun h38 => ?_) (fun h38 => ?_)
        · refine lv_iconst (v := 0) S.1 S.2.1 d_M_told_45 (by decide) ?_
          refine lv_iadd S.1 S.2.1 d_M_told_46 ?_
          have hX1 : ctS (sI σ) 1 (x + 1) = _ := ctS_f (onS_f2 (fun z => by rw [h38] at z; exact absurd z (by decide)))
          refine W.eq (g2 := F0 m 47 ls [.int (nI (ctS (sI σ) 1 (x + 1)))]) (congrArg (fun z => F0 m 47 ls [.int z]) (by rw [hX1]; exact Int32.add_zero _)) ?_
          refine lv_istore_n S.1 S.2.1 d_M_told_47 rfl hl (by decide) rfl (fun ls hl => ?_)
          have hl : lv_has ls 5 [(2, .int (nI (ctS (sI σ) 1 (x + 1)))), (4, .int (nI x)), (3, .int (nI (ctS (sI σ) 0 x))), (1, .int w0), (0, .ref (rx μ))] := hl
          refine lv_iload_n S.1 S.2.1 d_M_told_48 rfl (lv_at hl 2 rfl) ?_
          refine lv_aload_n S.1 S.2.1 d_M_told_49 rfl (lv_at hl 4 rfl) ?_
          refine lv_iload S.1 S.2.1 d_M_told_50 (lv_at hl 1 rfl) ?_
          refine m_ci hw (va_runV (As := [.int (nI x)]) (rest := [.int (nI (ctS (sI σ) 0 x))]) S (c_M_rests l γ Mc μ σ (0, ε.2.1, ε.2.2.1, ε.2.2.2.1, ε.2.2.2.2.1, ε.2.2.2.2.2) hR.1 hn x hx) (m_cwV 1 S g793 g795 g26 g48 g796 rfl rfl ⟨by decide +kernel, by decide +kernel, by decide +kernel⟩ ⟨(Nat.le_of_ble_eq_true rfl), (Nat.le_of_ble_eq_true rfl)⟩) (hw.preV hR.obj cl_M.1) rfl rfl hl.1 rfl (lv_room (Nat.le_of_ble_eq_true rfl)) d_M_told_52 ⟨(Nat.zero_le _), (Nat.zero_le _)⟩) (fun r1 M1 H locs hp hw => ?_)
          obtain ⟨rfl, hM1⟩ := hp
          rw [hM1] at hw
          refine lv_if_eq (tgt := 72) S.1 S.2.1 d_M_told_55 rfl (fun h55 => ?_) (fun h55 => ?_)
          · refine lv_iconst (v := 0) S.1 S.2.1 d_M_told_72 (by decide) ?_
            refine lv_iadd S.1 S.2.1 d_M_told_73 ?_
            have hX0 : ctS (sI σ) 0 (x + 1) = _ := ctS_f (onS_f1 (b2i_0.mp h55))
            refine W.eq (g2 := F0 m 74 ls [.int (nI (ctS (sI σ) 0 (x + 1)))]) (congrArg (fun z => F0 m 74 ls [.int z]) (by rw [hX0]; exact Int32.add_zero _)) ?_
            refine lv_istore_n S.1 S.2.1 d_M_told_74 rfl hl (by decide) rfl (fun ls hl => ?_)
            have hl : lv_has ls 5 [(3, .int (nI (ctS (sI σ) 0 (x + 1)))), (2, .int (nI (ctS (sI σ) 1 (x + 1)))), (4, .int (nI x)), (1, .int w0), (0, .ref (rx μ))] := hl
            refine lv_iinc (k := 2) (v := nI (x + 1)) S.1 S.2.1 d_M_told_75 hl rfl (nI_1 x) (by decide) rfl (fun ls hl => ?_)
            have hl : lv_has ls 5 [(4, .int (nI (x + 1))), (3, .int (nI (ctS (sI σ) 0 (x + 1)))), (2, .int (nI (ctS (sI σ) 1 (x + 1)))), (1, .int w0), (0, .ref (rx μ))] := hl
            refine lv_goto (tgt := 12) S.1 S.2.1 d_M_told_78 rfl ?_
            have hl := lv_sub hl [0, 1, 2, 3, 4] rfl
            exact ih (x + 1) Mc H locs ls (by omega) hR hl hw
          · refine lv_aload_n S.1 S.2.1 d_M_told_58 rfl (lv_at hl 4 rfl) ?_
            refine m_get S hw cl_M hR.obj 7 (by decide) g695 (fun _ h => h) rfl d_M_told_59 ?_
            refine lv_iload S.1 S.2.1 d_M_told_62 (lv_at hl 1 rfl) ?_
            refine m_rldz (o := x) S hw hR (by omega) d_M_told_64 ?_
            refine lv_if_ne (tgt := 72) S.1 S.2.1 d_M_told_65 rfl (fun h65 => ?_) (fun h65 => ?_)
            · refine lv_iconst (v := 0) S.1 S.2.1 d_M_told_72 (by decide) ?_
              refine lv_iadd S.1 S.2.1 d_M_told_73 ?_
              have hX0 : ctS (sI σ) 0 (x + 1) = _ := ctS_f (onS_f2 h65)
              refine W.eq (g2 := F0 m 74 ls [.int (nI (ctS (sI σ) 0 (x + 1)))]) (congrArg (fun z => F0 m 74 ls [.int z]) (by rw [hX0]; exact Int32.add_zero _)) ?_
              refine lv_istore_n S.1 S.2.1 d_M_told_74 rfl hl (by decide) rfl (fun ls hl => ?_)
              have hl : lv_has ls 5 [(3, .int (nI (ctS (sI σ) 0 (x + 1)))), (2, .int (nI (ctS (sI σ) 1 (x + 1)))), (4, .int (nI x)), (1, .int w0), (0, .ref (rx μ))] := hl
              refine lv_iinc (k := 2) (v := nI (x + 1)) S.1 S.2.1 d_M_told_75 hl rfl (nI_1 x) (by decide) rfl (fun ls hl => ?_)
              have hl : lv_has ls 5 [(4, .int (nI (x + 1))), (3, .int (nI (ctS (sI σ) 0 (x + 1)))), (2, .int (nI (ctS (sI σ) 1 (x + 1)))), (1, .int w0), (0, .ref (rx μ))] := hl
              refine lv_goto (tgt := 12) S.1 S.2.1 d_M_told_78 rfl ?_
              have hl := lv_sub hl [0, 1, 2, 3, 4] rfl
              exact ih (x + 1) Mc H locs ls (by omega) hR hl hw
            · refine lv_iconst (v := 1) S.1 S.2.1 d_M_told_68 (by decide) ?_
              refine lv_goto (tgt := 73) S.1 S.2.1 d_M_told_69 rfl ?_
              refine lv_iadd S.1 S.2.1 d_M_told_73 ?_
              have hX0 : ctS (sI σ) 0 (x + 1) = _ := ctS_t (onS_t (b2i_n0.mp h55) h65)
              refine W.eq (g2 := F0 m 74 ls [.int (nI (ctS (sI σ) 0 (x + 1)))]) (congrArg (fun z => F0 m 74 ls [.int z]) (by rw [hX0]; exact nI_1 _)) ?_
              refine lv_istore_n S.1 S.2.1 d_M_told_74 rfl hl (by decide) rfl (fun ls hl => ?_)
              have hl : lv_has ls 5 [(3, .int (nI (ctS (sI σ) 0 (x + 1)))), (2, .int (nI (ctS (sI σ) 1 (x + 1)))), (4, .int (nI x)), (1, .int w0), (0, .ref (rx μ))] := hl
              refine lv_iinc (k := 2) (v := nI (x + 1)) S.1 S.2.1 d_M_told_75 hl rfl (nI_1 x) (by decide) rfl (fun ls hl => ?_)
              have hl : lv_has ls 5 [(4, .int (nI (x + 1))), (3, .int (nI (ctS (sI σ) 0 (x + 1)))), (2, .int (nI (ctS (sI σ) 1 (x + 1)))), (1, .int w0), (0, .ref (rx μ))] := hl
              refine lv_goto (tgt := 12) S.1 S.2.1 d_M_told_78 rfl ?_
              have hl := lv_sub hl [0, 1, 2, 3, 4] rfl
              exact ih (x + 1) Mc H locs ls (by omega) hR hl hw
        · refine lv_iconst (v := 1) S.1 S.2.1 d_M_told_41 (by decide) ?_
          refine lv_goto (tgt := 46) S.1 S.2.1 d_M_told_42 rfl ?_
          refine lv_iadd S.1 S.2.1 d_M_told_46 ?_
          have hX1 : ctS (sI σ) 1 (x + 1) = _ := ctS_t (onS_t (b2i_n0.mp h28) (hsd.resolve_left h38))
          refine W.eq (g2 := F0 m 47 ls [.int (nI (ctS (sI σ) 1 (x + 1)))]) (congrArg (fun z => F0 m 47 ls [.int z]) (by rw [hX1]; exact nI_1 _)) ?_
          refine lv_istore_n S.1 S.2.1 d_M_told_47 rfl hl (by decide) rfl (fun ls hl => ?_)
          have hl : lv_has ls 5 [(2, .int (nI (ctS (sI σ) 1 (x + 1)))), (4, .int (nI x)), (3, .int (nI (ctS (sI σ) 0 x))), (1, .int w0), (0, .ref (rx μ))] := hl
          refine lv_iload_n S.1 S.2.1 d_M_told_48 rfl (lv_at hl 2 rfl) ?_
          refine lv_aload_n S.1 S.2.1 d_M_told_49 rfl (lv_at hl 4 rfl) ?_
          refine lv_iload S.1 S.2.1 d_M_told_50 (lv_at hl 1 rfl) ?_
          refine m_ci hw (va_runV (As := [.int (nI x)]) (rest := [.int (nI (ctS (sI σ) 0 x))]) S (c_M_rests l γ Mc μ σ (0, ε.2.1, ε.2.2.1, ε.2.2.2.1, ε.2.2.2.2.1, ε.2.2.2.2.2) hR.1 hn x hx) (m_cwV 1 S g793 g795 g26 g48 g796 rfl rfl ⟨by decide +kernel, by decide +kernel, by decide +kernel⟩ ⟨(Nat.le_of_ble_eq_true rfl), (Nat.le_of_ble_eq_true rfl)⟩) (hw.preV hR.obj cl_M.1) rfl rfl hl.1 rfl (lv_room (Nat.le_of_ble_eq_true rfl)) d_M_told_52 ⟨(Nat.zero_le _), (Nat.zero_le _)⟩) (fun r1 M1 H locs hp hw => ?_)
          obtain ⟨rfl, hM1⟩ := hp
          rw [hM1] at hw
          refine lv_if_eq (tgt := 72) S.1 S.2.1 d_M_told_55 rfl (fun h55 => ?_) (fun h55 => ?_)
          · refine lv_iconst (v := 0) S.1 S.2.1 d_M_told_72 (by decide) ?_
            refine lv_iadd S.1 S.2.1 d_M_told_73 ?_
            have hX0 : ctS (sI σ) 0 (x + 1) = _ := ctS_f (onS_f1 (b2i_0.mp h55))
            refine W.eq (g2 := F0 m 74 ls [.int (nI (ctS (sI σ) 0 (x + 1)))]) (congrArg (fun z => F0 m 74 ls [.int z]) (by rw [hX0]; exact Int32.add_zero _)) ?_
            refine lv_istore_n S.1 S.2.1 d_M_told_74 rfl hl (by decide) rfl (fun ls hl => ?_)
            have hl : lv_has ls 5 [(3, .int (nI (ctS (sI σ) 0 (x + 1)))), (2, .int (nI (ctS (sI σ) 1 (x + 1)))), (4, .int (nI x)), (1, .int w0), (0, .ref (rx μ))] := hl
            refine lv_iinc (k := 2) (v := nI (x + 1)) S.1 S.2.1 d_M_told_75 hl rfl (nI_1 x) (by decide) rfl (fun ls hl => ?_)
            have hl : lv_has ls 5 [(4, .int (nI (x + 1))), (3, .int (nI (ctS (sI σ) 0 (x + 1)))), (2, .int (nI (ctS (sI σ) 1 (x + 1)))), (1, .int w0), (0, .ref (rx μ))] := hl
            refine lv_goto (tgt := 12) S.1 S.2.1 d_M_told_78 rfl ?_
            have hl := lv_sub hl [0, 1, 2, 3, 4] rfl
            exact ih (x + 1) Mc H locs ls (by omega) hR hl hw
          · refine lv_aload_n S.1 S.2.1 d_M_told_58 rfl (lv_at hl 4 rfl) ?_
            refine m_get S hw cl_M hR.obj 7 (by decide) g695 (fun _ h => h) rfl d_M_told_59 ?_
            refine lv_iload S.1 S.2.1 d_M_told_62 (lv_at hl 1 rfl) ?_
            refine m_rldz (o := x) S hw hR (by omega) d_M_told_64 ?_
            refine lv_if_ne (tgt := 72) S.1 S.2.1 d_M_told_65 rfl (fun h65 => ?_) (fun h65 => ?_)
            · refine lv_iconst (v := 0) S.1 S.2.1 d_M_told_72 (by decide) ?_
              refine lv_iadd S.1 S.2.1 d_M_told_73 ?_
              have hX0 : ctS (sI σ) 0 (x + 1) = _ := ctS_f (onS_f2 h65)
              refine W.eq (g2 := F0 m 74 ls [.int (nI (ctS (sI σ) 0 (x + 1)))]) (congrArg (fun z => F0 m 74 ls [.int z]) (by rw [hX0]; exact Int32.add_zero _)) ?_
              refine lv_istore_n S.1 S.2.1 d_M_told_74 rfl hl (by decide) rfl (fun ls hl => ?_)
              have hl : lv_has ls 5 [(3, .int (nI (ctS (sI σ) 0 (x + 1)))), (2, .int (nI (ctS (sI σ) 1 (x + 1)))), (4, .int (nI x)), (1, .int w0), (0, .ref (rx μ))] := hl
              refine lv_iinc (k := 2) (v := nI (x + 1)) S.1 S.2.1 d_M_told_75 hl rfl (nI_1 x) (by decide) rfl (fun ls hl => ?_)
              have hl : lv_has ls 5 [(4, .int (nI (x + 1))), (3, .int (nI (ctS (sI σ) 0 (x + 1)))), (2, .int (nI (ctS (sI σ) 1 (x + 1)))), (1, .int w0), (0, .ref (rx μ))] := hl
              refine lv_goto (tgt := 12) S.1 S.2.1 d_M_told_78 rfl ?_
              have hl := lv_sub hl [0, 1, 2, 3, 4] rfl
              exact ih (x + 1) Mc H locs ls (by omega) hR hl hw
            · refine lv_iconst (v := 1) S.1 S.2.1 d_M_told_68 (by decide) ?_
              refine lv_goto (tgt := 73) S.1 S.2.1 d_M_told_69 rfl ?_
              refine lv_iadd S.1 S.2.1 d_M_told_73 ?_
              have hX0 : ctS (sI σ) 0 (x + 1) = _ := ctS_t (onS_t (b2i_n0.mp h55) h65)
              refine W.eq (g2 := F0 m 74 ls [.int (nI (ctS (sI σ) 0 (x + 1)))]) (congrArg (fun z => F0 m 74 ls [.int z]) (by rw [hX0]; exact nI_1 _)) ?_
              refine lv_istore_n S.1 S.2.1 d_M_told_74 rfl hl (by decide) rfl (fun ls hl => ?_)
              have hl : lv_has ls 5 [(3, .int (nI (ctS (sI σ) 0 (x + 1)))), (2, .int (nI (ctS (sI σ) 1 (x + 1)))), (4, .int (nI x)), (1, .int w0), (0, .ref (rx μ))] := hl
              refine lv_iinc (k := 2) (v := nI (x + 1)) S.1 S.2.1 d_M_told_75 hl rfl (nI_1 x) (by decide) rfl (fun ls hl => ?_)
              have hl : lv_has ls 5 [(4, .int (nI (x + 1))), (3, .int (nI (ctS (sI σ) 0 (x + 1)))), (2, .int (nI (ctS (sI σ) 1 (x + 1)))), (1, .int w0), (0, .ref (rx μ))] := hl
              refine lv_goto (tgt := 12) S.1 S.2.1 d_M_told_78 rfl ?_
              have hl := lv_sub hl [0, 1, 2, 3, 4] rfl
              exact ih (x + 1) Mc H locs ls (by omega) hR hl hw
  have hl := lv_sub hl [0, 1, 2, 4, 3] rfl
  exact loop _ 0 _ _ _ ls (Nat.zero_add _) hR hl hw
set_option maxHeartbeats 4000000 in
set_option maxRecDepth 100000 in
theorem c_M_at (l : Launch) (γ : mG) (M : mMap) (μ : RK) (σ : St) (ε : RE) (hR : RM γ M μ σ ε) (hn : sn σ ≤ 250) (b0 x0 : Int32) : Met l y_M_at w_M_at ({ frames := 1, cells := 0, slots := 0, locals := 23 } : Room) (mPc γ M [.ref (rx μ), .int b0, .int x0]) (mQi γ (fun r M' => r = atR (sI σ) (sn σ) b0 x0 (sn σ) ∧ RQ γ M M' μ (σ) (0, ε.2))) 0 0 (mA (gz γ)) := by
  refine m_enter (by decide) (Nat.le_of_ble_eq_true rfl) ?_
  intro p e s m below meth c ls S hr hlk hnm hl hw
  have hl : lv_has ls 7 [(0, .ref (rx μ)), (1, .int b0), (2, .int x0)] := hl
  have hR := hR.q
  refine lv_aload_n S.1 S.2.1 d_M_at_0 rfl (lv_at hl 0 rfl) ?_
  refine lv_iconst (v := 0) S.1 S.2.1 d_M_at_1 (by decide) ?_
  refine m_rput (σ' := σ) (ε' := (0, ε.2.1, ε.2.2.1, ε.2.2.2.1, ε.2.2.2.2.1, ε.2.2.2.2.2)) S hw hR 0 (by decide) g688 rfl rfl rfl d_M_at_2 rfl (fun i hi => rfl) (fun H locs N1 hR hw => ?_)
  refine lv_iconst (v := (-1)) S.1 S.2.1 d_M_at_5 (by decide) ?_
  refine lv_istore_n S.1 S.2.1 d_M_at_6 rfl hl (by decide) rfl (fun ls hl => ?_)
  have hl : lv_has ls 7 [(3, .int (-1)), (0, .ref (rx μ)), (1, .int b0), (2, .int x0)] := hl
  refine lv_iconst (v := 0) S.1 S.2.1 d_M_at_7 (by decide) ?_
  refine lv_istore S.1 S.2.1 d_M_at_8 hl (by decide) rfl (fun ls hl => ?_)
  have hl : lv_has ls 7 [(4, .int 0), (3, .int (-1)), (0, .ref (rx μ)), (1, .int b0), (2, .int x0)] := hl
  have loop : ∀ (d o : Nat) (Mc : mMap) (H : Heap) (locs : List Loc) (ls : Array Slot), o + d = sn σ → RQ γ M Mc μ σ (0, ε.2) → lv_has ls 7 [(4, .int (nI o)), (3, .int (atR (sI σ) (sn σ) b0 x0 o)), (2, .int x0), (1, .int b0), (0, .ref (rx μ))] → mW γ Mc s H locs → W p l e ({ frames := 1, cells := 0, slots := 0, locals := 23 } : Room) s m #[.ref (rx μ), .int b0, .int x0] below meth c H locs 0 0 (MQ below (mQi γ (fun r M' => r = atR (sI σ) (sn σ) b0 x0 (sn σ) ∧ RQ γ M M' μ (σ) (0, ε.2))) #[.ref (rx μ), .int b0, .int x0] s 0 0 (mA (gz γ))) (F0 m 10 ls []) := by
    intro d
    induction d with
    | zero =>
      intro o Mc H locs ls hi hR hl hw
      have hi2 : o = sn σ := by omega
      refine lv_iload S.1 S.2.1 d_M_at_10 (lv_at hl 0 rfl) ?_
      refine lv_aload_n S.1 S.2.1 d_M_at_12 rfl (lv_at hl 4 rfl) ?_
      refine m_get S hw cl_M hR.obj 5 (by decide) g693 (fun _ h => h) rfl d_M_at_13 ?_
      refine lv_icmp_ge (tgt := 120) S.1 S.2.1 d_M_at_16 rfl (fun _ => ?_) (fun h => absurd (nI_le (by omega) (by omega)) h)
      refine lv_iload_n S.1 S.2.1 d_M_at_120 rfl (lv_at hl 1 rfl) ?_
      exact m_iret S hlk hr rfl hw (⟨by rw [hi2], hR⟩) (Nat.le_refl _) (Nat.le_refl _) d_M_at_121
    | succ d ih =>
      intro o Mc H locs ls hi hR hl hw
      have ho : o < sn σ := by omega
      refine lv_iload S.1 S.2.1 d_M_at_10 (lv_at hl 0 rfl) ?_
      refine lv_aload_n S.1 S.2.1 d_M_at_12 rfl (lv_at hl 4 rfl) ?_
      refine m_get S hw cl_M hR.obj 5 (by decide) g693 (fun _ h => h) rfl d_M_at_13 ?_
      refine lv_icmp_ge (tgt := 120) S.1 S.2.1 d_M_at_16 rfl (fun h => absurd h (nI_ge (by omega) (by omega))) (fun _ => ?_)
      refine lv_aload_n S.1 S.2.1 d_M_at_19 rfl (lv_at hl 4 rfl) ?_
      refine lv_iload S.1 S.2.1 d_M_at_20 (lv_at hl 0 rfl) ?_
      refine m_ci hw (va_runV (As := [.int (nI o)]) (rest := []) S (c_M_rests l γ Mc μ σ (0, ε.2.1, ε.2.2.1, ε.2.2.2.1, ε.2.2.2.2.1, ε.2.2.2.2.2) hR.1 hn o ho) (m_cwV 1 S g793 g795 g26 g48 g796 rfl rfl ⟨by decide +kernel, by decide +kernel, by decide +kernel⟩ ⟨(Nat.le_of_ble_eq_true rfl), (Nat.le_of_ble_eq_true rfl)⟩) (hw.preV hR.obj cl_M.1) rfl rfl hl.1 rfl (lv_room (Nat.le_of_ble_eq_true rfl)) d_M_at_22 ⟨(Nat.zero_le _), (Nat.zero_le _)⟩) (fun r1 M1 H locs hp hw => ?_)
      obtain ⟨rfl, hM1⟩ := hp
      rw [hM1] at hw
      refine lv_if_eq (tgt := 114) S.1 S.2.1 d_M_at_25 rfl (fun h25 => ?_) (fun h25 => ?_)
      · refine lv_iinc (k := 0) (v := nI (o + 1)) S.1 S.2.1 d_M_at_114 hl rfl (nI_1 o) (by decide) rfl (fun ls hl => ?_)
        have hl : lv_has ls 7 [(4, .int (nI (o + 1))), (3, .int (atR (sI σ) (sn σ) b0 x0 o)), (2, .int x0), (1, .int b0), (0, .ref (rx μ))] := hl
        refine lv_goto (tgt := 10) S.1 S.2.1 d_M_at_117 rfl ?_
        have hl := lv_sub hl [0, 1, 2, 3, 4] rfl
        have hX : atR (sI σ) (sn σ) b0 x0 (o + 1) = atR (sI σ) (sn σ) b0 x0 o := if_neg (fun z => by rw [onS_f1 (b2i_0.mp h25)] at z; cases z.1)
        exact ih (o + 1) Mc H locs ls (by omega) hR (by rw [hX]; exact hl) hw
      · refine lv_aload_n S.1 S.2.1 d_M_at_28 rfl (lv_at hl 4 rfl) ?_
        refine m_get S hw cl_M hR.obj 7 (by decide) g695 (fun _ h => h) rfl d_M_at_29 ?_
        refine lv_iload S.1 S.2.1 d_M_at_32 (lv_at hl 0 rfl) ?_
        refine m_rldz (o := o) S hw hR (by omega) d_M_at_34 ?_
        refine lv_iload_n S.1 S.2.1 d_M_at_35 rfl (lv_at hl 3 rfl) ?_
        refine lv_icmp_ne (tgt := 114) S.1 S.2.1 d_M_at_36 rfl (fun h36 => ?_) (fun h36 => ?_)
        · refine lv_iinc (k := 0) (v := nI (o + 1)) S.1 S.2.1 d_M_at_114 hl rfl (nI_1 o) (by decide) rfl (fun ls hl => ?_)
          have hl : lv_has ls 7 [(4, .int (nI (o + 1))), (3, .int (atR (sI σ) (sn σ) b0 x0 o)), (2, .int x0), (1, .int b0), (0, .ref (rx μ))] := hl
          refine lv_goto (tgt := 10) S.1 S.2.1 d_M_at_117 rfl ?_
          have hl := lv_sub hl [0, 1, 2, 3, 4] rfl
          have hX : atR (sI σ) (sn σ) b0 x0 (o + 1) = atR (sI σ) (sn σ) b0 x0 o := if_neg (fun z => by rw [onS_f2 h36] at z; cases z.1)
          exact ih (o + 1) Mc H locs ls (by omega) hR (by rw [hX]; exact hl) hw
        · refine lv_iconst (v := 0) S.1 S.2.1 d_M_at_39 (by decide) ?_
          refine lv_istore S.1 S.2.1 d_M_at_40 hl (by decide) rfl (fun ls hl => ?_)
          have hl : lv_has ls 7 [(5, .int 0), (4, .int (nI o)), (3, .int (atR (sI σ) (sn σ) b0 x0 o)), (2, .int x0), (1, .int b0), (0, .ref (rx μ))] := hl
          refine lv_iconst (v := 0) S.1 S.2.1 d_M_at_42 (by decide) ?_
          refine lv_istore S.1 S.2.1 d_M_at_43 hl (by decide) rfl (fun ls hl => ?_)
          have hl : lv_has ls 7 [(6, .int 0), (5, .int 0), (4, .int (nI o)), (3, .int (atR (sI σ) (sn σ) b0 x0 o)), (2, .int x0), (1, .int b0), (0, .ref (rx μ))] := hl
          have hon := onS_t (b2i_n0.mp h25) h36
          have loop2 : ∀ (d x : Nat) (H : Heap) (locs : List Loc) (ls : Array Slot), x + d = sn σ → lv_has ls 7 [(6, .int (nI x)), (5, .int (nI (bfc (sI σ) b0 o x))), (4, .int (nI o)), (3, .int (atR (sI σ) (sn σ) b0 x0 o)), (2, .int x0), (1, .int b0), (0, .ref (rx μ))] → mW γ Mc s H locs → W p l e ({ frames := 1, cells := 0, slots := 0, locals := 23 } : Room) s m #[.ref (rx μ), .int b0, .int x0] below meth c H locs 0 0 (MQ below (mQi γ (fun r M' => r = atR (sI σ) (sn σ) b0 x0 (sn σ) ∧ RQ γ M M' μ (σ) (0, ε.2))) #[.ref (rx μ), .int b0, .int x0] s 0 0 (mA (gz γ))) (F0 m 45 ls []) := by
            intro d
            induction d with
            | zero =>
              intro x H locs ls hix hl hw
              have hi3 : x = sn σ := by omega
              refine lv_iload S.1 S.2.1 d_M_at_45 (lv_at hl 0 rfl) ?_
              refine lv_aload_n S.1 S.2.1 d_M_at_47 rfl (lv_at hl 6 rfl) ?_
              refine m_get S hw cl_M hR.obj 5 (by decide) g693 (fun _ h => h) rfl d_M_at_48 ?_
              refine lv_icmp_ge (tgt := 101) S.1 S.2.1 d_M_at_51 rfl (fun _ => ?_) (fun h => absurd (nI_le (by omega) (by omega)) h)
              refine lv_iload S.1 S.2.1 d_M_at_101 (lv_at hl 1 rfl) ?_
              refine lv_iload_n S.1 S.2.1 d_M_at_103 rfl (lv_at hl 4 rfl) ?_
              refine lv_icmp_ne (tgt := 112) S.1 S.2.1 d_M_at_104 rfl (fun h104 => ?_) (fun h104 => ?_)
              · refine lv_iload_n S.1 S.2.1 d_M_at_112 rfl (lv_at hl 3 rfl) ?_
                refine lv_istore_n S.1 S.2.1 d_M_at_113 rfl hl (by decide) rfl (fun ls hl => ?_)
                have hl : lv_has ls 7 [(3, .int (atR (sI σ) (sn σ) b0 x0 o)), (6, .int (nI x)), (5, .int (nI (bfc (sI σ) b0 o x))), (4, .int (nI o)), (2, .int x0), (1, .int b0), (0, .ref (rx μ))] := hl
                refine lv_iinc (k := 3) (v := nI (o + 1)) S.1 S.2.1 d_M_at_114 hl rfl (nI_1 o) (by decide) rfl (fun ls hl => ?_)
                have hl : lv_has ls 7 [(4, .int (nI (o + 1))), (3, .int (atR (sI σ) (sn σ) b0 x0 o)), (6, .int (nI x)), (5, .int (nI (bfc (sI σ) b0 o x))), (2, .int x0), (1, .int b0), (0, .ref (rx μ))] := hl
                refine lv_goto (tgt := 10) S.1 S.2.1 d_M_at_117 rfl ?_
                have hl := lv_sub hl [0, 1, 4, 5, 6] rfl
                have hX : atR (sI σ) (sn σ) b0 x0 (o + 1) = atR (sI σ) (sn σ) b0 x0 o := if_neg (fun z => h104 (hi3 ▸ z.2))
                exact ih (o + 1) Mc H locs ls (by omega) hR (by rw [hX]; exact hl) hw
              · refine lv_iload S.1 S.2.1 d_M_at_107 (lv_at hl 2 rfl) ?_
                refine lv_goto (tgt := 113) S.1 S.2.1 d_M_at_109 rfl ?_
                refine lv_istore_n S.1 S.2.1 d_M_at_113 rfl hl (by decide) rfl (fun ls hl => ?_)
                have hl : lv_has ls 7 [(3, .int (nI o)), (6, .int (nI x)), (5, .int (nI (bfc (sI σ) b0 o x))), (4, .int (nI o)), (2, .int x0), (1, .int b0), (0, .ref (rx μ))] := hl
                refine lv_iinc (k := 3) (v := nI (o + 1)) S.1 S.2.1 d_M_at_114 hl rfl (nI_1 o) (by decide) rfl (fun ls hl => ?_)
                have hl : lv_has ls 7 [(4, .int (nI (o + 1))), (3, .int (nI o)), (6, .int (nI x)), (5, .int (nI (bfc (sI σ) b0 o x))), (2, .int x0), (1, .int b0), (0, .ref (rx μ))] := hl
                refine lv_goto (tgt := 10) S.1 S.2.1 d_M_at_117 rfl ?_
                have hl := lv_sub hl [0, 1, 4, 5, 6] rfl
                have hX : atR (sI σ) (sn σ) b0 x0 (o + 1) = nI o := if_pos ⟨hon, hi3 ▸ h104⟩
                exact ih (o + 1) Mc H locs ls (by omega) hR (by rw [hX]; exact hl) hw
            | succ d ih2 =>
              intro x H locs ls hix hl hw
              have hx : x < sn σ := by omega
              refine lv_iload S.1 S.2.1 d_M_at_45 (lv_at hl 0 rfl) ?_
              refine lv_aload_n S.1 S.2.1 d_M_at_47 rfl (lv_at hl 6 rfl) ?_
              refine m_get S hw cl_M hR.obj 5 (by decide) g693 (fun _ h => h) rfl d_M_at_48 ?_
              refine lv_icmp_ge (tgt := 101) S.1 S.2.1 d_M_at_51 rfl (fun h => absurd h (nI_ge (by omega) (by omega))) (fun _ => ?_)
              refine lv_iload S.1 S.2.1 d_M_at_54 (lv_at hl 1 rfl) ?_
              refine lv_aload_n S.1 S.2.1 d_M_at_56 rfl (lv_at hl 6 rfl) ?_
              refine lv_iload S.1 S.2.1 d_M_at_57 (lv_at hl 0 rfl) ?_
              refine m_ci hw (va_runV (As := [.int (nI x)]) (rest := [.int (nI (bfc (sI σ) b0 o x))]) S (c_M_rests l γ Mc μ σ (0, ε.2.1, ε.2.2.1, ε.2.2.2.1, ε.2.2.2.2.1, ε.2.2.2.2.2) hR.1 hn x hx) (m_cwV 1 S g793 g795 g26 g48 g796 rfl rfl ⟨by decide +kernel, by decide +kernel, by decide +kernel⟩ ⟨(Nat.le_of_ble_eq_true rfl), (Nat.le_of_ble_eq_true rfl)⟩) (hw.preV hR.obj cl_M.1) rfl rfl hl.1 rfl (lv_room (Nat.le_of_ble_eq_true rfl)) d_M_at_59 ⟨(Nat.zero_le _), (Nat.zero_le _)⟩) (fun r1 M1 H locs hp hw => ?_)
              obtain ⟨rfl, hM1⟩ := hp
              rw [hM1] at hw
              refine lv_if_eq (tgt := 91) S.1 S.2.1 d_M_at_62 rfl (fun h62 => ?_) (fun h62 => ?_)
              · refine lv_iconst (v := 0) S.1 S.2.1 d_M_at_91 (by decide) ?_
                refine lv_iadd S.1 S.2.1 d_M_at_92 ?_
                have hX1 : bfc (sI σ) b0 o (x + 1) = _ := bfc_f (by rw [onS_f1 (b2i_0.mp h62)]; rfl)
                refine W.eq (g2 := F0 m 93 ls [.int (nI (bfc (sI σ) b0 o (x + 1)))]) (congrArg (fun z => F0 m 93 ls [.int z]) (by rw [hX1]; exact Int32.add_zero _)) ?_
                refine lv_istore S.1 S.2.1 d_M_at_93 hl (by decide) rfl (fun ls hl => ?_)
                have hl : lv_has ls 7 [(5, .int (nI (bfc (sI σ) b0 o (x + 1)))), (6, .int (nI x)), (4, .int (nI o)), (3, .int (atR (sI σ) (sn σ) b0 x0 o)), (2, .int x0), (1, .int b0), (0, .ref (rx μ))] := hl
                refine lv_iinc (k := 1) (v := nI (x + 1)) S.1 S.2.1 d_M_at_95 hl rfl (nI_1 x) (by decide) rfl (fun ls hl => ?_)
                have hl : lv_has ls 7 [(6, .int (nI (x + 1))), (5, .int (nI (bfc (sI σ) b0 o (x + 1)))), (4, .int (nI o)), (3, .int (atR (sI σ) (sn σ) b0 x0 o)), (2, .int x0), (1, .int b0), (0, .ref (rx μ))] := hl
                refine lv_goto (tgt := 45) S.1 S.2.1 d_M_at_98 rfl ?_
                have hl := lv_sub hl [0, 1, 2, 3, 4, 5, 6] rfl
                exact ih2 (x + 1) H locs ls (by omega) hl hw
              · refine lv_aload_n S.1 S.2.1 d_M_at_65 rfl (lv_at hl 6 rfl) ?_
                refine m_get S hw cl_M hR.obj 7 (by decide) g695 (fun _ h => h) rfl d_M_at_66 ?_
                refine lv_iload S.1 S.2.1 d_M_at_69 (lv_at hl 0 rfl) ?_
                refine m_rldz (o := x) S hw hR (by omega) d_M_at_71 ?_
                refine lv_iload_n S.1 S.2.1 d_M_at_72 rfl (lv_at hl 5 rfl) ?_
                refine lv_icmp_ne (tgt := 91) S.1 S.2.1 d_M_at_73 rfl (fun h73 => ?_) (fun h73 => ?_)
                · refine lv_iconst (v := 0) S.1 S.2.1 d_M_at_91 (by decide) ?_
                  refine lv_iadd S.1 S.2.1 d_M_at_92 ?_
                  have hX1 : bfc (sI σ) b0 o (x + 1) = _ := bfc_f (by rw [onS_f2 h73]; rfl)
                  refine W.eq (g2 := F0 m 93 ls [.int (nI (bfc (sI σ) b0 o (x + 1)))]) (congrArg (fun z => F0 m 93 ls [.int z]) (by rw [hX1]; exact Int32.add_zero _)) ?_
                  refine lv_istore S.1 S.2.1 d_M_at_93 hl (by decide) rfl (fun ls hl => ?_)
                  have hl : lv_has ls 7 [(5, .int (nI (bfc (sI σ) b0 o (x + 1)))), (6, .int (nI x)), (4, .int (nI o)), (3, .int (atR (sI σ) (sn σ) b0 x0 o)), (2, .int x0), (1, .int b0), (0, .ref (rx μ))] := hl
                  refine lv_iinc (k := 1) (v := nI (x + 1)) S.1 S.2.1 d_M_at_95 hl rfl (nI_1 x) (by decide) rfl (fun ls hl => ?_)
                  have hl : lv_has ls 7 [(6, .int (nI (x + 1))), (5, .int (nI (bfc (sI σ) b0 o (x + 1)))), (4, .int (nI o)), (3, .int (atR (sI σ) (sn σ) b0 x0 o)), (2, .int x0), (1, .int b0), (0, .ref (rx μ))] := hl
                  refine lv_goto (tgt := 45) S.1 S.2.1 d_M_at_98 rfl ?_
                  have hl := lv_sub hl [0, 1, 2, 3, 4, 5, 6] rfl
                  exact ih2 (x + 1) H locs ls (by omega) hl hw
                · refine lv_aload_n S.1 S.2.1 d_M_at_76 rfl (lv_at hl 6 rfl) ?_
                  refine lv_iload S.1 S.2.1 d_M_at_77 (lv_at hl 0 rfl) ?_
                  refine lv_iload S.1 S.2.1 d_M_at_79 (lv_at hl 2 rfl) ?_
                  refine m_ci hw (va_runV (As := [.int (nI x), .int (nI o)]) (rest := [.int (nI (bfc (sI σ) b0 o x))]) S (c_M_isBefore l γ Mc μ σ (0, ε.2.1, ε.2.2.1, ε.2.2.2.1, ε.2.2.2.2.1, ε.2.2.2.2.2) hR.1 hn x o hx ho) (m_cwV 2 S g812 g814 g30 g48 g815 rfl rfl ⟨by decide +kernel, by decide +kernel, by decide +kernel⟩ ⟨(Nat.le_of_ble_eq_true rfl), (Nat.le_of_ble_eq_true rfl)⟩) (hw.preV hR.obj cl_M.1) rfl rfl hl.1 rfl (lv_room (Nat.le_of_ble_eq_true rfl)) d_M_at_81 ⟨(Nat.zero_le _), (Nat.zero_le _)⟩) (fun r1 M1 H locs hp hw => ?_)
                  obtain ⟨rfl, hM1⟩ := hp
                  rw [hM1] at hw
                  refine lv_if_eq (tgt := 91) S.1 S.2.1 d_M_at_84 rfl (fun h84 => ?_) (fun h84 => ?_)
                  · refine lv_iconst (v := 0) S.1 S.2.1 d_M_at_91 (by decide) ?_
                    refine lv_iadd S.1 S.2.1 d_M_at_92 ?_
                    have hX1 : bfc (sI σ) b0 o (x + 1) = _ := bfc_f (by rw [b2i_0.mp h84, Bool.and_false])
                    refine W.eq (g2 := F0 m 93 ls [.int (nI (bfc (sI σ) b0 o (x + 1)))]) (congrArg (fun z => F0 m 93 ls [.int z]) (by rw [hX1]; exact Int32.add_zero _)) ?_
                    refine lv_istore S.1 S.2.1 d_M_at_93 hl (by decide) rfl (fun ls hl => ?_)
                    have hl : lv_has ls 7 [(5, .int (nI (bfc (sI σ) b0 o (x + 1)))), (6, .int (nI x)), (4, .int (nI o)), (3, .int (atR (sI σ) (sn σ) b0 x0 o)), (2, .int x0), (1, .int b0), (0, .ref (rx μ))] := hl
                    refine lv_iinc (k := 1) (v := nI (x + 1)) S.1 S.2.1 d_M_at_95 hl rfl (nI_1 x) (by decide) rfl (fun ls hl => ?_)
                    have hl : lv_has ls 7 [(6, .int (nI (x + 1))), (5, .int (nI (bfc (sI σ) b0 o (x + 1)))), (4, .int (nI o)), (3, .int (atR (sI σ) (sn σ) b0 x0 o)), (2, .int x0), (1, .int b0), (0, .ref (rx μ))] := hl
                    refine lv_goto (tgt := 45) S.1 S.2.1 d_M_at_98 rfl ?_
                    have hl := lv_sub hl [0, 1, 2, 3, 4, 5, 6] rfl
                    exact ih2 (x + 1) H locs ls (by omega) hl hw
                  · refine lv_iconst (v := 1) S.1 S.2.1 d_M_at_87 (by decide) ?_
                    refine lv_goto (tgt := 92) S.1 S.2.1 d_M_at_88 rfl ?_
                    refine lv_iadd S.1 S.2.1 d_M_at_92 ?_
                    have hX1 : bfc (sI σ) b0 o (x + 1) = _ := bfc_t (by rw [onS_t (b2i_n0.mp h62) h73, b2i_n0.mp h84]; rfl)
                    refine W.eq (g2 := F0 m 93 ls [.int (nI (bfc (sI σ) b0 o (x + 1)))]) (congrArg (fun z => F0 m 93 ls [.int z]) (by rw [hX1]; exact nI_1 _)) ?_
                    refine lv_istore S.1 S.2.1 d_M_at_93 hl (by decide) rfl (fun ls hl => ?_)
                    have hl : lv_has ls 7 [(5, .int (nI (bfc (sI σ) b0 o (x + 1)))), (6, .int (nI x)), (4, .int (nI o)), (3, .int (atR (sI σ) (sn σ) b0 x0 o)), (2, .int x0), (1, .int b0), (0, .ref (rx μ))] := hl
                    refine lv_iinc (k := 1) (v := nI (x + 1)) S.1 S.2.1 d_M_at_95 hl rfl (nI_1 x) (by decide) rfl (fun ls hl => ?_)
                    have hl : lv_has ls 7 [(6, .int (nI (x + 1))), (5, .int (nI (bfc (sI σ) b0 o (x + 1)))), (4, .int (nI o)), (3, .int (atR (sI σ) (sn σ) b0 x0 o)), (2, .int x0), (1, .int b0), (0, .ref (rx μ))] := hl
                    refine lv_goto (tgt := 45) S.1 S.2.1 d_M_at_98 rfl ?_
                    have hl := lv_sub hl [0, 1, 2, 3, 4, 5, 6] rfl
                    exact ih2 (x + 1) H locs ls (by omega) hl hw
          have hl := lv_sub hl [0, 1, 2, 3, 4, 5, 6] rfl
          exact loop2 _ 0 _ _ ls (Nat.zero_add _) hl hw
  have hl := lv_sub hl [0, 1, 4, 3, 2] rfl
  exact loop _ 0 _ _ _ ls (Nat.zero_add _) hR hl hw
set_option maxHeartbeats 4000000 in
set_option maxRecDepth 100000 in
theorem c_M_depthA (l : Launch) (γ : mG) (M : mMap) (μ : RK) (σ : St) (ε : RE) (hR : RM γ M μ σ ε) (hn : sn σ ≤ 250) (b0 p0 f0 : Int32) (hv : rg 0 2000 p0 = false) : Met l y_M_depth w_M_depth ({ frames := 1, cells := 0, slots := 0, locals := 22 } : Room) (mPc γ M [.ref (rx μ), .int b0, .int p0, .int f0]) (mQl γ (fun _ M' => RQ γ M M' μ σ (1, ε.2))) 0 0 (mA (gz γ)) := by
  refine m_enter (by decide) (Nat.le_of_ble_eq_true rfl) ?_
  intro p e s m below meth c ls S hr hlk hnm hl hw
  have hl : lv_has ls 8 [(0, .ref (rx μ)), (1, .int b0), (2, .int p0), (3, .int f0)] := hl
  have hR := hR.q
  refine lv_aload_n S.1 S.2.1 d_M_depth_0 rfl (lv_at hl 0 rfl) ?_
  refine lv_iload_n S.1 S.2.1 d_M_depth_1 rfl (lv_at hl 2 rfl) ?_
  refine lv_iconst (v := 0) S.1 S.2.1 d_M_depth_2 (by decide) ?_
  refine lv_sipush (v := 2000) S.1 S.2.1 d_M_depth_3 (by decide) ?_
  refine m_ci hw (va_runS (As := [.int p0, .int 0, .int 2000]) (rest := [.ref (rx μ)]) S (c_M_in l γ M p0 0 2000) (m_cwS 3 S g778 g779 g48 g780 rfl rfl ⟨by decide +kernel, by decide +kernel, by decide +kernel⟩ ⟨(Nat.le_of_ble_eq_true rfl), (Nat.le_of_ble_eq_true rfl)⟩) hw.preS rfl rfl hl.1 rfl (lv_room (Nat.le_of_ble_eq_true rfl)) d_M_depth_6 ⟨(Nat.zero_le _), (Nat.zero_le _)⟩) (fun r1 M1 H locs hp hw => ?_)
  obtain ⟨rfl, hM1⟩ := hp
  rw [hM1] at hw
  refine lv_if_eq (tgt := 16) S.1 S.2.1 d_M_depth_9 rfl (fun _ => ?_) (fun h => absurd (b2i_0.mpr hv) h)
  refine lv_iconst (v := 1) S.1 S.2.1 d_M_depth_16 (by decide) ?_
  refine m_rput (σ' := σ) (ε' := (1, ε.2.1, ε.2.2.1, ε.2.2.2.1, ε.2.2.2.2.1, ε.2.2.2.2.2)) S hw hR 0 (by decide) g688 rfl rfl rfl d_M_depth_17 rfl (fun i hi => rfl) (fun H locs N1 hR hw => ?_)
  refine lv_lconst (v := 0) S.1 S.2.1 d_M_depth_20 (by decide) ?_
  refine lv_lstore S.1 S.2.1 d_M_depth_21 hl (by decide) rfl (fun ls hl => ?_)
  have hl : lv_has ls 8 [(4, .long 0), (0, .ref (rx μ)), (1, .int b0), (2, .int p0), (3, .int f0)] := hl
  refine lv_iconst (v := 0) S.1 S.2.1 d_M_depth_23 (by decide) ?_
  refine lv_istore S.1 S.2.1 d_M_depth_24 hl (by decide) rfl (fun ls hl => ?_)
  have hl : lv_has ls 8 [(6, .int 0), (4, .long 0), (0, .ref (rx μ)), (1, .int b0), (2, .int p0), (3, .int f0)] := hl
  refine lv_iload S.1 S.2.1 d_M_depth_26 (lv_at hl 0 rfl) ?_
  refine lv_aload_n S.1 S.2.1 d_M_depth_28 rfl (lv_at hl 2 rfl) ?_
  refine m_get S hw cl_M hR.obj 5 (by decide) g693 (fun _ h => h) rfl d_M_depth_29 ?_
  refine lv_icmp_ge (tgt := 123) S.1 S.2.1 d_M_depth_32 rfl (fun h32 => ?_) (fun h32 => ?_)
  · refine lv_lload S.1 S.2.1 d_M_depth_123 (lv_at hl 1 rfl) ?_
    exact m_lret S hlk hr hw hR (Nat.le_refl _) (Nat.le_refl _) d_M_depth_125
  · refine lv_aload_n S.1 S.2.1 d_M_depth_35 rfl (lv_at hl 2 rfl) ?_
    refine m_get S hw cl_M hR.obj 0 (by decide) g688 (fun _ h => h) rfl d_M_depth_36 ?_
    refine lv_if_ne (tgt := 123) S.1 S.2.1 d_M_depth_39 rfl (fun _ => ?_) (fun h => absurd h (show ¬ (1 : Int32) = 0 by decide))
    refine lv_lload S.1 S.2.1 d_M_depth_123 (lv_at hl 1 rfl) ?_
    exact m_lret S hlk hr hw hR (Nat.le_refl _) (Nat.le_refl _) d_M_depth_125
set_option maxHeartbeats 4000000 in
set_option maxRecDepth 100000 in
theorem c_M_depth (l : Launch) (γ : mG) (M : mMap) (μ : RK) (σ : St) (ε : RE) (hR : RM γ M μ σ ε) (hn : sn σ ≤ 250) (b0 p0 f0 : Int32) (hv : rg 0 2000 p0 = true) : Met l y_M_depth w_M_depth ({ frames := 1, cells := 0, slots := 0, locals := 22 } : Room) (mPc γ M [.ref (rx μ), .int b0, .int p0, .int f0]) (mQl γ (fun r M' => r = dR (sI σ) b0 p0 f0 (sn σ) ∧ RQ γ M M' μ (σ) (0, ε.2))) 0 0 (mA (gz γ)) := by
  refine m_enter (by decide) (Nat.le_of_ble_eq_true rfl) ?_
  intro p e s m below meth c ls S hr hlk hnm hl hw
  have hl : lv_has ls 8 [(0, .ref (rx μ)), (1, .int b0), (2, .int p0), (3, .int f0)] := hl
  have hR := hR.q
  refine lv_aload_n S.1 S.2.1 d_M_depth_0 rfl (lv_at hl 0 rfl) ?_
  refine lv_iload_n S.1 S.2.1 d_M_depth_1 rfl (lv_at hl 2 rfl) ?_
  refine lv_iconst (v := 0) S.1 S.2.1 d_M_depth_2 (by decide) ?_
  refine lv_sipush (v := 2000) S.1 S.2.1 d_M_depth_3 (by decide) ?_
  refine m_ci hw (va_runS (As := [.int p0, .int 0, .int 2000]) (rest := [.ref (rx μ)]) S (c_M_in l γ M p0 0 2000) (m_cwS 3 S g778 g779 g48 g780 rfl rfl ⟨by decide +kernel, by decide +kernel, by decide +kernel⟩ ⟨(Nat.le_of_ble_eq_true rfl), (Nat.le_of_ble_eq_true rfl)⟩) hw.preS rfl rfl hl.1 rfl (lv_room (Nat.le_of_ble_eq_true rfl)) d_M_depth_6 ⟨(Nat.zero_le _), (Nat.zero_le _)⟩) (fun r1 M1 H locs hp hw => ?_)
  obtain ⟨rfl, hM1⟩ := hp
  rw [hM1] at hw
  refine lv_if_eq (tgt := 16) S.1 S.2.1 d_M_depth_9 rfl (fun h => absurd h (b2i_n0.mpr hv)) (fun _ => ?_)
  refine lv_iconst (v := 0) S.1 S.2.1 d_M_depth_12 (by decide) ?_
  refine lv_goto (tgt := 17) S.1 S.2.1 d_M_depth_13 rfl ?_
  refine m_rput (σ' := σ) (ε' := (0, ε.2.1, ε.2.2.1, ε.2.2.2.1, ε.2.2.2.2.1, ε.2.2.2.2.2)) S hw hR 0 (by decide) g688 rfl rfl rfl d_M_depth_17 rfl (fun i hi => rfl) (fun H locs N1 hR hw => ?_)
  refine lv_lconst (v := 0) S.1 S.2.1 d_M_depth_20 (by decide) ?_
  refine lv_lstore S.1 S.2.1 d_M_depth_21 hl (by decide) rfl (fun ls hl => ?_)
  have hl : lv_has ls 8 [(4, .long 0), (0, .ref (rx μ)), (1, .int b0), (2, .int p0), (3, .int f0)] := hl
  refine lv_iconst (v := 0) S.1 S.2.1 d_M_depth_23 (by decide) ?_
  refine lv_istore S.1 S.2.1 d_M_depth_24 hl (by decide) rfl (fun ls hl => ?_)
  have hl : lv_has ls 8 [(6, .int 0), (4, .long 0), (0, .ref (rx μ)), (1, .int b0), (2, .int p0), (3, .int f0)] := hl
  have loop : ∀ (d x : Nat) (Mc : mMap) (H : Heap) (locs : List Loc) (ls : Array Slot), x + d = sn σ → RQ γ M Mc μ σ (0, ε.2) → lv_has ls 8 [(6, .int (nI x)), (4, .long (dR (sI σ) b0 p0 f0 x)), (3, .int f0), (2, .int p0), (1, .int b0), (0, .ref (rx μ))] → mW γ Mc s H locs → W p l e ({ frames := 1, cells := 0, slots := 0, locals := 22 } : Room) s m #[.ref (rx μ), .int b0, .int p0, .int f0] below meth c H locs 0 0 (MQ below (mQl γ (fun r M' => r = dR (sI σ) b0 p0 f0 (sn σ) ∧ RQ γ M M' μ (σ) (0, ε.2))) #[.ref (rx μ), .int b0, .int p0, .int f0] s 0 0 (mA (gz γ))) (F0 m 26 ls []) := by
    intro d
    induction d with
    | zero =>
      intro x Mc H locs ls hi hR hl hw
      have hi2 : x = sn σ := by omega
      refine lv_iload S.1 S.2.1 d_M_depth_26 (lv_at hl 0 rfl) ?_
      refine lv_aload_n S.1 S.2.1 d_M_depth_28 rfl (lv_at hl 5 rfl) ?_
      refine m_get S hw cl_M hR.obj 5 (by decide) g693 (fun _ h => h) rfl d_M_depth_29 ?_
      refine lv_icmp_ge (tgt := 123) S.1 S.2.1 d_M_depth_32 rfl (fun _ => ?_) (fun h => absurd (nI_le (by omega) (by omega)) h)
      refine lv_lload S.1 S.2.1 d_M_depth_123 (lv_at hl 1 rfl) ?_
      exact m_lret S hlk hr hw (⟨by rw [hi2], hR⟩) (Nat.le_refl _) (Nat.le_refl _) d_M_depth_125
    | succ d ih =>
      intro x Mc H locs ls hi hR hl hw
      have hx : x < sn σ := by omega
      refine lv_iload S.1 S.2.1 d_M_depth_26 (lv_at hl 0 rfl) ?_
      refine lv_aload_n S.1 S.2.1 d_M_depth_28 rfl (lv_at hl 5 rfl) ?_
      refine m_get S hw cl_M hR.obj 5 (by decide) g693 (fun _ h => h) rfl d_M_depth_29 ?_
      refine lv_icmp_ge (tgt := 123) S.1 S.2.1 d_M_depth_32 rfl (fun h => absurd h (nI_ge (by omega) (by omega))) (fun _ => ?_)
      refine lv_aload_n S.1 S.2.1 d_M_depth_35 rfl (lv_at hl 5 rfl) ?_
      refine m_get S hw cl_M hR.obj 0 (by decide) g688 (fun _ h => h) rfl d_M_depth_36 ?_
      refine lv_if_ne (tgt := 123) S.1 S.2.1 d_M_depth_39 rfl (fun h => absurd (show (0 : Int32) = 0 by decide) h) (fun _ => ?_)
      refine lv_aload_n S.1 S.2.1 d_M_depth_42 rfl (lv_at hl 5 rfl) ?_
      refine lv_iload S.1 S.2.1 d_M_depth_43 (lv_at hl 0 rfl) ?_
      refine m_ci hw (va_runV (As := [.int (nI x)]) (rest := []) S (c_M_rests l γ Mc μ σ (0, ε.2.1, ε.2.2.1, ε.2.2.2.1, ε.2.2.2.2.1, ε.2.2.2.2.2) hR.1 hn x hx) (m_cwV 1 S g793 g795 g26 g48 g796 rfl rfl ⟨by decide +kernel, by decide +kernel, by decide +kernel⟩ ⟨(Nat.le_of_ble_eq_true rfl), (Nat.le_of_ble_eq_true rfl)⟩) (hw.preV hR.obj cl_M.1) rfl rfl hl.1 rfl (lv_room (Nat.le_of_ble_eq_true rfl)) d_M_depth_45 ⟨(Nat.zero_le _), (Nat.zero_le _)⟩) (fun r1 M1 H locs hp hw => ?_)
      obtain ⟨rfl, hM1⟩ := hp
      rw [hM1] at hw
      refine lv_if_eq (tgt := 77) S.1 S.2.1 d_M_depth_48 rfl (fun h48 => ?_) (fun h48 => ?_)
      · refine lv_iconst (v := 0) S.1 S.2.1 d_M_depth_77 (by decide) ?_
        refine lv_istore S.1 S.2.1 d_M_depth_78 hl (by decide) rfl (fun ls hl => ?_)
        have hl : lv_has ls 8 [(7, .int 0), (6, .int (nI x)), (4, .long (dR (sI σ) b0 p0 f0 x)), (3, .int f0), (2, .int p0), (1, .int b0), (0, .ref (rx μ))] := hl
        refine lv_lload S.1 S.2.1 d_M_depth_80 (lv_at hl 2 rfl) ?_
        refine lv_iload S.1 S.2.1 d_M_depth_82 (lv_at hl 0 rfl) ?_
        refine lv_if_ne (tgt := 91) S.1 S.2.1 d_M_depth_84 rfl (fun h => absurd (show (0 : Int32) = 0 by decide) h) (fun _ => ?_)
        refine lv_lconst (v := 0) S.1 S.2.1 d_M_depth_87 (by decide) ?_
        refine lv_goto (tgt := 114) S.1 S.2.1 d_M_depth_88 rfl ?_
        refine lv_ladd S.1 S.2.1 d_M_depth_114 ?_
        refine lv_lstore S.1 S.2.1 d_M_depth_115 hl (by decide) rfl (fun ls hl => ?_)
        have hl : lv_has ls 8 [(4, .long ((dR (sI σ) b0 p0 f0 x) + 0)), (7, .int 0), (6, .int (nI x)), (3, .int f0), (2, .int p0), (1, .int b0), (0, .ref (rx μ))] := hl
        refine lv_iinc (k := 2) (v := nI (x + 1)) S.1 S.2.1 d_M_depth_117 hl rfl (nI_1 x) (by decide) rfl (fun ls hl => ?_)
        have hl : lv_has ls 8 [(6, .int (nI (x + 1))), (4, .long ((dR (sI σ) b0 p0 f0 x) + 0)), (7, .int 0), (3, .int f0), (2, .int p0), (1, .int b0), (0, .ref (rx μ))] := hl
        refine lv_goto (tgt := 26) S.1 S.2.1 d_M_depth_120 rfl ?_
        have hl := lv_sub hl [0, 1, 3, 4, 5, 6] rfl
        have hX : dR (sI σ) b0 p0 f0 (x + 1) = (dR (sI σ) b0 p0 f0 x) + 0 := dR_f (by rw [onS_f1 (b2i_0.mp h48)]; rfl)
        exact ih (x + 1) Mc H locs ls (by omega) hR (by rw [hX]; exact hl) hw
      · refine lv_aload_n S.1 S.2.1 d_M_depth_51 rfl (lv_at hl 5 rfl) ?_
        refine m_get S hw cl_M hR.obj 7 (by decide) g695 (fun _ h => h) rfl d_M_depth_52 ?_
        refine lv_iload S.1 S.2.1 d_M_depth_55 (lv_at hl 0 rfl) ?_
        refine m_rldz (o := x) S hw hR (by omega) d_M_depth_57 ?_
        refine lv_iload_n S.1 S.2.1 d_M_depth_58 rfl (lv_at hl 4 rfl) ?_
        refine lv_icmp_ne (tgt := 77) S.1 S.2.1 d_M_depth_59 rfl (fun h59 => ?_) (fun h59 => ?_)
        · refine lv_iconst (v := 0) S.1 S.2.1 d_M_depth_77 (by decide) ?_
          refine lv_istore S.1 S.2.1 d_M_depth_78 hl (by decide) rfl (fun ls hl => ?_)
          have hl : lv_has ls 8 [(7, .int 0), (6, .int (nI x)), (4, .long (dR (sI σ) b0 p0 f0 x)), (3, .int f0), (2, .int p0), (1, .int b0), (0, .ref (rx μ))] := hl
          refine lv_lload S.1 S.2.1 d_M_depth_80 (lv_at hl 2 rfl) ?_
          refine lv_iload S.1 S.2.1 d_M_depth_82 (lv_at hl 0 rfl) ?_
          refine lv_if_ne (tgt := 91) S.1 S.2.1 d_M_depth_84 rfl (fun h => absurd (show (0 : Int32) = 0 by decide) h) (fun _ => ?_)
          refine lv_lconst (v := 0) S.1 S.2.1 d_M_depth_87 (by decide) ?_
          refine lv_goto (tgt := 114) S.1 S.2.1 d_M_depth_88 rfl ?_
          refine lv_ladd S.1 S.2.1 d_M_depth_114 ?_
          refine lv_lstore S.1 S.2.1 d_M_depth_115 hl (by decide) rfl (fun ls hl => ?_)
          have hl : lv_has ls 8 [(4, .long ((dR (sI σ) b0 p0 f0 x) + 0)), (7, .int 0), (6, .int (nI x)), (3, .int f0), (2, .int p0), (1, .int b0), (0, .ref (rx μ))] := hl
          refine lv_iinc (k := 2) (v := nI (x + 1)) S.1 S.2.1 d_M_depth_117 hl rfl (nI_1 x) (by decide) rfl (fun ls hl => ?_)
          have hl : lv_has ls 8 [(6, .int (nI (x + 1))), (4, .long ((dR (sI σ) b0 p0 f0 x) + 0)), (7, .int 0), (3, .int f0), (2, .int p0), (1, .int b0), (0, .ref (rx μ))] := hl
          refine lv_goto (tgt := 26) S.1 S.2.1 d_M_depth_120 rfl ?_
          have hl := lv_sub hl [0, 1, 3, 4, 5, 6] rfl
          have hX : dR (sI σ) b0 p0 f0 (x + 1) = (dR (sI σ) b0 p0 f0 x) + 0 := dR_f (by rw [onS_f2 h59]; rfl)
          exact ih (x + 1) Mc H locs ls (by omega) hR (by rw [hX]; exact hl) hw
        · refine lv_aload_n S.1 S.2.1 d_M_depth_62 rfl (lv_at hl 5 rfl) ?_
          refine m_get S hw cl_M hR.obj 8 (by decide) g696 (fun _ h => h) rfl d_M_depth_63 ?_
          refine lv_iload S.1 S.2.1 d_M_depth_66 (lv_at hl 0 rfl) ?_
          refine m_rld (o := x) S hw hR 2 (by decide) (by omega) d_M_depth_68 ?_
          refine lv_iload_n S.1 S.2.1 d_M_depth_69 rfl (lv_at hl 3 rfl) ?_
          refine lv_icmp_ne (tgt := 77) S.1 S.2.1 d_M_depth_70 rfl (fun h70 => ?_) (fun h70 => ?_)
          · refine lv_iconst (v := 0) S.1 S.2.1 d_M_depth_77 (by decide) ?_
            refine lv_istore S.1 S.2.1 d_M_depth_78 hl (by decide) rfl (fun ls hl => ?_)
            have hl : lv_has ls 8 [(7, .int 0), (6, .int (nI x)), (4, .long (dR (sI σ) b0 p0 f0 x)), (3, .int f0), (2, .int p0), (1, .int b0), (0, .ref (rx μ))] := hl
            refine lv_lload S.1 S.2.1 d_M_depth_80 (lv_at hl 2 rfl) ?_
            refine lv_iload S.1 S.2.1 d_M_depth_82 (lv_at hl 0 rfl) ?_
            refine lv_if_ne (tgt := 91) S.1 S.2.1 d_M_depth_84 rfl (fun h => absurd (show (0 : Int32) = 0 by decide) h) (fun _ => ?_)
            refine lv_lconst (v := 0) S.1 S.2.1 d_M_depth_87 (by decide) ?_
            refine lv_goto (tgt := 114) S.1 S.2.1 d_M_depth_88 rfl ?_
            refine lv_ladd S.1 S.2.1 d_M_depth_114 ?_
            refine lv_lstore S.1 S.2.1 d_M_depth_115 hl (by decide) rfl (fun ls hl => ?_)
            have hl : lv_has ls 8 [(4, .long ((dR (sI σ) b0 p0 f0 x) + 0)), (7, .int 0), (6, .int (nI x)), (3, .int f0), (2, .int p0), (1, .int b0), (0, .ref (rx μ))] := hl
            refine lv_iinc (k := 2) (v := nI (x + 1)) S.1 S.2.1 d_M_depth_117 hl rfl (nI_1 x) (by decide) rfl (fun ls hl => ?_)
            have hl : lv_has ls 8 [(6, .int (nI (x + 1))), (4, .long ((dR (sI σ) b0 p0 f0 x) + 0)), (7, .int 0), (3, .int f0), (2, .int p0), (1, .int b0), (0, .ref (rx μ))] := hl
            refine lv_goto (tgt := 26) S.1 S.2.1 d_M_depth_120 rfl ?_
            have hl := lv_sub hl [0, 1, 3, 4, 5, 6] rfl
            have hX : dR (sI σ) b0 p0 f0 (x + 1) = (dR (sI σ) b0 p0 f0 x) + 0 := dR_f (by rw [decide_eq_false h70, Bool.and_false])
            exact ih (x + 1) Mc H locs ls (by omega) hR (by rw [hX]; exact hl) hw
          · refine lv_iconst (v := 1) S.1 S.2.1 d_M_depth_73 (by decide) ?_
            refine lv_goto (tgt := 78) S.1 S.2.1 d_M_depth_74 rfl ?_
            refine lv_istore S.1 S.2.1 d_M_depth_78 hl (by decide) rfl (fun ls hl => ?_)
            have hl : lv_has ls 8 [(7, .int 1), (6, .int (nI x)), (4, .long (dR (sI σ) b0 p0 f0 x)), (3, .int f0), (2, .int p0), (1, .int b0), (0, .ref (rx μ))] := hl
            refine lv_lload S.1 S.2.1 d_M_depth_80 (lv_at hl 2 rfl) ?_
            refine lv_iload S.1 S.2.1 d_M_depth_82 (lv_at hl 0 rfl) ?_
            refine lv_if_ne (tgt := 91) S.1 S.2.1 d_M_depth_84 rfl (fun _ => ?_) (fun h => absurd h (show ¬ (1 : Int32) = 0 by decide))
            refine lv_iload_n S.1 S.2.1 d_M_depth_91 rfl (lv_at hl 3 rfl) ?_
            refine lv_if_eq (tgt := 106) S.1 S.2.1 d_M_depth_92 rfl (fun h92 => ?_) (fun h92 => ?_)
            · refine lv_aload_n S.1 S.2.1 d_M_depth_106 rfl (lv_at hl 6 rfl) ?_
              refine m_get S hw cl_M hR.obj 10 (by decide) g698 (fun _ h => h) rfl d_M_depth_107 ?_
              refine lv_iload S.1 S.2.1 d_M_depth_110 (lv_at hl 1 rfl) ?_
              refine m_rld (o := x) S hw hR 4 (by decide) (by omega) d_M_depth_112 ?_
              refine lv_i2l S.1 S.2.1 d_M_depth_113 rfl ?_
              refine lv_ladd S.1 S.2.1 d_M_depth_114 ?_
              refine lv_lstore S.1 S.2.1 d_M_depth_115 hl (by decide) rfl (fun ls hl => ?_)
              have hl : lv_has ls 8 [(4, .long ((dR (sI σ) b0 p0 f0 x) + (((sI σ) 4 x).toInt64))), (7, .int 1), (6, .int (nI x)), (3, .int f0), (2, .int p0), (1, .int b0), (0, .ref (rx μ))] := hl
              refine lv_iinc (k := 2) (v := nI (x + 1)) S.1 S.2.1 d_M_depth_117 hl rfl (nI_1 x) (by decide) rfl (fun ls hl => ?_)
              have hl : lv_has ls 8 [(6, .int (nI (x + 1))), (4, .long ((dR (sI σ) b0 p0 f0 x) + (((sI σ) 4 x).toInt64))), (7, .int 1), (3, .int f0), (2, .int p0), (1, .int b0), (0, .ref (rx μ))] := hl
              refine lv_goto (tgt := 26) S.1 S.2.1 d_M_depth_120 rfl ?_
              have hl := lv_sub hl [0, 1, 3, 4, 5, 6] rfl
              have hX : dR (sI σ) b0 p0 f0 (x + 1) = (dR (sI σ) b0 p0 f0 x) + (((sI σ) 4 x).toInt64) := (dR_t (by rw [onS_t (b2i_n0.mp h48) h59, decide_eq_true h70]; rfl)).trans (by rw [if_pos h92])
              exact ih (x + 1) Mc H locs ls (by omega) hR (by rw [hX]; exact hl) hw
            · refine lv_aload_n S.1 S.2.1 d_M_depth_95 rfl (lv_at hl 6 rfl) ?_
              refine m_get S hw cl_M hR.obj 9 (by decide) g697 (fun _ h => h) rfl d_M_depth_96 ?_
              refine lv_iload S.1 S.2.1 d_M_depth_99 (lv_at hl 1 rfl) ?_
              refine m_rld (o := x) S hw hR 3 (by decide) (by omega) d_M_depth_101 ?_
              refine lv_i2l S.1 S.2.1 d_M_depth_102 rfl ?_
              refine lv_goto (tgt := 114) S.1 S.2.1 d_M_depth_103 rfl ?_
              refine lv_ladd S.1 S.2.1 d_M_depth_114 ?_
              refine lv_lstore S.1 S.2.1 d_M_depth_115 hl (by decide) rfl (fun ls hl => ?_)
              have hl : lv_has ls 8 [(4, .long ((dR (sI σ) b0 p0 f0 x) + (((sI σ) 3 x).toInt64))), (7, .int 1), (6, .int (nI x)), (3, .int f0), (2, .int p0), (1, .int b0), (0, .ref (rx μ))] := hl
              refine lv_iinc (k := 2) (v := nI (x + 1)) S.1 S.2.1 d_M_depth_117 hl rfl (nI_1 x) (by decide) rfl (fun ls hl => ?_)
              have hl : lv_has ls 8 [(6, .int (nI (x + 1))), (4, .long ((dR (sI σ) b0 p0 f0 x) + (((sI σ) 3 x).toInt64))), (7, .int 1), (3, .int f0), (2, .int p0), (1, .int b0), (0, .ref (rx μ))] := hl
              refine lv_goto (tgt := 26) S.1 S.2.1 d_M_depth_120 rfl ?_
              have hl := lv_sub hl [0, 1, 3, 4, 5, 6] rfl
              have hX : dR (sI σ) b0 p0 f0 (x + 1) = (dR (sI σ) b0 p0 f0 x) + (((sI σ) 3 x).toInt64) := (dR_t (by rw [onS_t (b2i_n0.mp h48) h59, decide_eq_true h70]; rfl)).trans (by rw [if_neg h92])
              exact ih (x + 1) Mc H locs ls (by omega) hR (by rw [hX]; exact hl) hw
  have hl := lv_sub hl [0, 1, 5, 4, 3, 2] rfl
  exact loop _ 0 _ _ _ ls (Nat.zero_add _) hR hl hw
