/-! The reference: clear, clearing, open -/
theorem aM_aL (x : Int64) : aM x = aL x := by
  unfold aM aL
  by_cases h : x < 0
  · rw [if_pos h, if_neg (fun z => by have a := Int64.lt_iff_toInt_lt.mp h; have b := Int64.lt_iff_toInt_lt.mp z; omega)]
  · rw [if_neg h]
    by_cases h2 : 0 < x
    · rw [if_pos h2]
    · rw [if_neg h2]
      have e : x = 0 := Int64.le_antisymm (Int64.not_lt.mp h2) (Int64.not_lt.mp h)
      subst e; rfl
theorem aMv_lt {w o : Int64} (h : w < o) : w = aMv w o := by unfold aMv; rw [if_neg (fun z => by have a := Int64.lt_iff_toInt_lt.mp h; have b := Int64.lt_iff_toInt_lt.mp z; omega)]
theorem aMv_ge {w o : Int64} (h : o ≤ w) : o = aMv w o := by
  unfold aMv
  by_cases e : o < w
  · rw [if_pos e]
  · rw [if_neg e]; exact Int64.le_antisymm h (Int64.not_lt.mp e)
section WGH
variable {p rf : Int32} {w o : Int64} {a : AU}
theorem wgh_A (h0 : 0 ≤ a.2.1) (h : a.2.1 < aMv w o) : aWgh p w o rf a = (p, aMv w o, w - o) := by
  refine if_pos ⟨?_, ?_⟩
  · exact Int64.lt_iff_toInt_lt.mpr (by have a1 := Int64.lt_iff_toInt_lt.mp h; have b := Int64.le_iff_toInt_le.mp h0; omega)
  · unfold aBet
    rw [if_neg (fun z => by rw [z] at h; exact absurd h (Int64.lt_irrefl))]
    exact decide_eq_true h
theorem wgh_C (h : ¬ a.2.1 < aMv w o) (h2 : ¬ aMv w o = a.2.1) : aWgh p w o rf a = a := by
  refine if_neg (fun z => ?_)
  have z2 := z.2
  unfold aBet at z2
  rw [if_neg h2] at z2
  exact h (of_decide_eq_true z2)
theorem wgh_D (h : aMv w o ≤ 0) : aWgh p w o rf a = a := if_neg (fun z => by have a1 := Int64.lt_iff_toInt_lt.mp z.1; have b := Int64.le_iff_toInt_le.mp h; omega)
theorem ab_cmp {x y : Int32} (hx : -100000 ≤ x.toInt) (hy : -100000 ≤ y.toInt) : aM x.toInt64 < aM y.toInt64 ↔ aI x < aI y := by
  rw [Int64.lt_iff_toInt_lt, Int32.lt_iff_toInt_lt, aI_int hx, aI_int hy, aM_int (by rw [Int32.toInt_toInt64]; exact hx), aM_int (by rw [Int32.toInt_toInt64]; exact hy), Int32.toInt_toInt64, Int32.toInt_toInt64]
theorem wgh_E1 (hx : -100000 ≤ (p - rf).toInt) (hy : -100000 ≤ (a.1 - rf).toInt) (hm : aMv w o = a.2.1) (h0 : 0 < aMv w o) (hs : aM (w - o) = aM a.2.2) (hp : aM (p - rf).toInt64 < aM (a.1 - rf).toInt64) : aWgh p w o rf a = (p, aMv w o, w - o) := by
  refine if_pos ⟨h0, ?_⟩
  rw [aM_aL, aM_aL] at hs
  unfold aBet
  rw [if_pos hm, if_pos hs]
  exact decide_eq_true ((ab_cmp hx hy).mp hp)
theorem wgh_E2 (hx : -100000 ≤ (p - rf).toInt) (hy : -100000 ≤ (a.1 - rf).toInt) (hm : aMv w o = a.2.1) (hs : aM (w - o) = aM a.2.2) (hp : ¬ aM (p - rf).toInt64 < aM (a.1 - rf).toInt64) : aWgh p w o rf a = a := by
  refine if_neg (fun z => ?_)
  have z2 := z.2
  rw [aM_aL, aM_aL] at hs
  unfold aBet at z2
  rw [if_pos hm, if_pos hs] at z2
  exact hp ((ab_cmp hx hy).mpr (of_decide_eq_true z2))
theorem wgh_E3 (hm : aMv w o = a.2.1) (h0 : 0 < aMv w o) (hs : ¬ aM (w - o) = aM a.2.2) (hp : aM (w - o) < aM a.2.2) : aWgh p w o rf a = (p, aMv w o, w - o) := by
  refine if_pos ⟨h0, ?_⟩
  rw [aM_aL, aM_aL] at hs hp
  unfold aBet
  rw [if_pos hm, if_neg hs]
  exact decide_eq_true hp
theorem wgh_E4 (hm : aMv w o = a.2.1) (hs : ¬ aM (w - o) = aM a.2.2) (hp : ¬ aM (w - o) < aM a.2.2) : aWgh p w o rf a = a := by
  refine if_neg (fun z => ?_)
  have z2 := z.2
  rw [aM_aL, aM_aL] at hs hp
  unfold aBet at z2
  rw [if_pos hm, if_neg hs] at z2
  exact hp (of_decide_eq_true z2)
end WGH
def AUk (a : AU) : Prop := 0 ≤ a.2.1 ∧ -1 ≤ a.1.toInt ∧ a.1.toInt ≤ 2000 ∧ (0 < a.2.1 → 1 ≤ a.1.toInt)
theorem wgh_nn {p rf : Int32} {w o : Int64} {a : AU} (hp : 1 ≤ p.toInt ∧ p.toInt ≤ 2000) (h : AUk a) : AUk (aWgh p w o rf a) := by
  unfold aWgh
  split
  · rename_i z
    exact ⟨Int64.le_of_lt z.1, by show -1 ≤ p.toInt; omega, hp.2, fun _ => hp.1⟩
  · exact h
theorem aAt_nn {I : Co} {K1 K2 : List Nat} {rf : Int32} : ∀ k, k ≤ 2000 → AUk (aAt I K1 K2 rf k) := by
  intro k
  induction k with
  | zero => intro _; exact ⟨(by decide : (0 : Int64) ≤ 0), (by decide : (-1 : Int) ≤ (-1 : Int32).toInt), (by decide : (-1 : Int32).toInt ≤ 2000), fun z => absurd z (by decide : ¬ (0 : Int64) < 0)⟩
  | succ k ih =>
    intro hk
    exact wgh_nn (by rw [nI_toInt (by omega)]; omega) (ih (by omega))
set_option maxHeartbeats 4000000 in
set_option maxRecDepth 100000 in
theorem c_M_clear (l : Launch) (γ : mG) (M : mMap) (μ : RK) (σ : St) (ε : RE) (hR : RM γ M μ σ ε) (L : Nat → List Nat) (hI : Inv0 σ) (hL : LN σ L) (hB : BD σ) : Met l y_M_clear w_M_clear ({ frames := 2, cells := 0, slots := 0, locals := 43 } : Room) (mPc γ M [.ref (rx μ)]) (mQv γ (fun M' => ∃ wf of : Nat → Int64, RQ γ M M' μ σ (ε.1, wf, of, aAt (sI σ) (L 1) (L 2) (srf σ) 2000))) 0 0 (mA (gz γ)) := by
  refine m_enter (by decide) (Nat.le_of_ble_eq_true rfl) ?_
  intro p e s m below meth c ls S hr hlk hnm hl hw
  have hl : lv_has ls 8 [(0, .ref (rx μ))] := hl
  have hR := hR.q
  have hn := hI.1
  have hO := hI.2.1
  refine lv_aload_n S.1 S.2.1 d_M_clear_0 rfl (lv_at hl 0 rfl) ?_
  refine m_cv hw (va_runV (As := []) (rest := []) S (c_M_sumUp l γ M μ σ ε hR.1 hn hO) (m_cwV 0 S g864 g866 g39 g48 g867 rfl rfl ⟨by decide +kernel, by decide +kernel, by decide +kernel⟩ ⟨(Nat.le_of_ble_eq_true rfl), (Nat.le_of_ble_eq_true rfl)⟩) (hw.preV hR.obj cl_M.1) rfl rfl hl.1 rfl (lv_room (Nat.le_of_ble_eq_true rfl)) d_M_clear_1 ⟨(Nat.zero_le _), (Nat.zero_le _)⟩) (fun N1 H locs hp hw => ?_)
  obtain ⟨wf, of, hp, hF⟩ := hp
  have hR := hp.tr hR
  refine lv_aload_n S.1 S.2.1 d_M_clear_4 rfl (lv_at hl 0 rfl) ?_
  refine lv_iconst (v := (-1)) S.1 S.2.1 d_M_clear_5 (by decide) ?_
  refine m_rput (σ' := σ) (ε' := (ε.1, wf, of, (-1), ε.2.2.2.2.1, ε.2.2.2.2.2)) S hw hR 23 (by decide) g711 rfl rfl rfl d_M_clear_6 rfl (fun i hi => rfl) (fun H locs N2 hR hw => ?_)
  refine lv_aload_n S.1 S.2.1 d_M_clear_9 rfl (lv_at hl 0 rfl) ?_
  refine lv_lconst (v := 0) S.1 S.2.1 d_M_clear_10 (by decide) ?_
  refine m_rput (σ' := σ) (ε' := (ε.1, wf, of, (-1), 0, ε.2.2.2.2.2)) S hw hR 24 (by decide) g712 rfl rfl rfl d_M_clear_11 rfl (fun i hi => rfl) (fun H locs N3 hR hw => ?_)
  refine lv_aload_n S.1 S.2.1 d_M_clear_14 rfl (lv_at hl 0 rfl) ?_
  refine lv_lconst (v := 0) S.1 S.2.1 d_M_clear_15 (by decide) ?_
  refine m_rput (σ' := σ) (ε' := (ε.1, wf, of, (-1), 0, 0)) S hw hR 25 (by decide) g713 rfl rfl rfl d_M_clear_16 rfl (fun i hi => rfl) (fun H locs N4 hR hw => ?_)
  refine lv_iconst (v := 1) S.1 S.2.1 d_M_clear_19 (by decide) ?_
  refine lv_istore_n S.1 S.2.1 d_M_clear_20 rfl hl (by decide) rfl (fun ls hl => ?_)
  have hl : lv_has ls 8 [(1, .int 1), (0, .ref (rx μ))] := hl
  have loop : ∀ (d k : Nat) (Mc : mMap) (H : Heap) (locs : List Loc) (ls : Array Slot), k + d = 2000 → RQ γ M Mc μ σ (ε.1, wf, of, aAt (sI σ) (L 1) (L 2) (srf σ) k) → lv_has ls 8 [(1, .int (nI (k + 1))), (0, .ref (rx μ))] → mW γ Mc s H locs → W p l e ({ frames := 2, cells := 0, slots := 0, locals := 43 } : Room) s m #[.ref (rx μ)] below meth c H locs 0 0 (MQ below (mQv γ (fun M' => ∃ wf of : Nat → Int64, RQ γ M M' μ σ (ε.1, wf, of, aAt (sI σ) (L 1) (L 2) (srf σ) 2000))) #[.ref (rx μ)] s 0 0 (mA (gz γ))) (F0 m 21 ls []) := by
    intro d
    induction d with
    | zero =>
      intro k Mc H locs ls hi hR hl hw
      have hi2 : k = 2000 := by omega
      refine lv_iload_n S.1 S.2.1 d_M_clear_21 rfl (lv_at hl 0 rfl) ?_
      refine lv_sipush (v := 2000) S.1 S.2.1 d_M_clear_22 (by decide) ?_
      refine lv_icmp_gt (tgt := 211) S.1 S.2.1 d_M_clear_25 rfl (fun _ => ?_) (fun h => absurd (show nI 2000 < nI (k + 1) from nI_lt (by omega) (by omega)) h)
      exact m_vret S hlk hr hw (⟨wf, of, by rw [← hi2]; exact hR⟩) (Nat.le_refl _) (Nat.le_refl _) d_M_clear_211
    | succ d ih =>
      intro k Mc H locs ls hi hR hl hw
      have hWO := hF (k + 1) (by omega)
      have hnn := aAt_nn (I := sI σ) (K1 := L 1) (K2 := L 2) (rf := srf σ) k (by omega)
      obtain ⟨⟨rf1, rf2⟩, -⟩ := id hB
      obtain ⟨hn1, hn2, hn3, -⟩ := id hnn
      have hx1 : -100000 ≤ (nI (k + 1) - srf σ).toInt := by rw [Int32.toInt_sub, nI_toInt (by omega), Int.bmod_def]; omega
      have hx2 : -100000 ≤ ((aAt (sI σ) (L 1) (L 2) (srf σ) k).1 - srf σ).toInt := by rw [Int32.toInt_sub, Int.bmod_def]; omega
      refine lv_iload_n S.1 S.2.1 d_M_clear_21 rfl (lv_at hl 0 rfl) ?_
      refine lv_sipush (v := 2000) S.1 S.2.1 d_M_clear_22 (by decide) ?_
      refine lv_icmp_gt (tgt := 211) S.1 S.2.1 d_M_clear_25 rfl (fun h => absurd h (show ¬ nI 2000 < nI (k + 1) from nI_nlt (by omega) (by decide))) (fun _ => ?_)
      refine lv_aload_n S.1 S.2.1 d_M_clear_28 rfl (lv_at hl 1 rfl) ?_
      refine m_get S hw cl_M hR.obj 21 (by decide) g709 (fun _ h => h) rfl d_M_clear_29 ?_
      refine lv_iload_n S.1 S.2.1 d_M_clear_32 rfl (lv_at hl 0 rfl) ?_
      refine m_rldW (o := k + 1) S hw hR (by omega) d_M_clear_33 ?_
      refine lv_aload_n S.1 S.2.1 d_M_clear_34 rfl (lv_at hl 1 rfl) ?_
      refine m_get S hw cl_M hR.obj 22 (by decide) g710 (fun _ h => h) rfl d_M_clear_35 ?_
      refine lv_iload_n S.1 S.2.1 d_M_clear_38 rfl (lv_at hl 0 rfl) ?_
      refine m_rldO (o := k + 1) S hw hR (by omega) d_M_clear_39 ?_
      refine W.lcmp S.1 S.2.1 d_M_clear_40 ?_
      refine lv_if_ge (tgt := 53) S.1 S.2.1 d_M_clear_41 rfl (fun h41 => ?_) (fun h41 => ?_)
      · refine lv_aload_n S.1 S.2.1 d_M_clear_53 rfl (lv_at hl 1 rfl) ?_
        refine m_get S hw cl_M hR.obj 22 (by decide) g710 (fun _ h => h) rfl d_M_clear_54 ?_
        refine lv_iload_n S.1 S.2.1 d_M_clear_57 rfl (lv_at hl 0 rfl) ?_
        refine m_rldO (o := k + 1) S hw hR (by omega) d_M_clear_58 ?_
        refine W.eq (g2 := F0 m 59 ls [.long (aMv (wf (k + 1)) (of (k + 1)))]) (congrArg (fun z => F0 m 59 ls [.long z]) (aMv_ge ((lg_cmp_ge _ _).mp h41))) ?_
        refine lv_lstore_n S.1 S.2.1 d_M_clear_59 rfl hl (by decide) rfl (fun ls hl => ?_)
        have hl : lv_has ls 8 [(2, .long (aMv (wf (k + 1)) (of (k + 1)))), (1, .int (nI (k + 1))), (0, .ref (rx μ))] := hl
        refine lv_aload_n S.1 S.2.1 d_M_clear_60 rfl (lv_at hl 2 rfl) ?_
        refine m_get S hw cl_M hR.obj 21 (by decide) g709 (fun _ h => h) rfl d_M_clear_61 ?_
        refine lv_iload_n S.1 S.2.1 d_M_clear_64 rfl (lv_at hl 1 rfl) ?_
        refine m_rldW (o := k + 1) S hw hR (by omega) d_M_clear_65 ?_
        refine lv_aload_n S.1 S.2.1 d_M_clear_66 rfl (lv_at hl 2 rfl) ?_
        refine m_get S hw cl_M hR.obj 22 (by decide) g710 (fun _ h => h) rfl d_M_clear_67 ?_
        refine lv_iload_n S.1 S.2.1 d_M_clear_70 rfl (lv_at hl 1 rfl) ?_
        refine m_rldO (o := k + 1) S hw hR (by omega) d_M_clear_71 ?_
        refine lv_lsub S.1 S.2.1 d_M_clear_72 ?_
        refine lv_lstore S.1 S.2.1 d_M_clear_73 hl (by decide) rfl (fun ls hl => ?_)
        have hl : lv_has ls 8 [(4, .long ((wf (k + 1)) - (of (k + 1)))), (2, .long (aMv (wf (k + 1)) (of (k + 1)))), (1, .int (nI (k + 1))), (0, .ref (rx μ))] := hl
        refine lv_lload_n S.1 S.2.1 d_M_clear_75 rfl (lv_at hl 1 rfl) ?_
        refine lv_aload_n S.1 S.2.1 d_M_clear_76 rfl (lv_at hl 3 rfl) ?_
        refine m_get S hw cl_M hR.obj 24 (by decide) g712 (fun _ h => h) rfl d_M_clear_77 ?_
        refine W.lcmp S.1 S.2.1 d_M_clear_80 ?_
        refine lv_if_le (tgt := 88) S.1 S.2.1 d_M_clear_81 rfl (fun h81 => ?_) (fun h81 => ?_)
        · refine lv_iconst (v := 0) S.1 S.2.1 d_M_clear_88 (by decide) ?_
          refine lv_istore S.1 S.2.1 d_M_clear_89 hl (by decide) rfl (fun ls hl => ?_)
          have hl : lv_has ls 8 [(6, .int 0), (4, .long ((wf (k + 1)) - (of (k + 1)))), (2, .long (aMv (wf (k + 1)) (of (k + 1)))), (1, .int (nI (k + 1))), (0, .ref (rx μ))] := hl
          refine lv_lload_n S.1 S.2.1 d_M_clear_91 rfl (lv_at hl 2 rfl) ?_
          refine lv_aload_n S.1 S.2.1 d_M_clear_92 rfl (lv_at hl 4 rfl) ?_
          refine m_get S hw cl_M hR.obj 24 (by decide) g712 (fun _ h => h) rfl d_M_clear_93 ?_
          refine W.lcmp S.1 S.2.1 d_M_clear_96 ?_
          refine lv_if_ne (tgt := 184) S.1 S.2.1 d_M_clear_97 rfl (fun h97 => ?_) (fun h97 => ?_)
          · refine lv_iload S.1 S.2.1 d_M_clear_184 (lv_at hl 0 rfl) ?_
            refine lv_if_eq (tgt := 205) S.1 S.2.1 d_M_clear_186 rfl (fun _ => ?_) (fun h => absurd (show (0 : Int32) = 0 by decide) h)
            refine lv_iinc (k := 3) (v := nI (k + 1 + 1)) S.1 S.2.1 d_M_clear_205 hl rfl (nI_1 (k + 1)) (by decide) rfl (fun ls hl => ?_)
            have hl : lv_has ls 8 [(1, .int (nI (k + 1 + 1))), (6, .int 0), (4, .long ((wf (k + 1)) - (of (k + 1)))), (2, .long (aMv (wf (k + 1)) (of (k + 1)))), (0, .ref (rx μ))] := hl
            refine lv_goto (tgt := 21) S.1 S.2.1 d_M_clear_208 rfl ?_
            have hl := lv_sub hl [0, 4] rfl
            have hX : aAt (sI σ) (L 1) (L 2) (srf σ) (k + 1) = aAt (sI σ) (L 1) (L 2) (srf σ) k := by show aWgh (nI (k + 1)) _ _ _ _ = _; rw [← WT_line hO hL.1 (by omega), ← OT_line hO hL.2 (by omega), ← hWO.1, ← hWO.2]; exact wgh_C (fun z => absurd ((lg_cmp_le _ _).mp h81) (Int64.not_le.mpr z)) (fun z => h97 ((lg_cmp_eq _ _).mpr z))
            exact ih (k + 1) Mc H locs ls (by omega) (by rw [hX]; exact hR) hl hw
          · refine lv_lload_n S.1 S.2.1 d_M_clear_100 rfl (lv_at hl 2 rfl) ?_
            refine lv_lconst (v := 0) S.1 S.2.1 d_M_clear_101 (by decide) ?_
            refine W.lcmp S.1 S.2.1 d_M_clear_102 ?_
            refine lv_if_le (tgt := 184) S.1 S.2.1 d_M_clear_103 rfl (fun h103 => ?_) (fun h103 => ?_)
            · refine lv_iload S.1 S.2.1 d_M_clear_184 (lv_at hl 0 rfl) ?_
              refine lv_if_eq (tgt := 205) S.1 S.2.1 d_M_clear_186 rfl (fun _ => ?_) (fun h => absurd (show (0 : Int32) = 0 by decide) h)
              refine lv_iinc (k := 3) (v := nI (k + 1 + 1)) S.1 S.2.1 d_M_clear_205 hl rfl (nI_1 (k + 1)) (by decide) rfl (fun ls hl => ?_)
              have hl : lv_has ls 8 [(1, .int (nI (k + 1 + 1))), (6, .int 0), (4, .long ((wf (k + 1)) - (of (k + 1)))), (2, .long (aMv (wf (k + 1)) (of (k + 1)))), (0, .ref (rx μ))] := hl
              refine lv_goto (tgt := 21) S.1 S.2.1 d_M_clear_208 rfl ?_
              have hl := lv_sub hl [0, 4] rfl
              have hX : aAt (sI σ) (L 1) (L 2) (srf σ) (k + 1) = aAt (sI σ) (L 1) (L 2) (srf σ) k := by show aWgh (nI (k + 1)) _ _ _ _ = _; rw [← WT_line hO hL.1 (by omega), ← OT_line hO hL.2 (by omega), ← hWO.1, ← hWO.2]; exact wgh_D ((lg_cmp_le _ _).mp h103)
              exact ih (k + 1) Mc H locs ls (by omega) (by rw [hX]; exact hR) hl hw
            · refine lv_lload S.1 S.2.1 d_M_clear_106 (lv_at hl 1 rfl) ?_
              refine m_cl hw (va_runS (As := [.long ((wf (k + 1)) - (of (k + 1)))]) (rest := []) S (c_M_abs l γ Mc ((wf (k + 1)) - (of (k + 1)))) (m_cwS 1 S g809 g810 g48 g811 rfl rfl ⟨by decide +kernel, by decide +kernel, by decide +kernel⟩ ⟨(Nat.le_of_ble_eq_true rfl), (Nat.le_of_ble_eq_true rfl)⟩) hw.preS rfl rfl hl.1 rfl (lv_room (Nat.le_of_ble_eq_true rfl)) d_M_clear_108 ⟨(Nat.zero_le _), (Nat.zero_le _)⟩) (fun r1 M1 H locs hp hw => ?_)
              obtain ⟨rfl, hM1⟩ := hp
              rw [hM1] at hw
              refine lv_aload_n S.1 S.2.1 d_M_clear_111 rfl (lv_at hl 4 rfl) ?_
              refine m_get S hw cl_M hR.obj 25 (by decide) g713 (fun _ h => h) rfl d_M_clear_112 ?_
              refine m_cl hw (va_runS (As := [.long ((aAt (sI σ) (L 1) (L 2) (srf σ) k).2.2)]) (rest := [.long (aM ((wf (k + 1)) - (of (k + 1))))]) S (c_M_abs l γ Mc ((aAt (sI σ) (L 1) (L 2) (srf σ) k).2.2)) (m_cwS 1 S g809 g810 g48 g811 rfl rfl ⟨by decide +kernel, by decide +kernel, by decide +kernel⟩ ⟨(Nat.le_of_ble_eq_true rfl), (Nat.le_of_ble_eq_true rfl)⟩) hw.preS rfl rfl hl.1 rfl (lv_room (Nat.le_of_ble_eq_true rfl)) d_M_clear_115 ⟨(Nat.zero_le _), (Nat.zero_le _)⟩) (fun r1 M1 H locs hp hw => ?_)
              obtain ⟨rfl, hM1⟩ := hp
              rw [hM1] at hw
              refine W.lcmp S.1 S.2.1 d_M_clear_118 ?_
              refine lv_if_ne (tgt := 126) S.1 S.2.1 d_M_clear_119 rfl (fun h119 => ?_) (fun h119 => ?_)
              · refine lv_iconst (v := 0) S.1 S.2.1 d_M_clear_126 (by decide) ?_
                refine lv_istore S.1 S.2.1 d_M_clear_127 hl (by decide) rfl (fun ls hl => ?_)
                have hl : lv_has ls 8 [(7, .int 0), (6, .int 0), (4, .long ((wf (k + 1)) - (of (k + 1)))), (2, .long (aMv (wf (k + 1)) (of (k + 1)))), (1, .int (nI (k + 1))), (0, .ref (rx μ))] := hl
                refine lv_lload S.1 S.2.1 d_M_clear_129 (lv_at hl 2 rfl) ?_
                refine m_cl hw (va_runS (As := [.long ((wf (k + 1)) - (of (k + 1)))]) (rest := []) S (c_M_abs l γ Mc ((wf (k + 1)) - (of (k + 1)))) (m_cwS 1 S g809 g810 g48 g811 rfl rfl ⟨by decide +kernel, by decide +kernel, by decide +kernel⟩ ⟨(Nat.le_of_ble_eq_true rfl), (Nat.le_of_ble_eq_true rfl)⟩) hw.preS rfl rfl hl.1 rfl (lv_room (Nat.le_of_ble_eq_true rfl)) d_M_clear_131 ⟨(Nat.zero_le _), (Nat.zero_le _)⟩) (fun r1 M1 H locs hp hw => ?_)
                obtain ⟨rfl, hM1⟩ := hp
                rw [hM1] at hw
                refine lv_aload_n S.1 S.2.1 d_M_clear_134 rfl (lv_at hl 5 rfl) ?_
                refine m_get S hw cl_M hR.obj 25 (by decide) g713 (fun _ h => h) rfl d_M_clear_135 ?_
                refine m_cl hw (va_runS (As := [.long ((aAt (sI σ) (L 1) (L 2) (srf σ) k).2.2)]) (rest := [.long (aM ((wf (k + 1)) - (of (k + 1))))]) S (c_M_abs l γ Mc ((aAt (sI σ) (L 1) (L 2) (srf σ) k).2.2)) (m_cwS 1 S g809 g810 g48 g811 rfl rfl ⟨by decide +kernel, by decide +kernel, by decide +kernel⟩ ⟨(Nat.le_of_ble_eq_true rfl), (Nat.le_of_ble_eq_true rfl)⟩) hw.preS rfl rfl hl.1 rfl (lv_room (Nat.le_of_ble_eq_true rfl)) d_M_clear_138 ⟨(Nat.zero_le _), (Nat.zero_le _)⟩) (fun r1 M1 H locs hp hw => ?_)
                obtain ⟨rfl, hM1⟩ := hp
                rw [hM1] at hw
                refine W.lcmp S.1 S.2.1 d_M_clear_141 ?_
                refine lv_if_lt (tgt := 177) S.1 S.2.1 d_M_clear_142 rfl (fun h142 => ?_) (fun h142 => ?_)
                · refine lv_iconst (v := 1) S.1 S.2.1 d_M_clear_177 (by decide) ?_
                  refine lv_goto (tgt := 182) S.1 S.2.1 d_M_clear_178 rfl ?_
                  refine lv_istore S.1 S.2.1 d_M_clear_182 hl (by decide) rfl (fun ls hl => ?_)
                  have hl : lv_has ls 8 [(6, .int 1), (7, .int 0), (4, .long ((wf (k + 1)) - (of (k + 1)))), (2, .long (aMv (wf (k + 1)) (of (k + 1)))), (1, .int (nI (k + 1))), (0, .ref (rx μ))] := hl
                  refine lv_iload S.1 S.2.1 d_M_clear_184 (lv_at hl 0 rfl) ?_
                  refine lv_if_eq (tgt := 205) S.1 S.2.1 d_M_clear_186 rfl (fun h => absurd h (show ¬ (1 : Int32) = 0 by decide)) (fun _ => ?_)
                  refine lv_aload_n S.1 S.2.1 d_M_clear_189 rfl (lv_at hl 5 rfl) ?_
                  refine lv_iload_n S.1 S.2.1 d_M_clear_190 rfl (lv_at hl 4 rfl) ?_
                  refine m_rput (σ' := σ) (ε' := (ε.1, wf, of, nI (k + 1), (aAt (sI σ) (L 1) (L 2) (srf σ) k).2.1, (aAt (sI σ) (L 1) (L 2) (srf σ) k).2.2)) S hw hR 23 (by decide) g711 rfl rfl rfl d_M_clear_191 rfl (fun i hi => rfl) (fun H locs N5 hR hw => ?_)
                  refine lv_aload_n S.1 S.2.1 d_M_clear_194 rfl (lv_at hl 5 rfl) ?_
                  refine lv_lload_n S.1 S.2.1 d_M_clear_195 rfl (lv_at hl 3 rfl) ?_
                  refine m_rput (σ' := σ) (ε' := (ε.1, wf, of, nI (k + 1), aMv (wf (k + 1)) (of (k + 1)), (aAt (sI σ) (L 1) (L 2) (srf σ) k).2.2)) S hw hR 24 (by decide) g712 rfl rfl rfl d_M_clear_196 rfl (fun i hi => rfl) (fun H locs N6 hR hw => ?_)
                  refine lv_aload_n S.1 S.2.1 d_M_clear_199 rfl (lv_at hl 5 rfl) ?_
                  refine lv_lload S.1 S.2.1 d_M_clear_200 (lv_at hl 2 rfl) ?_
                  refine m_rput (σ' := σ) (ε' := (ε.1, wf, of, nI (k + 1), aMv (wf (k + 1)) (of (k + 1)), (wf (k + 1)) - (of (k + 1)))) S hw hR 25 (by decide) g713 rfl rfl rfl d_M_clear_202 rfl (fun i hi => rfl) (fun H locs N7 hR hw => ?_)
                  refine lv_iinc (k := 4) (v := nI (k + 1 + 1)) S.1 S.2.1 d_M_clear_205 hl rfl (nI_1 (k + 1)) (by decide) rfl (fun ls hl => ?_)
                  have hl : lv_has ls 8 [(1, .int (nI (k + 1 + 1))), (6, .int 1), (7, .int 0), (4, .long ((wf (k + 1)) - (of (k + 1)))), (2, .long (aMv (wf (k + 1)) (of (k + 1)))), (0, .ref (rx μ))] := hl
                  refine lv_goto (tgt := 21) S.1 S.2.1 d_M_clear_208 rfl ?_
                  have hl := lv_sub hl [0, 5] rfl
                  have hX : aAt (sI σ) (L 1) (L 2) (srf σ) (k + 1) = (nI (k + 1), aMv (wf (k + 1)) (of (k + 1)), wf (k + 1) - of (k + 1)) := by show aWgh (nI (k + 1)) _ _ _ _ = _; rw [← WT_line hO hL.1 (by omega), ← OT_line hO hL.2 (by omega), ← hWO.1, ← hWO.2]; exact wgh_E3 ((lg_cmp_eq _ _).mp h97) (Int64.not_le.mp (fun z => h103 ((lg_cmp_le _ _).mpr z))) (fun z => h119 ((lg_cmp_eq _ _).mpr z)) ((lg_cmp_lt _ _).mp h142)
                  exact ih (k + 1) N7 H locs ls (by omega) (by rw [hX]; exact hR) hl hw
                · refine lv_iload S.1 S.2.1 d_M_clear_145 (lv_at hl 0 rfl) ?_
                  refine lv_if_eq (tgt := 181) S.1 S.2.1 d_M_clear_147 rfl (fun _ => ?_) (fun h => absurd (show (0 : Int32) = 0 by decide) h)
                  refine lv_iconst (v := 0) S.1 S.2.1 d_M_clear_181 (by decide) ?_
                  refine lv_istore S.1 S.2.1 d_M_clear_182 hl (by decide) rfl (fun ls hl => ?_)
                  have hl : lv_has ls 8 [(6, .int 0), (7, .int 0), (4, .long ((wf (k + 1)) - (of (k + 1)))), (2, .long (aMv (wf (k + 1)) (of (k + 1)))), (1, .int (nI (k + 1))), (0, .ref (rx μ))] := hl
                  refine lv_iload S.1 S.2.1 d_M_clear_184 (lv_at hl 0 rfl) ?_
                  refine lv_if_eq (tgt := 205) S.1 S.2.1 d_M_clear_186 rfl (fun _ => ?_) (fun h => absurd (show (0 : Int32) = 0 by decide) h)
                  refine lv_iinc (k := 4) (v := nI (k + 1 + 1)) S.1 S.2.1 d_M_clear_205 hl rfl (nI_1 (k + 1)) (by decide) rfl (fun ls hl => ?_)
                  have hl : lv_has ls 8 [(1, .int (nI (k + 1 + 1))), (6, .int 0), (7, .int 0), (4, .long ((wf (k + 1)) - (of (k + 1)))), (2, .long (aMv (wf (k + 1)) (of (k + 1)))), (0, .ref (rx μ))] := hl
                  refine lv_goto (tgt := 21) S.1 S.2.1 d_M_clear_208 rfl ?_
                  have hl := lv_sub hl [0, 5] rfl
                  have hX : aAt (sI σ) (L 1) (L 2) (srf σ) (k + 1) = aAt (sI σ) (L 1) (L 2) (srf σ) k := by show aWgh (nI (k + 1)) _ _ _ _ = _; rw [← WT_line hO hL.1 (by omega), ← OT_line hO hL.2 (by omega), ← hWO.1, ← hWO.2]; exact wgh_E4 ((lg_cmp_eq _ _).mp h97) (fun z => h119 ((lg_cmp_eq _ _).mpr z)) (fun z => h142 ((lg_cmp_lt _ _).mpr z))
                  exact ih (k + 1) Mc H locs ls (by omega) (by rw [hX]; exact hR) hl hw
              · refine lv_iconst (v := 1) S.1 S.2.1 d_M_clear_122 (by decide) ?_
                refine lv_goto (tgt := 127) S.1 S.2.1 d_M_clear_123 rfl ?_
                refine lv_istore S.1 S.2.1 d_M_clear_127 hl (by decide) rfl (fun ls hl => ?_)
                have hl : lv_has ls 8 [(7, .int 1), (6, .int 0), (4, .long ((wf (k + 1)) - (of (k + 1)))), (2, .long (aMv (wf (k + 1)) (of (k + 1)))), (1, .int (nI (k + 1))), (0, .ref (rx μ))] := hl
                refine lv_lload S.1 S.2.1 d_M_clear_129 (lv_at hl 2 rfl) ?_
                refine m_cl hw (va_runS (As := [.long ((wf (k + 1)) - (of (k + 1)))]) (rest := []) S (c_M_abs l γ Mc ((wf (k + 1)) - (of (k + 1)))) (m_cwS 1 S g809 g810 g48 g811 rfl rfl ⟨by decide +kernel, by decide +kernel, by decide +kernel⟩ ⟨(Nat.le_of_ble_eq_true rfl), (Nat.le_of_ble_eq_true rfl)⟩) hw.preS rfl rfl hl.1 rfl (lv_room (Nat.le_of_ble_eq_true rfl)) d_M_clear_131 ⟨(Nat.zero_le _), (Nat.zero_le _)⟩) (fun r1 M1 H locs hp hw => ?_)
                obtain ⟨rfl, hM1⟩ := hp
                rw [hM1] at hw
                refine lv_aload_n S.1 S.2.1 d_M_clear_134 rfl (lv_at hl 5 rfl) ?_
                refine m_get S hw cl_M hR.obj 25 (by decide) g713 (fun _ h => h) rfl d_M_clear_135 ?_
                refine m_cl hw (va_runS (As := [.long ((aAt (sI σ) (L 1) (L 2) (srf σ) k).2.2)]) (rest := [.long (aM ((wf (k + 1)) - (of (k + 1))))]) S (c_M_abs l γ Mc ((aAt (sI σ) (L 1) (L 2) (srf σ) k).2.2)) (m_cwS 1 S g809 g810 g48 g811 rfl rfl ⟨by decide +kernel, by decide +kernel, by decide +kernel⟩ ⟨(Nat.le_of_ble_eq_true rfl), (Nat.le_of_ble_eq_true rfl)⟩) hw.preS rfl rfl hl.1 rfl (lv_room (Nat.le_of_ble_eq_true rfl)) d_M_clear_138 ⟨(Nat.zero_le _), (Nat.zero_le _)⟩) (fun r1 M1 H locs hp hw => ?_)
                obtain ⟨rfl, hM1⟩ := hp
                rw [hM1] at hw
                refine W.lcmp S.1 S.2.1 d_M_clear_141 ?_
                refine lv_if_lt (tgt := 177) S.1 S.2.1 d_M_clear_142 rfl (fun h142 => ?_) (fun h142 => ?_)
                · refine lv_iconst (v := 1) S.1 S.2.1 d_M_clear_177 (by decide) ?_
                  refine lv_goto (tgt := 182) S.1 S.2.1 d_M_clear_178 rfl ?_
                  refine lv_istore S.1 S.2.1 d_M_clear_182 hl (by decide) rfl (fun ls hl => ?_)
                  have hl : lv_has ls 8 [(6, .int 1), (7, .int 1), (4, .long ((wf (k + 1)) - (of (k + 1)))), (2, .long (aMv (wf (k + 1)) (of (k + 1)))), (1, .int (nI (k + 1))), (0, .ref (rx μ))] := hl
                  refine lv_iload S.1 S.2.1 d_M_clear_184 (lv_at hl 0 rfl) ?_
                  refine lv_if_eq (tgt := 205) S.1 S.2.1 d_M_clear_186 rfl (fun h => absurd h (show ¬ (1 : Int32) = 0 by decide)) (fun _ => ?_)
                  refine lv_aload_n S.1 S.2.1 d_M_clear_189 rfl (lv_at hl 5 rfl) ?_
                  refine lv_iload_n S.1 S.2.1 d_M_clear_190 rfl (lv_at hl 4 rfl) ?_
                  refine m_rput (σ' := σ) (ε' := (ε.1, wf, of, nI (k + 1), (aAt (sI σ) (L 1) (L 2) (srf σ) k).2.1, (aAt (sI σ) (L 1) (L 2) (srf σ) k).2.2)) S hw hR 23 (by decide) g711 rfl rfl rfl d_M_clear_191 rfl (fun i hi => rfl) (fun H locs N8 hR hw => ?_)
                  refine lv_aload_n S.1 S.2.1 d_M_clear_194 rfl (lv_at hl 5 rfl) ?_
                  refine lv_lload_n S.1 S.2.1 d_M_clear_195 rfl (lv_at hl 3 rfl) ?_
                  refine m_rput (σ' := σ) (ε' := (ε.1, wf, of, nI (k + 1), aMv (wf (k + 1)) (of (k + 1)), (aAt (sI σ) (L 1) (L 2) (srf σ) k).2.2)) S hw hR 24 (by decide) g712 rfl rfl rfl d_M_clear_196 rfl (fun i hi => rfl) (fun H locs N9 hR hw => ?_)
                  refine lv_aload_n S.1 S.2.1 d_M_clear_199 rfl (lv_at hl 5 rfl) ?_
                  refine lv_lload S.1 S.2.1 d_M_clear_200 (lv_at hl 2 rfl) ?_
                  refine m_rput (σ' := σ) (ε' := (ε.1, wf, of, nI (k + 1), aMv (wf (k + 1)) (of (k + 1)), (wf (k + 1)) - (of (k + 1)))) S hw hR 25 (by decide) g713 rfl rfl rfl d_M_clear_202 rfl (fun i hi => rfl) (fun H locs N10 hR hw => ?_)
                  refine lv_iinc (k := 4) (v := nI (k + 1 + 1)) S.1 S.2.1 d_M_clear_205 hl rfl (nI_1 (k + 1)) (by decide) rfl (fun ls hl => ?_)
                  have hl : lv_has ls 8 [(1, .int (nI (k + 1 + 1))), (6, .int 1), (7, .int 1), (4, .long ((wf (k + 1)) - (of (k + 1)))), (2, .long (aMv (wf (k + 1)) (of (k + 1)))), (0, .ref (rx μ))] := hl
                  refine lv_goto (tgt := 21) S.1 S.2.1 d_M_clear_208 rfl ?_
                  have hl := lv_sub hl [0, 5] rfl
                  exact absurd ((lg_cmp_lt _ _).mp h142) (by rw [((lg_cmp_eq _ _).mp h119)]; exact Int64.lt_irrefl)
                · refine lv_iload S.1 S.2.1 d_M_clear_145 (lv_at hl 0 rfl) ?_
                  refine lv_if_eq (tgt := 181) S.1 S.2.1 d_M_clear_147 rfl (fun h => absurd h (show ¬ (1 : Int32) = 0 by decide)) (fun _ => ?_)
                  refine lv_iload_n S.1 S.2.1 d_M_clear_150 rfl (lv_at hl 4 rfl) ?_
                  refine lv_aload_n S.1 S.2.1 d_M_clear_151 rfl (lv_at hl 5 rfl) ?_
                  refine m_get S hw cl_M hR.obj 2 (by decide) g690 (fun _ h => h) rfl d_M_clear_152 ?_
                  refine lv_isub S.1 S.2.1 d_M_clear_155 ?_
                  refine lv_i2l S.1 S.2.1 d_M_clear_156 rfl ?_
                  refine m_cl hw (va_runS (As := [.long (((nI (k + 1)) - (srf σ)).toInt64)]) (rest := []) S (c_M_abs l γ Mc (((nI (k + 1)) - (srf σ)).toInt64)) (m_cwS 1 S g809 g810 g48 g811 rfl rfl ⟨by decide +kernel, by decide +kernel, by decide +kernel⟩ ⟨(Nat.le_of_ble_eq_true rfl), (Nat.le_of_ble_eq_true rfl)⟩) hw.preS rfl rfl hl.1 rfl (lv_room (Nat.le_of_ble_eq_true rfl)) d_M_clear_157 ⟨(Nat.zero_le _), (Nat.zero_le _)⟩) (fun r1 M1 H locs hp hw => ?_)
                  obtain ⟨rfl, hM1⟩ := hp
                  rw [hM1] at hw
                  refine lv_aload_n S.1 S.2.1 d_M_clear_160 rfl (lv_at hl 5 rfl) ?_
                  refine m_get S hw cl_M hR.obj 23 (by decide) g711 (fun _ h => h) rfl d_M_clear_161 ?_
                  refine lv_aload_n S.1 S.2.1 d_M_clear_164 rfl (lv_at hl 5 rfl) ?_
                  refine m_get S hw cl_M hR.obj 2 (by decide) g690 (fun _ h => h) rfl d_M_clear_165 ?_
                  refine lv_isub S.1 S.2.1 d_M_clear_168 ?_
                  refine lv_i2l S.1 S.2.1 d_M_clear_169 rfl ?_
                  refine m_cl hw (va_runS (As := [.long ((((aAt (sI σ) (L 1) (L 2) (srf σ) k).1) - (srf σ)).toInt64)]) (rest := [.long (aM (((nI (k + 1)) - (srf σ)).toInt64))]) S (c_M_abs l γ Mc ((((aAt (sI σ) (L 1) (L 2) (srf σ) k).1) - (srf σ)).toInt64)) (m_cwS 1 S g809 g810 g48 g811 rfl rfl ⟨by decide +kernel, by decide +kernel, by decide +kernel⟩ ⟨(Nat.le_of_ble_eq_true rfl), (Nat.le_of_ble_eq_true rfl)⟩) hw.preS rfl rfl hl.1 rfl (lv_room (Nat.le_of_ble_eq_true rfl)) d_M_clear_170 ⟨(Nat.zero_le _), (Nat.zero_le _)⟩) (fun r1 M1 H locs hp hw => ?_)
                  obtain ⟨rfl, hM1⟩ := hp
                  rw [hM1] at hw
                  refine W.lcmp S.1 S.2.1 d_M_clear_173 ?_
                  refine lv_if_ge (tgt := 181) S.1 S.2.1 d_M_clear_174 rfl (fun h174 => ?_) (fun h174 => ?_)
                  · refine lv_iconst (v := 0) S.1 S.2.1 d_M_clear_181 (by decide) ?_
                    refine lv_istore S.1 S.2.1 d_M_clear_182 hl (by decide) rfl (fun ls hl => ?_)
                    have hl : lv_has ls 8 [(6, .int 0), (7, .int 1), (4, .long ((wf (k + 1)) - (of (k + 1)))), (2, .long (aMv (wf (k + 1)) (of (k + 1)))), (1, .int (nI (k + 1))), (0, .ref (rx μ))] := hl
                    refine lv_iload S.1 S.2.1 d_M_clear_184 (lv_at hl 0 rfl) ?_
                    refine lv_if_eq (tgt := 205) S.1 S.2.1 d_M_clear_186 rfl (fun _ => ?_) (fun h => absurd (show (0 : Int32) = 0 by decide) h)
                    refine lv_iinc (k := 4) (v := nI (k + 1 + 1)) S.1 S.2.1 d_M_clear_205 hl rfl (nI_1 (k + 1)) (by decide) rfl (fun ls hl => ?_)
                    have hl : lv_has ls 8 [(1, .int (nI (k + 1 + 1))), (6, .int 0), (7, .int 1), (4, .long ((wf (k + 1)) - (of (k + 1)))), (2, .long (aMv (wf (k + 1)) (of (k + 1)))), (0, .ref (rx μ))] := hl
                    refine lv_goto (tgt := 21) S.1 S.2.1 d_M_clear_208 rfl ?_
                    have hl := lv_sub hl [0, 5] rfl
                    have hX : aAt (sI σ) (L 1) (L 2) (srf σ) (k + 1) = aAt (sI σ) (L 1) (L 2) (srf σ) k := by show aWgh (nI (k + 1)) _ _ _ _ = _; rw [← WT_line hO hL.1 (by omega), ← OT_line hO hL.2 (by omega), ← hWO.1, ← hWO.2]; exact wgh_E2 hx1 hx2 ((lg_cmp_eq _ _).mp h97) ((lg_cmp_eq _ _).mp h119) (fun z => absurd ((lg_cmp_ge _ _).mp h174) (Int64.not_le.mpr z))
                    exact ih (k + 1) Mc H locs ls (by omega) (by rw [hX]; exact hR) hl hw
                  · refine lv_iconst (v := 1) S.1 S.2.1 d_M_clear_177 (by decide) ?_
                    refine lv_goto (tgt := 182) S.1 S.2.1 d_M_clear_178 rfl ?_
                    refine lv_istore S.1 S.2.1 d_M_clear_182 hl (by decide) rfl (fun ls hl => ?_)
                    have hl : lv_has ls 8 [(6, .int 1), (7, .int 1), (4, .long ((wf (k + 1)) - (of (k + 1)))), (2, .long (aMv (wf (k + 1)) (of (k + 1)))), (1, .int (nI (k + 1))), (0, .ref (rx μ))] := hl
                    refine lv_iload S.1 S.2.1 d_M_clear_184 (lv_at hl 0 rfl) ?_
                    refine lv_if_eq (tgt := 205) S.1 S.2.1 d_M_clear_186 rfl (fun h => absurd h (show ¬ (1 : Int32) = 0 by decide)) (fun _ => ?_)
                    refine lv_aload_n S.1 S.2.1 d_M_clear_189 rfl (lv_at hl 5 rfl) ?_
                    refine lv_iload_n S.1 S.2.1 d_M_clear_190 rfl (lv_at hl 4 rfl) ?_
                    refine m_rput (σ' := σ) (ε' := (ε.1, wf, of, nI (k + 1), (aAt (sI σ) (L 1) (L 2) (srf σ) k).2.1, (aAt (sI σ) (L 1) (L 2) (srf σ) k).2.2)) S hw hR 23 (by decide) g711 rfl rfl rfl d_M_clear_191 rfl (fun i hi => rfl) (fun H locs N11 hR hw => ?_)
                    refine lv_aload_n S.1 S.2.1 d_M_clear_194 rfl (lv_at hl 5 rfl) ?_
                    refine lv_lload_n S.1 S.2.1 d_M_clear_195 rfl (lv_at hl 3 rfl) ?_
                    refine m_rput (σ' := σ) (ε' := (ε.1, wf, of, nI (k + 1), aMv (wf (k + 1)) (of (k + 1)), (aAt (sI σ) (L 1) (L 2) (srf σ) k).2.2)) S hw hR 24 (by decide) g712 rfl rfl rfl d_M_clear_196 rfl (fun i hi => rfl) (fun H locs N12 hR hw => ?_)
                    refine lv_aload_n S.1 S.2.1 d_M_clear_199 rfl (lv_at hl 5 rfl) ?_
                    refine lv_lload S.1 S.2.1 d_M_clear_200 (lv_at hl 2 rfl) ?_
                    refine m_rput (σ' := σ) (ε' := (ε.1, wf, of, nI (k + 1), aMv (wf (k + 1)) (of (k + 1)), (wf (k + 1)) - (of (k + 1)))) S hw hR 25 (by decide) g713 rfl rfl rfl d_M_clear_202 rfl (fun i hi => rfl) (fun H locs N13 hR hw => ?_)
                    refine lv_iinc (k := 4) (v := nI (k + 1 + 1)) S.1 S.2.1 d_M_clear_205 hl rfl (nI_1 (k + 1)) (by decide) rfl (fun ls hl => ?_)
                    have hl : lv_has ls 8 [(1, .int (nI (k + 1 + 1))), (6, .int 1), (7, .int 1), (4, .long ((wf (k + 1)) - (of (k + 1)))), (2, .long (aMv (wf (k + 1)) (of (k + 1)))), (0, .ref (rx μ))] := hl
                    refine lv_goto (tgt := 21) S.1 S.2.1 d_M_clear_208 rfl ?_
                    have hl := lv_sub hl [0, 5] rfl
                    have hX : aAt (sI σ) (L 1) (L 2) (srf σ) (k + 1) = (nI (k + 1), aMv (wf (k + 1)) (of (k + 1)), wf (k + 1) - of (k + 1)) := by show aWgh (nI (k + 1)) _ _ _ _ = _; rw [← WT_line hO hL.1 (by omega), ← OT_line hO hL.2 (by omega), ← hWO.1, ← hWO.2]; exact wgh_E1 hx1 hx2 ((lg_cmp_eq _ _).mp h97) (Int64.not_le.mp (fun z => h103 ((lg_cmp_le _ _).mpr z))) ((lg_cmp_eq _ _).mp h119) (Int64.not_le.mp (fun z => h174 ((lg_cmp_ge _ _).mpr z)))
                    exact ih (k + 1) N13 H locs ls (by omega) (by rw [hX]; exact hR) hl hw
        · refine lv_iconst (v := 1) S.1 S.2.1 d_M_clear_84 (by decide) ?_
          refine lv_goto (tgt := 89) S.1 S.2.1 d_M_clear_85 rfl ?_
          refine lv_istore S.1 S.2.1 d_M_clear_89 hl (by decide) rfl (fun ls hl => ?_)
          have hl : lv_has ls 8 [(6, .int 1), (4, .long ((wf (k + 1)) - (of (k + 1)))), (2, .long (aMv (wf (k + 1)) (of (k + 1)))), (1, .int (nI (k + 1))), (0, .ref (rx μ))] := hl
          refine lv_lload_n S.1 S.2.1 d_M_clear_91 rfl (lv_at hl 2 rfl) ?_
          refine lv_aload_n S.1 S.2.1 d_M_clear_92 rfl (lv_at hl 4 rfl) ?_
          refine m_get S hw cl_M hR.obj 24 (by decide) g712 (fun _ h => h) rfl d_M_clear_93 ?_
          refine W.lcmp S.1 S.2.1 d_M_clear_96 ?_
          refine lv_if_ne (tgt := 184) S.1 S.2.1 d_M_clear_97 rfl (fun h97 => ?_) (fun h97 => ?_)
          · refine lv_iload S.1 S.2.1 d_M_clear_184 (lv_at hl 0 rfl) ?_
            refine lv_if_eq (tgt := 205) S.1 S.2.1 d_M_clear_186 rfl (fun h => absurd h (show ¬ (1 : Int32) = 0 by decide)) (fun _ => ?_)
            refine lv_aload_n S.1 S.2.1 d_M_clear_189 rfl (lv_at hl 4 rfl) ?_
            refine lv_iload_n S.1 S.2.1 d_M_clear_190 rfl (lv_at hl 3 rfl) ?_
            refine m_rput (σ' := σ) (ε' := (ε.1, wf, of, nI (k + 1), (aAt (sI σ) (L 1) (L 2) (srf σ) k).2.1, (aAt (sI σ) (L 1) (L 2) (srf σ) k).2.2)) S hw hR 23 (by decide) g711 rfl rfl rfl d_M_clear_191 rfl (fun i hi => rfl) (fun H locs N14 hR hw => ?_)
            refine lv_aload_n S.1 S.2.1 d_M_clear_194 rfl (lv_at hl 4 rfl) ?_
            refine lv_lload_n S.1 S.2.1 d_M_clear_195 rfl (lv_at hl 2 rfl) ?_
            refine m_rput (σ' := σ) (ε' := (ε.1, wf, of, nI (k + 1), aMv (wf (k + 1)) (of (k + 1)), (aAt (sI σ) (L 1) (L 2) (srf σ) k).2.2)) S hw hR 24 (by decide) g712 rfl rfl rfl d_M_clear_196 rfl (fun i hi => rfl) (fun H locs N15 hR hw => ?_)
            refine lv_aload_n S.1 S.2.1 d_M_clear_199 rfl (lv_at hl 4 rfl) ?_
            refine lv_lload S.1 S.2.1 d_M_clear_200 (lv_at hl 1 rfl) ?_
            refine m_rput (σ' := σ) (ε' := (ε.1, wf, of, nI (k + 1), aMv (wf (k + 1)) (of (k + 1)), (wf (k + 1)) - (of (k + 1)))) S hw hR 25 (by decide) g713 rfl rfl rfl d_M_clear_202 rfl (fun i hi => rfl) (fun H locs N16 hR hw => ?_)
            refine lv_iinc (k := 3) (v := nI (k + 1 + 1)) S.1 S.2.1 d_M_clear_205 hl rfl (nI_1 (k + 1)) (by decide) rfl (fun ls hl => ?_)
            have hl : lv_has ls 8 [(1, .int (nI (k + 1 + 1))), (6, .int 1), (4, .long ((wf (k + 1)) - (of (k + 1)))), (2, .long (aMv (wf (k + 1)) (of (k + 1)))), (0, .ref (rx μ))] := hl
            refine lv_goto (tgt := 21) S.1 S.2.1 d_M_clear_208 rfl ?_
            have hl := lv_sub hl [0, 4] rfl
            have hX : aAt (sI σ) (L 1) (L 2) (srf σ) (k + 1) = (nI (k + 1), aMv (wf (k + 1)) (of (k + 1)), wf (k + 1) - of (k + 1)) := by show aWgh (nI (k + 1)) _ _ _ _ = _; rw [← WT_line hO hL.1 (by omega), ← OT_line hO hL.2 (by omega), ← hWO.1, ← hWO.2]; exact wgh_A hnn.1 (Int64.not_le.mp (fun z => h81 ((lg_cmp_le _ _).mpr z)))
            exact ih (k + 1) N16 H locs ls (by omega) (by rw [hX]; exact hR) hl hw
          · exact absurd (Int64.not_le.mp (fun z => h81 ((lg_cmp_le _ _).mpr z))) (by rw [(lg_cmp_eq _ _).mp h97]; exact Int64.lt_irrefl)
      · refine lv_aload_n S.1 S.2.1 d_M_clear_44 rfl (lv_at hl 1 rfl) ?_
        refine m_get S hw cl_M hR.obj 21 (by decide) g709 (fun _ h => h) rfl d_M_clear_45 ?_
        refine lv_iload_n S.1 S.2.1 d_M_clear_48 rfl (lv_at hl 0 rfl) ?_
        refine m_rldW (o := k + 1) S hw hR (by omega) d_M_clear_49 ?_
        refine lv_goto (tgt := 59) S.1 S.2.1 d_M_clear_50 rfl ?_
        refine W.eq (g2 := F0 m 59 ls [.long (aMv (wf (k + 1)) (of (k + 1)))]) (congrArg (fun z => F0 m 59 ls [.long z]) (aMv_lt (Int64.not_le.mp (fun z => h41 ((lg_cmp_ge _ _).mpr z))))) ?_
        refine lv_lstore_n S.1 S.2.1 d_M_clear_59 rfl hl (by decide) rfl (fun ls hl => ?_)
        have hl : lv_has ls 8 [(2, .long (aMv (wf (k + 1)) (of (k + 1)))), (1, .int (nI (k + 1))), (0, .ref (rx μ))] := hl
        refine lv_aload_n S.1 S.2.1 d_M_clear_60 rfl (lv_at hl 2 rfl) ?_
        refine m_get S hw cl_M hR.obj 21 (by decide) g709 (fun _ h => h) rfl d_M_clear_61 ?_
        refine lv_iload_n S.1 S.2.1 d_M_clear_64 rfl (lv_at hl 1 rfl) ?_
        refine m_rldW (o := k + 1) S hw hR (by omega) d_M_clear_65 ?_
        refine lv_aload_n S.1 S.2.1 d_M_clear_66 rfl (lv_at hl 2 rfl) ?_
        refine m_get S hw cl_M hR.obj 22 (by decide) g710 (fun _ h => h) rfl d_M_clear_67 ?_
        refine lv_iload_n S.1 S.2.1 d_M_clear_70 rfl (lv_at hl 1 rfl) ?_
        refine m_rldO (o := k + 1) S hw hR (by omega) d_M_clear_71 ?_
        refine lv_lsub S.1 S.2.1 d_M_clear_72 ?_
        refine lv_lstore S.1 S.2.1 d_M_clear_73 hl (by decide) rfl (fun ls hl => ?_)
        have hl : lv_has ls 8 [(4, .long ((wf (k + 1)) - (of (k + 1)))), (2, .long (aMv (wf (k + 1)) (of (k + 1)))), (1, .int (nI (k + 1))), (0, .ref (rx μ))] := hl
        refine lv_lload_n S.1 S.2.1 d_M_clear_75 rfl (lv_at hl 1 rfl) ?_
        refine lv_aload_n S.1 S.2.1 d_M_clear_76 rfl (lv_at hl 3 rfl) ?_
        refine m_get S hw cl_M hR.obj 24 (by decide) g712 (fun _ h => h) rfl d_M_clear_77 ?_
        refine W.lcmp S.1 S.2.1 d_M_clear_80 ?_
        refine lv_if_le (tgt := 88) S.1 S.2.1 d_M_clear_81 rfl (fun h81 => ?_) (fun h81 => ?_)
        · refine lv_iconst (v := 0) S.1 S.2.1 d_M_clear_88 (by decide) ?_
          refine lv_istore S.1 S.2.1 d_M_clear_89 hl (by decide) rfl (fun ls hl => ?_)
          have hl : lv_has ls 8 [(6, .int 0), (4, .long ((wf (k + 1)) - (of (k + 1)))), (2, .long (aMv (wf (k + 1)) (of (k + 1)))), (1, .int (nI (k + 1))), (0, .ref (rx μ))] := hl
          refine lv_lload_n S.1 S.2.1 d_M_clear_91 rfl (lv_at hl 2 rfl) ?_
          refine lv_aload_n S.1 S.2.1 d_M_clear_92 rfl (lv_at hl 4 rfl) ?_
          refine m_get S hw cl_M hR.obj 24 (by decide) g712 (fun _ h => h) rfl d_M_clear_93 ?_
          refine W.lcmp S.1 S.2.1 d_M_clear_96 ?_
          refine lv_if_ne (tgt := 184) S.1 S.2.1 d_M_clear_97 rfl (fun h97 => ?_) (fun h97 => ?_)
          · refine lv_iload S.1 S.2.1 d_M_clear_184 (lv_at hl 0 rfl) ?_
            refine lv_if_eq (tgt := 205) S.1 S.2.1 d_M_clear_186 rfl (fun _ => ?_) (fun h => absurd (show (0 : Int32) = 0 by decide) h)
            refine lv_iinc (k := 3) (v := nI (k + 1 + 1)) S.1 S.2.1 d_M_clear_205 hl rfl (nI_1 (k + 1)) (by decide) rfl (fun ls hl => ?_)
            have hl : lv_has ls 8 [(1, .int (nI (k + 1 + 1))), (6, .int 0), (4, .long ((wf (k + 1)) - (of (k + 1)))), (2, .long (aMv (wf (k + 1)) (of (k + 1)))), (0, .ref (rx μ))] := hl
            refine lv_goto (tgt := 21) S.1 S.2.1 d_M_clear_208 rfl ?_
            have hl := lv_sub hl [0, 4] rfl
            have hX : aAt (sI σ) (L 1) (L 2) (srf σ) (k + 1) = aAt (sI σ) (L 1) (L 2) (srf σ) k := by show aWgh (nI (k + 1)) _ _ _ _ = _; rw [← WT_line hO hL.1 (by omega), ← OT_line hO hL.2 (by omega), ← hWO.1, ← hWO.2]; exact wgh_C (fun z => absurd ((lg_cmp_le _ _).mp h81) (Int64.not_le.mpr z)) (fun z => h97 ((lg_cmp_eq _ _).mpr z))
            exact ih (k + 1) Mc H locs ls (by omega) (by rw [hX]; exact hR) hl hw
          · refine lv_lload_n S.1 S.2.1 d_M_clear_100 rfl (lv_at hl 2 rfl) ?_
            refine lv_lconst (v := 0) S.1 S.2.1 d_M_clear_101 (by decide) ?_
            refine W.lcmp S.1 S.2.1 d_M_clear_102 ?_
            refine lv_if_le (tgt := 184) S.1 S.2.1 d_M_clear_103 rfl (fun h103 => ?_) (fun h103 => ?_)
            · refine lv_iload S.1 S.2.1 d_M_clear_184 (lv_at hl 0 rfl) ?_
              refine lv_if_eq (tgt := 205) S.1 S.2.1 d_M_clear_186 rfl (fun _ => ?_) (fun h => absurd (show (0 : Int32) = 0 by decide) h)
              refine lv_iinc (k := 3) (v := nI (k + 1 + 1)) S.1 S.2.1 d_M_clear_205 hl rfl (nI_1 (k + 1)) (by decide) rfl (fun ls hl => ?_)
              have hl : lv_has ls 8 [(1, .int (nI (k + 1 + 1))), (6, .int 0), (4, .long ((wf (k + 1)) - (of (k + 1)))), (2, .long (aMv (wf (k + 1)) (of (k + 1)))), (0, .ref (rx μ))] := hl
              refine lv_goto (tgt := 21) S.1 S.2.1 d_M_clear_208 rfl ?_
              have hl := lv_sub hl [0, 4] rfl
              have hX : aAt (sI σ) (L 1) (L 2) (srf σ) (k + 1) = aAt (sI σ) (L 1) (L 2) (srf σ) k := by show aWgh (nI (k + 1)) _ _ _ _ = _; rw [← WT_line hO hL.1 (by omega), ← OT_line hO hL.2 (by omega), ← hWO.1, ← hWO.2]; exact wgh_D ((lg_cmp_le _ _).mp h103)
              exact ih (k + 1) Mc H locs ls (by omega) (by rw [hX]; exact hR) hl hw
            · refine lv_lload S.1 S.2.1 d_M_clear_106 (lv_at hl 1 rfl) ?_
              refine m_cl hw (va_runS (As := [.long ((wf (k + 1)) - (of (k + 1)))]) (rest := []) S (c_M_abs l γ Mc ((wf (k + 1)) - (of (k + 1)))) (m_cwS 1 S g809 g810 g48 g811 rfl rfl ⟨by decide +kernel, by decide +kernel, by decide +kernel⟩ ⟨(Nat.le_of_ble_eq_true rfl), (Nat.le_of_ble_eq_true rfl)⟩) hw.preS rfl rfl hl.1 rfl (lv_room (Nat.le_of_ble_eq_true rfl)) d_M_clear_108 ⟨(Nat.zero_le _), (Nat.zero_le _)⟩) (fun r1 M1 H locs hp hw => ?_)
              obtain ⟨rfl, hM1⟩ := hp
              rw [hM1] at hw
              refine lv_aload_n S.1 S.2.1 d_M_clear_111 rfl (lv_at hl 4 rfl) ?_
              refine m_get S hw cl_M hR.obj 25 (by decide) g713 (fun _ h => h) rfl d_M_clear_112 ?_
              refine m_cl hw (va_runS (As := [.long ((aAt (sI σ) (L 1) (L 2) (srf σ) k).2.2)]) (rest := [.long (aM ((wf (k + 1)) - (of (k + 1))))]) S (c_M_abs l γ Mc ((aAt (sI σ) (L 1) (L 2) (srf σ) k).2.2)) (m_cwS 1 S g809 g810 g48 g811 rfl rfl ⟨by decide +kernel, by decide +kernel, by decide +kernel⟩ ⟨(Nat.le_of_ble_eq_true rfl), (Nat.le_of_ble_eq_true rfl)⟩) hw.preS rfl rfl hl.1 rfl (lv_room (Nat.le_of_ble_eq_true rfl)) d_M_clear_115 ⟨(Nat.zero_le _), (Nat.zero_le _)⟩) (fun r1 M1 H locs hp hw => ?_)
              obtain ⟨rfl, hM1⟩ := hp
              rw [hM1] at hw
              refine W.lcmp S.1 S.2.1 d_M_clear_118 ?_
              refine lv_if_ne (tgt := 126) S.1 S.2.1 d_M_clear_119 rfl (fun h119 => ?_) (fun h119 => ?_)
              · refine lv_iconst (v := 0) S.1 S.2.1 d_M_clear_126 (by decide) ?_
                refine lv_istore S.1 S.2.1 d_M_clear_127 hl (by decide) rfl (fun ls hl => ?_)
                have hl : lv_has ls 8 [(7, .int 0), (6, .int 0), (4, .long ((wf (k + 1)) - (of (k + 1)))), (2, .long (aMv (wf (k + 1)) (of (k + 1)))), (1, .int (nI (k + 1))), (0, .ref (rx μ))] := hl
                refine lv_lload S.1 S.2.1 d_M_clear_129 (lv_at hl 2 rfl) ?_
                refine m_cl hw (va_runS (As := [.long ((wf (k + 1)) - (of (k + 1)))]) (rest := []) S (c_M_abs l γ Mc ((wf (k + 1)) - (of (k + 1)))) (m_cwS 1 S g809 g810 g48 g811 rfl rfl ⟨by decide +kernel, by decide +kernel, by decide +kernel⟩ ⟨(Nat.le_of_ble_eq_true rfl), (Nat.le_of_ble_eq_true rfl)⟩) hw.preS rfl rfl hl.1 rfl (lv_room (Nat.le_of_ble_eq_true rfl)) d_M_clear_131 ⟨(Nat.zero_le _), (Nat.zero_le _)⟩) (fun r1 M1 H locs hp hw => ?_)
                obtain ⟨rfl, hM1⟩ := hp
                rw [hM1] at hw
                refine lv_aload_n S.1 S.2.1 d_M_clear_134 rfl (lv_at hl 5 rfl) ?_
                refine m_get S hw cl_M hR.obj 25 (by decide) g713 (fun _ h => h) rfl d_M_clear_135 ?_
                refine m_cl hw (va_runS (As := [.long ((aAt (sI σ) (L 1) (L 2) (srf σ) k).2.2)]) (rest := [.long (aM ((wf (k + 1)) - (of (k + 1))))]) S (c_M_abs l γ Mc ((aAt (sI σ) (L 1) (L 2) (srf σ) k).2.2)) (m_cwS 1 S g809 g810 g48 g811 rfl rfl ⟨by decide +kernel, by decide +kernel, by decide +kernel⟩ ⟨(Nat.le_of_ble_eq_true rfl), (Nat.le_of_ble_eq_true rfl)⟩) hw.preS rfl rfl hl.1 rfl (lv_room (Nat.le_of_ble_eq_true rfl)) d_M_clear_138 ⟨(Nat.zero_le _), (Nat.zero_le _)⟩) (fun r1 M1 H locs hp hw => ?_)
                obtain ⟨rfl, hM1⟩ := hp
                rw [hM1] at hw
                refine W.lcmp S.1 S.2.1 d_M_clear_141 ?_
                refine lv_if_lt (tgt := 177) S.1 S.2.1 d_M_clear_142 rfl (fun h142 => ?_) (fun h142 => ?_)
                · refine lv_iconst (v := 1) S.1 S.2.1 d_M_clear_177 (by decide) ?_
                  refine lv_goto (tgt := 182) S.1 S.2.1 d_M_clear_178 rfl ?_
                  refine lv_istore S.1 S.2.1 d_M_clear_182 hl (by decide) rfl (fun ls hl => ?_)
                  have hl : lv_has ls 8 [(6, .int 1), (7, .int 0), (4, .long ((wf (k + 1)) - (of (k + 1)))), (2, .long (aMv (wf (k + 1)) (of (k + 1)))), (1, .int (nI (k + 1))), (0, .ref (rx μ))] := hl
                  refine lv_iload S.1 S.2.1 d_M_clear_184 (lv_at hl 0 rfl) ?_
                  refine lv_if_eq (tgt := 205) S.1 S.2.1 d_M_clear_186 rfl (fun h => absurd h (show ¬ (1 : Int32) = 0 by decide)) (fun _ => ?_)
                  refine lv_aload_n S.1 S.2.1 d_M_clear_189 rfl (lv_at hl 5 rfl) ?_
                  refine lv_iload_n S.1 S.2.1 d_M_clear_190 rfl (lv_at hl 4 rfl) ?_
                  refine m_rput (σ' := σ) (ε' := (ε.1, wf, of, nI (k + 1), (aAt (sI σ) (L 1) (L 2) (srf σ) k).2.1, (aAt (sI σ) (L 1) (L 2) (srf σ) k).2.2)) S hw hR 23 (by decide) g711 rfl rfl rfl d_M_clear_191 rfl (fun i hi => rfl) (fun H locs N17 hR hw => ?_)
                  refine lv_aload_n S.1 S.2.1 d_M_clear_194 rfl (lv_at hl 5 rfl) ?_
                  refine lv_lload_n S.1 S.2.1 d_M_clear_195 rfl (lv_at hl 3 rfl) ?_
                  refine m_rput (σ' := σ) (ε' := (ε.1, wf, of, nI (k + 1), aMv (wf (k + 1)) (of (k + 1)), (aAt (sI σ) (L 1) (L 2) (srf σ) k).2.2)) S hw hR 24 (by decide) g712 rfl rfl rfl d_M_clear_196 rfl (fun i hi => rfl) (fun H locs N18 hR hw => ?_)
                  refine lv_aload_n S.1 S.2.1 d_M_clear_199 rfl (lv_at hl 5 rfl) ?_
                  refine lv_lload S.1 S.2.1 d_M_clear_200 (lv_at hl 2 rfl) ?_
                  refine m_rput (σ' := σ) (ε' := (ε.1, wf, of, nI (k + 1), aMv (wf (k + 1)) (of (k + 1)), (wf (k + 1)) - (of (k + 1)))) S hw hR 25 (by decide) g713 rfl rfl rfl d_M_clear_202 rfl (fun i hi => rfl) (fun H locs N19 hR hw => ?_)
                  refine lv_iinc (k := 4) (v := nI (k + 1 + 1)) S.1 S.2.1 d_M_clear_205 hl rfl (nI_1 (k + 1)) (by decide) rfl (fun ls hl => ?_)
                  have hl : lv_has ls 8 [(1, .int (nI (k + 1 + 1))), (6, .int 1), (7, .int 0), (4, .long ((wf (k + 1)) - (of (k + 1)))), (2, .long (aMv (wf (k + 1)) (of (k + 1)))), (0, .ref (rx μ))] := hl
                  refine lv_goto (tgt := 21) S.1 S.2.1 d_M_clear_208 rfl ?_
                  have hl := lv_sub hl [0, 5] rfl
                  have hX : aAt (sI σ) (L 1) (L 2) (srf σ) (k + 1) = (nI (k + 1), aMv (wf (k + 1)) (of (k + 1)), wf (k + 1) - of (k + 1)) := by show aWgh (nI (k + 1)) _ _ _ _ = _; rw [← WT_line hO hL.1 (by omega), ← OT_line hO hL.2 (by omega), ← hWO.1, ← hWO.2]; exact wgh_E3 ((lg_cmp_eq _ _).mp h97) (Int64.not_le.mp (fun z => h103 ((lg_cmp_le _ _).mpr z))) (fun z => h119 ((lg_cmp_eq _ _).mpr z)) ((lg_cmp_lt _ _).mp h142)
                  exact ih (k + 1) N19 H locs ls (by omega) (by rw [hX]; exact hR) hl hw
                · refine lv_iload S.1 S.2.1 d_M_clear_145 (lv_at hl 0 rfl) ?_
                  refine lv_if_eq (tgt := 181) S.1 S.2.1 d_M_clear_147 rfl (fun _ => ?_) (fun h => absurd (show (0 : Int32) = 0 by decide) h)
                  refine lv_iconst (v := 0) S.1 S.2.1 d_M_clear_181 (by decide) ?_
                  refine lv_istore S.1 S.2.1 d_M_clear_182 hl (by decide) rfl (fun ls hl => ?_)
                  have hl : lv_has ls 8 [(6, .int 0), (7, .int 0), (4, .long ((wf (k + 1)) - (of (k + 1)))), (2, .long (aMv (wf (k + 1)) (of (k + 1)))), (1, .int (nI (k + 1))), (0, .ref (rx μ))] := hl
                  refine lv_iload S.1 S.2.1 d_M_clear_184 (lv_at hl 0 rfl) ?_
                  refine lv_if_eq (tgt := 205) S.1 S.2.1 d_M_clear_186 rfl (fun _ => ?_) (fun h => absurd (show (0 : Int32) = 0 by decide) h)
                  refine lv_iinc (k := 4) (v := nI (k + 1 + 1)) S.1 S.2.1 d_M_clear_205 hl rfl (nI_1 (k + 1)) (by decide) rfl (fun ls hl => ?_)
                  have hl : lv_has ls 8 [(1, .int (nI (k + 1 + 1))), (6, .int 0), (7, .int 0), (4, .long ((wf (k + 1)) - (of (k + 1)))), (2, .long (aMv (wf (k + 1)) (of (k + 1)))), (0, .ref (rx μ))] := hl
                  refine lv_goto (tgt := 21) S.1 S.2.1 d_M_clear_208 rfl ?_
                  have hl := lv_sub hl [0, 5] rfl
                  have hX : aAt (sI σ) (L 1) (L 2) (srf σ) (k + 1) = aAt (sI σ) (L 1) (L 2) (srf σ) k := by show aWgh (nI (k + 1)) _ _ _ _ = _; rw [← WT_line hO hL.1 (by omega), ← OT_line hO hL.2 (by omega), ← hWO.1, ← hWO.2]; exact wgh_E4 ((lg_cmp_eq _ _).mp h97) (fun z => h119 ((lg_cmp_eq _ _).mpr z)) (fun z => h142 ((lg_cmp_lt _ _).mpr z))
                  exact ih (k + 1) Mc H locs ls (by omega) (by rw [hX]; exact hR) hl hw
              · refine lv_iconst (v := 1) S.1 S.2.1 d_M_clear_122 (by decide) ?_
                refine lv_goto (tgt := 127) S.1 S.2.1 d_M_clear_123 rfl ?_
                refine lv_istore S.1 S.2.1 d_M_clear_127 hl (by decide) rfl (fun ls hl => ?_)
                have hl : lv_has ls 8 [(7, .int 1), (6, .int 0), (4, .long ((wf (k + 1)) - (of (k + 1)))), (2, .long (aMv (wf (k + 1)) (of (k + 1)))), (1, .int (nI (k + 1))), (0, .ref (rx μ))] := hl
                refine lv_lload S.1 S.2.1 d_M_clear_129 (lv_at hl 2 rfl) ?_
                refine m_cl hw (va_runS (As := [.long ((wf (k + 1)) - (of (k + 1)))]) (rest := []) S (c_M_abs l γ Mc ((wf (k + 1)) - (of (k + 1)))) (m_cwS 1 S g809 g810 g48 g811 rfl rfl ⟨by decide +kernel, by decide +kernel, by decide +kernel⟩ ⟨(Nat.le_of_ble_eq_true rfl), (Nat.le_of_ble_eq_true rfl)⟩) hw.preS rfl rfl hl.1 rfl (lv_room (Nat.le_of_ble_eq_true rfl)) d_M_clear_131 ⟨(Nat.zero_le _), (Nat.zero_le _)⟩) (fun r1 M1 H locs hp hw => ?_)
                obtain ⟨rfl, hM1⟩ := hp
                rw [hM1] at hw
                refine lv_aload_n S.1 S.2.1 d_M_clear_134 rfl (lv_at hl 5 rfl) ?_
                refine m_get S hw cl_M hR.obj 25 (by decide) g713 (fun _ h => h) rfl d_M_clear_135 ?_
                refine m_cl hw (va_runS (As := [.long ((aAt (sI σ) (L 1) (L 2) (srf σ) k).2.2)]) (rest := [.long (aM ((wf (k + 1)) - (of (k + 1))))]) S (c_M_abs l γ Mc ((aAt (sI σ) (L 1) (L 2) (srf σ) k).2.2)) (m_cwS 1 S g809 g810 g48 g811 rfl rfl ⟨by decide +kernel, by decide +kernel, by decide +kernel⟩ ⟨(Nat.le_of_ble_eq_true rfl), (Nat.le_of_ble_eq_true rfl)⟩) hw.preS rfl rfl hl.1 rfl (lv_room (Nat.le_of_ble_eq_true rfl)) d_M_clear_138 ⟨(Nat.zero_le _), (Nat.zero_le _)⟩) (fun r1 M1 H locs hp hw => ?_)
                obtain ⟨rfl, hM1⟩ := hp
                rw [hM1] at hw
                refine W.lcmp S.1 S.2.1 d_M_clear_141 ?_
                refine lv_if_lt (tgt := 177) S.1 S.2.1 d_M_clear_142 rfl (fun h142 => ?_) (fun h142 => ?_)
                · refine lv_iconst (v := 1) S.1 S.2.1 d_M_clear_177 (by decide) ?_
                  refine lv_goto (tgt := 182) S.1 S.2.1 d_M_clear_178 rfl ?_
                  refine lv_istore S.1 S.2.1 d_M_clear_182 hl (by decide) rfl (fun ls hl => ?_)
                  have hl : lv_has ls 8 [(6, .int 1), (7, .int 1), (4, .long ((wf (k + 1)) - (of (k + 1)))), (2, .long (aMv (wf (k + 1)) (of (k + 1)))), (1, .int (nI (k + 1))), (0, .ref (rx μ))] := hl
                  refine lv_iload S.1 S.2.1 d_M_clear_184 (lv_at hl 0 rfl) ?_
                  refine lv_if_eq (tgt := 205) S.1 S.2.1 d_M_clear_186 rfl (fun h => absurd h (show ¬ (1 : Int32) = 0 by decide)) (fun _ => ?_)
                  refine lv_aload_n S.1 S.2.1 d_M_clear_189 rfl (lv_at hl 5 rfl) ?_
                  refine lv_iload_n S.1 S.2.1 d_M_clear_190 rfl (lv_at hl 4 rfl) ?_
                  refine m_rput (σ' := σ) (ε' := (ε.1, wf, of, nI (k + 1), (aAt (sI σ) (L 1) (L 2) (srf σ) k).2.1, (aAt (sI σ) (L 1) (L 2) (srf σ) k).2.2)) S hw hR 23 (by decide) g711 rfl rfl rfl d_M_clear_191 rfl (fun i hi => rfl) (fun H locs N20 hR hw => ?_)
                  refine lv_aload_n S.1 S.2.1 d_M_clear_194 rfl (lv_at hl 5 rfl) ?_
                  refine lv_lload_n S.1 S.2.1 d_M_clear_195 rfl (lv_at hl 3 rfl) ?_
                  refine m_rput (σ' := σ) (ε' := (ε.1, wf, of, nI (k + 1), aMv (wf (k + 1)) (of (k + 1)), (aAt (sI σ) (L 1) (L 2) (srf σ) k).2.2)) S hw hR 24 (by decide) g712 rfl rfl rfl d_M_clear_196 rfl (fun i hi => rfl) (fun H locs N21 hR hw => ?_)
                  refine lv_aload_n S.1 S.2.1 d_M_clear_199 rfl (lv_at hl 5 rfl) ?_
                  refine lv_lload S.1 S.2.1 d_M_clear_200 (lv_at hl 2 rfl) ?_
                  refine m_rput (σ' := σ) (ε' := (ε.1, wf, of, nI (k + 1), aMv (wf (k + 1)) (of (k + 1)), (wf (k + 1)) - (of (k + 1)))) S hw hR 25 (by decide) g713 rfl rfl rfl d_M_clear_202 rfl (fun i hi => rfl) (fun H locs N22 hR hw => ?_)
                  refine lv_iinc (k := 4) (v := nI (k + 1 + 1)) S.1 S.2.1 d_M_clear_205 hl rfl (nI_1 (k + 1)) (by decide) rfl (fun ls hl => ?_)
                  have hl : lv_has ls 8 [(1, .int (nI (k + 1 + 1))), (6, .int 1), (7, .int 1), (4, .long ((wf (k + 1)) - (of (k + 1)))), (2, .long (aMv (wf (k + 1)) (of (k + 1)))), (0, .ref (rx μ))] := hl
                  refine lv_goto (tgt := 21) S.1 S.2.1 d_M_clear_208 rfl ?_
                  have hl := lv_sub hl [0, 5] rfl
                  exact absurd ((lg_cmp_lt _ _).mp h142) (by rw [((lg_cmp_eq _ _).mp h119)]; exact Int64.lt_irrefl)
                · refine lv_iload S.1 S.2.1 d_M_clear_145 (lv_at hl 0 rfl) ?_
                  refine lv_if_eq (tgt := 181) S.1 S.2.1 d_M_clear_147 rfl (fun h => absurd h (show ¬ (1 : Int32) = 0 by decide)) (fun _ => ?_)
                  refine lv_iload_n S.1 S.2.1 d_M_clear_150 rfl (lv_at hl 4 rfl) ?_
                  refine lv_aload_n S.1 S.2.1 d_M_clear_151 rfl (lv_at hl 5 rfl) ?_
                  refine m_get S hw cl_M hR.obj 2 (by decide) g690 (fun _ h => h) rfl d_M_clear_152 ?_
                  refine lv_isub S.1 S.2.1 d_M_clear_155 ?_
                  refine lv_i2l S.1 S.2.1 d_M_clear_156 rfl ?_
                  refine m_cl hw (va_runS (As := [.long (((nI (k + 1)) - (srf σ)).toInt64)]) (rest := []) S (c_M_abs l γ Mc (((nI (k + 1)) - (srf σ)).toInt64)) (m_cwS 1 S g809 g810 g48 g811 rfl rfl ⟨by decide +kernel, by decide +kernel, by decide +kernel⟩ ⟨(Nat.le_of_ble_eq_true rfl), (Nat.le_of_ble_eq_true rfl)⟩) hw.preS rfl rfl hl.1 rfl (lv_room (Nat.le_of_ble_eq_true rfl)) d_M_clear_157 ⟨(Nat.zero_le _), (Nat.zero_le _)⟩) (fun r1 M1 H locs hp hw => ?_)
                  obtain ⟨rfl, hM1⟩ := hp
                  rw [hM1] at hw
                  refine lv_aload_n S.1 S.2.1 d_M_clear_160 rfl (lv_at hl 5 rfl) ?_
                  refine m_get S hw cl_M hR.obj 23 (by decide) g711 (fun _ h => h) rfl d_M_clear_161 ?_
                  refine lv_aload_n S.1 S.2.1 d_M_clear_164 rfl (lv_at hl 5 rfl) ?_
                  refine m_get S hw cl_M hR.obj 2 (by decide) g690 (fun _ h => h) rfl d_M_clear_165 ?_
                  refine lv_isub S.1 S.2.1 d_M_clear_168 ?_
                  refine lv_i2l S.1 S.2.1 d_M_clear_169 rfl ?_
                  refine m_cl hw (va_runS (As := [.long ((((aAt (sI σ) (L 1) (L 2) (srf σ) k).1) - (srf σ)).toInt64)]) (rest := [.long (aM (((nI (k + 1)) - (srf σ)).toInt64))]) S (c_M_abs l γ Mc ((((aAt (sI σ) (L 1) (L 2) (srf σ) k).1) - (srf σ)).toInt64)) (m_cwS 1 S g809 g810 g48 g811 rfl rfl ⟨by decide +kernel, by decide +kernel, by decide +kernel⟩ ⟨(Nat.le_of_ble_eq_true rfl), (Nat.le_of_ble_eq_true rfl)⟩) hw.preS rfl rfl hl.1 rfl (lv_room (Nat.le_of_ble_eq_true rfl)) d_M_clear_170 ⟨(Nat.zero_le _), (Nat.zero_le _)⟩) (fun r1 M1 H locs hp hw => ?_)
                  obtain ⟨rfl, hM1⟩ := hp
                  rw [hM1] at hw
                  refine W.lcmp S.1 S.2.1 d_M_clear_173 ?_
                  refine lv_if_ge (tgt := 181) S.1 S.2.1 d_M_clear_174 rfl (fun h174 => ?_) (fun h174 => ?_)
                  · refine lv_iconst (v := 0) S.1 S.2.1 d_M_clear_181 (by decide) ?_
                    refine lv_istore S.1 S.2.1 d_M_clear_182 hl (by decide) rfl (fun ls hl => ?_)
                    have hl : lv_has ls 8 [(6, .int 0), (7, .int 1), (4, .long ((wf (k + 1)) - (of (k + 1)))), (2, .long (aMv (wf (k + 1)) (of (k + 1)))), (1, .int (nI (k + 1))), (0, .ref (rx μ))] := hl
                    refine lv_iload S.1 S.2.1 d_M_clear_184 (lv_at hl 0 rfl) ?_
                    refine lv_if_eq (tgt := 205) S.1 S.2.1 d_M_clear_186 rfl (fun _ => ?_) (fun h => absurd (show (0 : Int32) = 0 by decide) h)
                    refine lv_iinc (k := 4) (v := nI (k + 1 + 1)) S.1 S.2.1 d_M_clear_205 hl rfl (nI_1 (k + 1)) (by decide) rfl (fun ls hl => ?_)
                    have hl : lv_has ls 8 [(1, .int (nI (k + 1 + 1))), (6, .int 0), (7, .int 1), (4, .long ((wf (k + 1)) - (of (k + 1)))), (2, .long (aMv (wf (k + 1)) (of (k + 1)))), (0, .ref (rx μ))] := hl
                    refine lv_goto (tgt := 21) S.1 S.2.1 d_M_clear_208 rfl ?_
                    have hl := lv_sub hl [0, 5] rfl
                    have hX : aAt (sI σ) (L 1) (L 2) (srf σ) (k + 1) = aAt (sI σ) (L 1) (L 2) (srf σ) k := by show aWgh (nI (k + 1)) _ _ _ _ = _; rw [← WT_line hO hL.1 (by omega), ← OT_line hO hL.2 (by omega), ← hWO.1, ← hWO.2]; exact wgh_E2 hx1 hx2 ((lg_cmp_eq _ _).mp h97) ((lg_cmp_eq _ _).mp h119) (fun z => absurd ((lg_cmp_ge _ _).mp h174) (Int64.not_le.mpr z))
                    exact ih (k + 1) Mc H locs ls (by omega) (by rw [hX]; exact hR) hl hw
                  · refine lv_iconst (v := 1) S.1 S.2.1 d_M_clear_177 (by decide) ?_
                    refine lv_goto (tgt := 182) S.1 S.2.1 d_M_clear_178 rfl ?_
                    refine lv_istore S.1 S.2.1 d_M_clear_182 hl (by decide) rfl (fun ls hl => ?_)
                    have hl : lv_has ls 8 [(6, .int 1), (7, .int 1), (4, .long ((wf (k + 1)) - (of (k + 1)))), (2, .long (aMv (wf (k + 1)) (of (k + 1)))), (1, .int (nI (k + 1))), (0, .ref (rx μ))] := hl
                    refine lv_iload S.1 S.2.1 d_M_clear_184 (lv_at hl 0 rfl) ?_
                    refine lv_if_eq (tgt := 205) S.1 S.2.1 d_M_clear_186 rfl (fun h => absurd h (show ¬ (1 : Int32) = 0 by decide)) (fun _ => ?_)
                    refine lv_aload_n S.1 S.2.1 d_M_clear_189 rfl (lv_at hl 5 rfl) ?_
                    refine lv_iload_n S.1 S.2.1 d_M_clear_190 rfl (lv_at hl 4 rfl) ?_
                    refine m_rput (σ' := σ) (ε' := (ε.1, wf, of, nI (k + 1), (aAt (sI σ) (L 1) (L 2) (srf σ) k).2.1, (aAt (sI σ) (L 1) (L 2) (srf σ) k).2.2)) S hw hR 23 (by decide) g711 rfl rfl rfl d_M_clear_191 rfl (fun i hi => rfl) (fun H locs N23 hR hw => ?_)
                    refine lv_aload_n S.1 S.2.1 d_M_clear_194 rfl (lv_at hl 5 rfl) ?_
                    refine lv_lload_n S.1 S.2.1 d_M_clear_195 rfl (lv_at hl 3 rfl) ?_
                    refine m_rput (σ' := σ) (ε' := (ε.1, wf, of, nI (k + 1), aMv (wf (k + 1)) (of (k + 1)), (aAt (sI σ) (L 1) (L 2) (srf σ) k).2.2)) S hw hR 24 (by decide) g712 rfl rfl rfl d_M_clear_196 rfl (fun i hi => rfl) (fun H locs N24 hR hw => ?_)
                    refine lv_aload_n S.1 S.2.1 d_M_clear_199 rfl (lv_at hl 5 rfl) ?_
                    refine lv_lload S.1 S.2.1 d_M_clear_200 (lv_at hl 2 rfl) ?_
                    refine m_rput (σ' := σ) (ε' := (ε.1, wf, of, nI (k + 1), aMv (wf (k + 1)) (of (k + 1)), (wf (k + 1)) - (of (k + 1)))) S hw hR 25 (by decide) g713 rfl rfl rfl d_M_clear_202 rfl (fun i hi => rfl) (fun H locs N25 hR hw => ?_)
                    refine lv_iinc (k := 4) (v := nI (k + 1 + 1)) S.1 S.2.1 d_M_clear_205 hl rfl (nI_1 (k + 1)) (by decide) rfl (fun ls hl => ?_)
                    have hl : lv_has ls 8 [(1, .int (nI (k + 1 + 1))), (6, .int 1), (7, .int 1), (4, .long ((wf (k + 1)) - (of (k + 1)))), (2, .long (aMv (wf (k + 1)) (of (k + 1)))), (0, .ref (rx μ))] := hl
                    refine lv_goto (tgt := 21) S.1 S.2.1 d_M_clear_208 rfl ?_
                    have hl := lv_sub hl [0, 5] rfl
                    have hX : aAt (sI σ) (L 1) (L 2) (srf σ) (k + 1) = (nI (k + 1), aMv (wf (k + 1)) (of (k + 1)), wf (k + 1) - of (k + 1)) := by show aWgh (nI (k + 1)) _ _ _ _ = _; rw [← WT_line hO hL.1 (by omega), ← OT_line hO hL.2 (by omega), ← hWO.1, ← hWO.2]; exact wgh_E1 hx1 hx2 ((lg_cmp_eq _ _).mp h97) (Int64.not_le.mp (fun z => h103 ((lg_cmp_le _ _).mpr z))) ((lg_cmp_eq _ _).mp h119) (Int64.not_le.mp (fun z => h174 ((lg_cmp_ge _ _).mpr z)))
                    exact ih (k + 1) N25 H locs ls (by omega) (by rw [hX]; exact hR) hl hw
        · refine lv_iconst (v := 1) S.1 S.2.1 d_M_clear_84 (by decide) ?_
          refine lv_goto (tgt := 89) S.1 S.2.1 d_M_clear_85 rfl ?_
          refine lv_istore S.1 S.2.1 d_M_clear_89 hl (by decide) rfl (fun ls hl => ?_)
          have hl : lv_has ls 8 [(6, .int 1), (4, .long ((wf (k + 1)) - (of (k + 1)))), (2, .long (aMv (wf (k + 1)) (of (k + 1)))), (1, .int (nI (k + 1))), (0, .ref (rx μ))] := hl
          refine lv_lload_n S.1 S.2.1 d_M_clear_91 rfl (lv_at hl 2 rfl) ?_
          refine lv_aload_n S.1 S.2.1 d_M_clear_92 rfl (lv_at hl 4 rfl) ?_
          refine m_get S hw cl_M hR.obj 24 (by decide) g712 (fun _ h => h) rfl d_M_clear_93 ?_
          refine W.lcmp S.1 S.2.1 d_M_clear_96 ?_
          refine lv_if_ne (tgt := 184) S.1 S.2.1 d_M_clear_97 rfl (fun h97 => ?_) (fun h97 => ?_)
          · refine lv_iload S.1 S.2.1 d_M_clear_184 (lv_at hl 0 rfl) ?_
            refine lv_if_eq (tgt := 205) S.1 S.2.1 d_M_clear_186 rfl (fun h => absurd h (show ¬ (1 : Int32) = 0 by decide)) (fun _ => ?_)
            refine lv_aload_n S.1 S.2.1 d_M_clear_189 rfl (lv_at hl 4 rfl) ?_
            refine lv_iload_n S.1 S.2.1 d_M_clear_190 rfl (lv_at hl 3 rfl) ?_
            refine m_rput (σ' := σ) (ε' := (ε.1, wf, of, nI (k + 1), (aAt (sI σ) (L 1) (L 2) (srf σ) k).2.1, (aAt (sI σ) (L 1) (L 2) (srf σ) k).2.2)) S hw hR 23 (by decide) g711 rfl rfl rfl d_M_clear_191 rfl (fun i hi => rfl) (fun H locs N26 hR hw => ?_)
            refine lv_aload_n S.1 S.2.1 d_M_clear_194 rfl (lv_at hl 4 rfl) ?_
            refine lv_lload_n S.1 S.2.1 d_M_clear_195 rfl (lv_at hl 2 rfl) ?_
            refine m_rput (σ' := σ) (ε' := (ε.1, wf, of, nI (k + 1), aMv (wf (k + 1)) (of (k + 1)), (aAt (sI σ) (L 1) (L 2) (srf σ) k).2.2)) S hw hR 24 (by decide) g712 rfl rfl rfl d_M_clear_196 rfl (fun i hi => rfl) (fun H locs N27 hR hw => ?_)
            refine lv_aload_n S.1 S.2.1 d_M_clear_199 rfl (lv_at hl 4 rfl) ?_
            refine lv_lload S.1 S.2.1 d_M_clear_200 (lv_at hl 1 rfl) ?_
            refine m_rput (σ' := σ) (ε' := (ε.1, wf, of, nI (k + 1), aMv (wf (k + 1)) (of (k + 1)), (wf (k + 1)) - (of (k + 1)))) S hw hR 25 (by decide) g713 rfl rfl rfl d_M_clear_202 rfl (fun i hi => rfl) (fun H locs N28 hR hw => ?_)
            refine lv_iinc (k := 3) (v := nI (k + 1 + 1)) S.1 S.2.1 d_M_clear_205 hl rfl (nI_1 (k + 1)) (by decide) rfl (fun ls hl => ?_)
            have hl : lv_has ls 8 [(1, .int (nI (k + 1 + 1))), (6, .int 1), (4, .long ((wf (k + 1)) - (of (k + 1)))), (2, .long (aMv (wf (k + 1)) (of (k + 1)))), (0, .ref (rx μ))] := hl
            refine lv_goto (tgt := 21) S.1 S.2.1 d_M_clear_208 rfl ?_
            have hl := lv_sub hl [0, 4] rfl
            have hX : aAt (sI σ) (L 1) (L 2) (srf σ) (k + 1) = (nI (k + 1), aMv (wf (k + 1)) (of (k + 1)), wf (k + 1) - of (k + 1)) := by show aWgh (nI (k + 1)) _ _ _ _ = _; rw [← WT_line hO hL.1 (by omega), ← OT_line hO hL.2 (by omega), ← hWO.1, ← hWO.2]; exact wgh_A hnn.1 (Int64.not_le.mp (fun z => h81 ((lg_cmp_le _ _).mpr z)))
            exact ih (k + 1) N28 H locs ls (by omega) (by rw [hX]; exact hR) hl hw
          · exact absurd (Int64.not_le.mp (fun z => h81 ((lg_cmp_le _ _).mpr z))) (by rw [(lg_cmp_eq _ _).mp h97]; exact Int64.lt_irrefl)
  have hl := lv_sub hl [0, 1] rfl
  exact loop 2000 0 _ _ _ ls rfl hR hl hw
set_option maxHeartbeats 4000000 in
set_option maxRecDepth 100000 in
theorem c_M_clearingA (l : Launch) (γ : mG) (M : mMap) (μ : RK) (σ : St) (ε : RE) (hR : RM γ M μ σ ε) (w0 : Int32) (hv : rg 0 2 w0 = false) : Met l y_M_clearing w_M_clearing ({ frames := 1, cells := 0, slots := 0, locals := 22 } : Room) (mPc γ M [.ref (rx μ), .int w0]) (mQl γ (fun _ M' => RQ γ M M' μ σ (1, ε.2))) 0 0 (mA (gz γ)) := by
  refine m_enter (by decide) (Nat.le_of_ble_eq_true rfl) ?_
  intro p e s m below meth c ls S hr hlk hnm hl hw
  have hl : lv_has ls 2 [(0, .ref (rx μ)), (1, .int w0)] := hl
  have hR := hR.q
  refine lv_aload_n S.1 S.2.1 d_M_clearing_0 rfl (lv_at hl 0 rfl) ?_
  refine lv_iload_n S.1 S.2.1 d_M_clearing_1 rfl (lv_at hl 1 rfl) ?_
  refine lv_iconst (v := 0) S.1 S.2.1 d_M_clearing_2 (by decide) ?_
  refine lv_iconst (v := 2) S.1 S.2.1 d_M_clearing_3 (by decide) ?_
  refine m_ci hw (va_runS (As := [.int w0, .int 0, .int 2]) (rest := [.ref (rx μ)]) S (c_M_in l γ M w0 0 2) (m_cwS 3 S g778 g779 g48 g780 rfl rfl ⟨by decide +kernel, by decide +kernel, by decide +kernel⟩ ⟨(Nat.le_of_ble_eq_true rfl), (Nat.le_of_ble_eq_true rfl)⟩) hw.preS rfl rfl hl.1 rfl (lv_room (Nat.le_of_ble_eq_true rfl)) d_M_clearing_4 ⟨(Nat.zero_le _), (Nat.zero_le _)⟩) (fun r1 M1 H locs hp hw => ?_)
  obtain ⟨rfl, hM1⟩ := hp
  rw [hM1] at hw
  refine lv_if_eq (tgt := 14) S.1 S.2.1 d_M_clearing_7 rfl (fun _ => ?_) (fun h => absurd (b2i_0.mpr hv) h)
  refine lv_iconst (v := 1) S.1 S.2.1 d_M_clearing_14 (by decide) ?_
  refine m_rput (σ' := σ) (ε' := (1, ε.2.1, ε.2.2.1, ε.2.2.2.1, ε.2.2.2.2.1, ε.2.2.2.2.2)) S hw hR 0 (by decide) g688 rfl rfl rfl d_M_clearing_15 rfl (fun i hi => rfl) (fun H locs N1 hR hw => ?_)
  refine lv_aload_n S.1 S.2.1 d_M_clearing_18 rfl (lv_at hl 0 rfl) ?_
  refine m_get S hw cl_M hR.obj 0 (by decide) g688 (fun _ h => h) rfl d_M_clearing_19 ?_
  refine lv_if_le (tgt := 27) S.1 S.2.1 d_M_clearing_22 rfl (fun h => absurd h (show ¬ (1 : Int32) ≤ 0 by decide)) (fun _ => ?_)
  refine lv_lconst (v := 0) S.1 S.2.1 d_M_clearing_25 (by decide) ?_
  exact m_lret S hlk hr hw hR (Nat.le_refl _) (Nat.le_refl _) d_M_clearing_26
set_option maxHeartbeats 4000000 in
set_option maxRecDepth 100000 in
theorem c_M_clearing (l : Launch) (γ : mG) (M : mMap) (μ : RK) (σ : St) (ε : RE) (hR : RM γ M μ σ ε) (L : Nat → List Nat) (hI : Inv0 σ) (hL : LN σ L) (hB : BD σ) (w0 : Int32) (hv : rg 0 2 w0 = true) : Met l y_M_clearing w_M_clearing ({ frames := 3, cells := 0, slots := 0, locals := 70 } : Room) (mPc γ M [.ref (rx μ), .int w0]) (mQl γ (fun r M' => r = clr (aAt (sI σ) (L 1) (L 2) (srf σ) 2000) w0 ∧ ∃ wf of a, RQ γ M M' μ σ (0, wf, of, a))) 0 0 (mA (gz γ)) := by
  refine m_enter (by decide) (Nat.le_of_ble_eq_true rfl) ?_
  intro p e s m below meth c ls S hr hlk hnm hl hw
  have hl : lv_has ls 2 [(0, .ref (rx μ)), (1, .int w0)] := hl
  have hR := hR.q
  refine lv_aload_n S.1 S.2.1 d_M_clearing_0 rfl (lv_at hl 0 rfl) ?_
  refine lv_iload_n S.1 S.2.1 d_M_clearing_1 rfl (lv_at hl 1 rfl) ?_
  refine lv_iconst (v := 0) S.1 S.2.1 d_M_clearing_2 (by decide) ?_
  refine lv_iconst (v := 2) S.1 S.2.1 d_M_clearing_3 (by decide) ?_
  refine m_ci hw (va_runS (As := [.int w0, .int 0, .int 2]) (rest := [.ref (rx μ)]) S (c_M_in l γ M w0 0 2) (m_cwS 3 S g778 g779 g48 g780 rfl rfl ⟨by decide +kernel, by decide +kernel, by decide +kernel⟩ ⟨(Nat.le_of_ble_eq_true rfl), (Nat.le_of_ble_eq_true rfl)⟩) hw.preS rfl rfl hl.1 rfl (lv_room (Nat.le_of_ble_eq_true rfl)) d_M_clearing_4 ⟨(Nat.zero_le _), (Nat.zero_le _)⟩) (fun r1 M1 H locs hp hw => ?_)
  obtain ⟨rfl, hM1⟩ := hp
  rw [hM1] at hw
  refine lv_if_eq (tgt := 14) S.1 S.2.1 d_M_clearing_7 rfl (fun h => absurd h (b2i_n0.mpr hv)) (fun _ => ?_)
  refine lv_iconst (v := 0) S.1 S.2.1 d_M_clearing_10 (by decide) ?_
  refine lv_goto (tgt := 15) S.1 S.2.1 d_M_clearing_11 rfl ?_
  refine m_rput (σ' := σ) (ε' := (0, ε.2.1, ε.2.2.1, ε.2.2.2.1, ε.2.2.2.2.1, ε.2.2.2.2.2)) S hw hR 0 (by decide) g688 rfl rfl rfl d_M_clearing_15 rfl (fun i hi => rfl) (fun H locs N1 hR hw => ?_)
  refine lv_aload_n S.1 S.2.1 d_M_clearing_18 rfl (lv_at hl 0 rfl) ?_
  refine m_get S hw cl_M hR.obj 0 (by decide) g688 (fun _ h => h) rfl d_M_clearing_19 ?_
  refine lv_if_le (tgt := 27) S.1 S.2.1 d_M_clearing_22 rfl (fun _ => ?_) (fun h => absurd (show (0 : Int32) ≤ 0 by decide) h)
  refine lv_aload_n S.1 S.2.1 d_M_clearing_27 rfl (lv_at hl 0 rfl) ?_
  refine m_cv hw (va_runV (As := []) (rest := []) S (c_M_clear l γ N1 μ σ (0, ε.2.1, ε.2.2.1, ε.2.2.2.1, ε.2.2.2.2.1, ε.2.2.2.2.2) hR.1 L hI hL hB) (m_cwV 0 S g860 g862 g38 g48 g863 rfl rfl ⟨by decide +kernel, by decide +kernel, by decide +kernel⟩ ⟨(Nat.le_of_ble_eq_true rfl), (Nat.le_of_ble_eq_true rfl)⟩) (hw.preV hR.obj cl_M.1) rfl rfl hl.1 rfl (lv_room (Nat.le_of_ble_eq_true rfl)) d_M_clearing_28 ⟨(Nat.zero_le _), (Nat.zero_le _)⟩) (fun N2 H locs hp hw => ?_)
  obtain ⟨wf, of, hp⟩ := hp
  have hR := hp.tr hR
  refine lv_iload_n S.1 S.2.1 d_M_clearing_31 rfl (lv_at hl 1 rfl) ?_
  refine lv_if_ne (tgt := 43) S.1 S.2.1 d_M_clearing_32 rfl (fun h32 => ?_) (fun h32 => ?_)
  · refine lv_iload_n S.1 S.2.1 d_M_clearing_43 rfl (lv_at hl 1 rfl) ?_
    refine lv_iconst (v := 1) S.1 S.2.1 d_M_clearing_44 (by decide) ?_
    refine lv_icmp_ne (tgt := 55) S.1 S.2.1 d_M_clearing_45 rfl (fun h45 => ?_) (fun h45 => ?_)
    · refine lv_aload_n S.1 S.2.1 d_M_clearing_55 rfl (lv_at hl 0 rfl) ?_
      refine m_get S hw cl_M hR.obj 25 (by decide) g713 (fun _ h => h) rfl d_M_clearing_56 ?_
      exact m_lret S hlk hr hw (⟨(show clr (aAt (sI σ) (L 1) (L 2) (srf σ) 2000) w0 = (aAt (sI σ) (L 1) (L 2) (srf σ) 2000).2.2 from by unfold clr; rw [if_neg h32, if_neg h45]).symm, wf, of, _, hR⟩) (Nat.le_refl _) (Nat.le_refl _) d_M_clearing_59
    · refine lv_aload_n S.1 S.2.1 d_M_clearing_48 rfl (lv_at hl 0 rfl) ?_
      refine m_get S hw cl_M hR.obj 24 (by decide) g712 (fun _ h => h) rfl d_M_clearing_49 ?_
      refine lv_goto (tgt := 59) S.1 S.2.1 d_M_clearing_52 rfl ?_
      exact m_lret S hlk hr hw (⟨(show clr (aAt (sI σ) (L 1) (L 2) (srf σ) 2000) w0 = (aAt (sI σ) (L 1) (L 2) (srf σ) 2000).2.1 from by unfold clr; rw [if_neg h32, if_pos h45]).symm, wf, of, _, hR⟩) (Nat.le_refl _) (Nat.le_refl _) d_M_clearing_59
  · refine lv_aload_n S.1 S.2.1 d_M_clearing_35 rfl (lv_at hl 0 rfl) ?_
    refine m_get S hw cl_M hR.obj 23 (by decide) g711 (fun _ h => h) rfl d_M_clearing_36 ?_
    refine lv_i2l S.1 S.2.1 d_M_clearing_39 rfl ?_
    refine lv_goto (tgt := 59) S.1 S.2.1 d_M_clearing_40 rfl ?_
    exact m_lret S hlk hr hw (⟨(show clr (aAt (sI σ) (L 1) (L 2) (srf σ) 2000) w0 = ((aAt (sI σ) (L 1) (L 2) (srf σ) 2000).1).toInt64 from by unfold clr; rw [if_pos h32]).symm, wf, of, _, hR⟩) (Nat.le_refl _) (Nat.le_refl _) d_M_clearing_59
/-- clearing never lacks an order to trade with, nor steps -/
def OneOK : Nat → St → Int32 → Int64 → Prop
  | 0, _, _, v => ¬ 0 < v
  | k + 1, σ, p, v => 0 < v → ∃ b a, fst (sI σ) 1 (sn σ) = some b ∧ fst (sI σ) 0 (sn σ) = some a ∧ b ≠ a ∧ OneOK k (xDl σ b a p v) p (v - (oQ σ b a v).toInt64)
theorem oQ_lt {σ : St} {b a : Nat} {v : Int64} (h : (mn (sI σ 3 b) (sI σ 3 a)).toInt64 < v) : mn (sI σ 3 b) (sI σ 3 a) = oQ σ b a v := by unfold oQ; rw [if_pos h, Int32.toInt32_toInt64]
theorem oQ_ge {σ : St} {b a : Nat} {v : Int64} (h : v ≤ (mn (sI σ 3 b) (sI σ 3 a)).toInt64) : v.toInt32 = oQ σ b a v := by unfold oQ; rw [if_neg (Int64.not_lt.mpr h)]
def oPR (τ : St) (r : Int32) : St := (τ.1, (1, r, sbd τ, srk τ), τ.2.2)
theorem sts_oPR {σ : St} {p r : Int32} : ∀ k, xSts (σ.1, (p, r, sbd σ, srk σ), σ.2.2) k = ((xSts σ k).1, (p, r, sbd (xSts σ k), srk (xSts σ k)), (xSts σ k).2.2) := by
  intro k
  induction k with
  | zero => rfl
  | succ k ih =>
    show xStart (xSts _ k) k = _
    rw [ih]
    show _ = ((xStart (xSts σ k) k).1, _)
    have e2 := start_2 (σ := xSts σ k) (o := k)
    show _ = ((xStart (xSts σ k) k).1, (p, r, (xStart (xSts σ k) k).2.1.2.2.1, (xStart (xSts σ k) k).2.1.2.2.2), (xStart (xSts σ k) k).2.2)
    rw [e2]
    unfold xStart
    show (if sI (xSts σ k) 5 k = -1 then _ else if sI (xSts σ k) 2 k = 0 then _ else _) = _
    by_cases h1 : sI (xSts σ k) 5 k = -1
    · rw [if_pos h1, if_pos h1]
    · rw [if_neg h1, if_neg h1]
      by_cases h2 : sI (xSts σ k) 2 k = 0
      · rw [if_pos h2, if_pos h2]; rfl
      · rw [if_neg h2, if_neg h2]; rfl
