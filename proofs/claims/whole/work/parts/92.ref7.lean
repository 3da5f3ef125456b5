/-! The reference: open -/
theorem fin_5 {σ : St} {r o : Nat} : sI (xFin σ r) 5 o = sI σ 5 o ∨ sI (xFin σ r) 5 o = -1 := by
  by_cases h : o = r
  · subst h
    unfold xFin
    split
    · refine Or.inr ?_
      show s1 (s1 (s1 (sI σ) 3 o 0) 4 o 0) 5 o (-1) 5 o = -1
      exact s1_ss _ _ _ _
    · exact Or.inl rfl
  · exact Or.inl (fin_x h)
theorem dl_5 {σ : St} {b a o : Nat} {p : Int32} {v : Int64} : sI (xDl σ b a p v) 5 o = sI σ 5 o ∨ sI (xDl σ b a p v) 5 o = -1 := by
  unfold xDl
  rcases fin_5 (σ := xFin (xDeal σ b a p (oQ σ b a v)) b) (r := a) (o := o) with h | h
  · rw [h]
    rcases fin_5 (σ := xDeal σ b a p (oQ σ b a v)) (r := b) (o := o) with h | h
    · rw [h]; exact Or.inl (congrFun (deal_f (by decide) (by decide)) o)
    · exact Or.inr h
  · exact Or.inr h
theorem one_5 {o : Nat} : ∀ {k : Nat} {σ : St} {p : Int32} {v : Int64}, sI (xOne k σ p v) 5 o = sI σ 5 o ∨ sI (xOne k σ p v) 5 o = -1 := by
  intro k
  induction k with
  | zero => intro σ p v; exact Or.inl rfl
  | succ k ih =>
    intro σ p v
    by_cases hv : 0 < v
    · cases hb : fst (sI σ) 1 (sn σ) with
      | none => rw [xOne_nb hb]; exact Or.inl rfl
      | some b =>
        cases ha : fst (sI σ) 0 (sn σ) with
        | none => rw [xOne_na ha]; exact Or.inl rfl
        | some a =>
          rw [xOne_go hv hb ha]
          rcases ih (σ := xDl σ b a p v) (p := p) (v := v - (oQ σ b a v).toInt64) with h | h
          · rw [h]; exact dl_5
          · exact Or.inr h
    · rw [xOne_no hv]; exact Or.inl rfl
theorem op_5 {σ : St} {a : AU} (hI : Inv0 σ) {o : Nat} (ho : o < sn σ) : sI (xOp σ a) 5 o = -1 ∨ rs (sI (xOp σ a)) o = true := by
  have key : ∀ τ : St, (sI τ 5 o = sI σ 5 o ∨ sI τ 5 o = -1) → sI τ 5 o = -1 ∨ rs (sI τ) o = true := by
    intro τ h
    rcases h with h | h
    · by_cases e : sI σ 5 o = -1
      · exact Or.inl (h.trans e)
      · exact Or.inr ((rs_at h).trans (rs_t hI ho e))
    · exact Or.inl h
  unfold xOp
  split
  · exact key _ (one_5 (k := 250) (σ := σ) (p := a.1) (v := a.2.1))
  · exact key _ (Or.inl rfl)
theorem one_sn : ∀ {k : Nat} {σ : St} {p : Int32} {v : Int64}, sn (xOne k σ p v) = sn σ := by
  intro k
  induction k with
  | zero => intro σ p v; rfl
  | succ k ih =>
    intro σ p v
    by_cases hv : 0 < v
    · cases hb : fst (sI σ) 1 (sn σ) with
      | none => rw [xOne_nb hb]
      | some b =>
        cases ha : fst (sI σ) 0 (sn σ) with
        | none => rw [xOne_na ha]
        | some a => rw [xOne_go hv hb ha, ih, dl_sn]
    · rw [xOne_no hv]
theorem op_sn {σ : St} {a : AU} : sn (xOp σ a) = sn σ := by
  unfold xOp
  split
  · exact one_sn
  · rfl
set_option maxHeartbeats 4000000 in
set_option maxRecDepth 100000 in
theorem c_M_openS (l : Launch) (γ : mG) (M : mMap) (μ : RK) (σ : St) (ε : RE) (hR : RM γ M μ σ ε) (hph : sph σ = 1) : Met l y_M_open w_M_open ({ frames := 0, cells := 0, slots := 0, locals := 0 } : Room) (mPc γ M [.ref (rx μ)]) (mQl γ (fun _ M' => RQ γ M M' μ σ (1, ε.2))) 0 0 (mA (gz γ)) := by
  refine m_enter (by decide) (Nat.le_of_ble_eq_true rfl) ?_
  intro p e s m below meth c ls S hr hlk hnm hl hw
  have hl : lv_has ls 8 [(0, .ref (rx μ))] := hl
  have hR := hR.q
  refine lv_aload_n S.1 S.2.1 d_M_open_0 rfl (lv_at hl 0 rfl) ?_
  refine lv_aload_n S.1 S.2.1 d_M_open_1 rfl (lv_at hl 0 rfl) ?_
  refine m_get S hw cl_M hR.obj 1 (by decide) g689 (fun _ h => h) rfl d_M_open_2 ?_
  refine lv_iconst (v := 1) S.1 S.2.1 d_M_open_5 (by decide) ?_
  refine lv_icmp_ne (tgt := 13) S.1 S.2.1 d_M_open_6 rfl (fun h => absurd hph h) (fun _ => ?_)
  refine lv_iconst (v := 1) S.1 S.2.1 d_M_open_9 (by decide) ?_
  refine lv_goto (tgt := 14) S.1 S.2.1 d_M_open_10 rfl ?_
  refine m_rput (σ' := σ) (ε' := (1, ε.2.1, ε.2.2.1, ε.2.2.2.1, ε.2.2.2.2.1, ε.2.2.2.2.2)) S hw hR 0 (by decide) g688 rfl rfl rfl d_M_open_14 rfl (fun i hi => rfl) (fun H locs N1 hR hw => ?_)
  refine lv_aload_n S.1 S.2.1 d_M_open_17 rfl (lv_at hl 0 rfl) ?_
  refine m_get S hw cl_M hR.obj 0 (by decide) g688 (fun _ h => h) rfl d_M_open_18 ?_
  refine lv_if_le (tgt := 26) S.1 S.2.1 d_M_open_21 rfl (fun h => absurd h (show ¬ (1 : Int32) ≤ 0 by decide)) (fun _ => ?_)
  refine lv_lconst (v := 0) S.1 S.2.1 d_M_open_24 (by decide) ?_
  exact m_lret S hlk hr hw hR (Nat.le_refl _) (Nat.le_refl _) d_M_open_25
theorem sts_oPh {σ : St} {o : Nat} : xStart (oPh (xSts σ o) 1) o = oPh (xSts σ (o + 1)) 1 := by
  show _ = oPh (xStart (xSts σ o) o) 1
  unfold xStart
  show (if sI (xSts σ o) 5 o = -1 then _ else if sI (xSts σ o) 2 o = 0 then _ else _) = _
  by_cases h1 : sI (xSts σ o) 5 o = -1
  · rw [if_pos h1, if_pos h1]
  · rw [if_neg h1, if_neg h1]
    by_cases h2 : sI (xSts σ o) 2 o = 0
    · rw [if_pos h2, if_pos h2]; rfl
    · rw [if_neg h2, if_neg h2]; rfl
set_option maxHeartbeats 4000000 in
set_option maxRecDepth 100000 in
theorem c_M_open (l : Launch) (γ : mG) (M : mMap) (μ : RK) (σ : St) (ε : RE) (hR : RM γ M μ σ ε) (L : Nat → List Nat) (hI : Inv0 σ) (hL : LN σ L) (hB : BD σ) (hph : ¬ sph σ = 1) (hOK : OneOK 250 σ (aAt (sI σ) (L 1) (L 2) (srf σ) 2000).1 (aAt (sI σ) (L 1) (L 2) (srf σ) 2000).2.1) (σ1 : St) (hσ1 : xOp σ (aAt (sI σ) (L 1) (L 2) (srf σ) 2000) = σ1) (hT : stn σ1 ≤ 30000) : Met l y_M_open w_M_open ({ frames := 3, cells := 0, slots := 0, locals := 70 } : Room) (mPc γ M [.ref (rx μ)]) (mQl γ (fun r M' => r = (aAt (sI σ) (L 1) (L 2) (srf σ) 2000).2.1 ∧ ∃ wf of a, RQ γ M M' μ (oPh (xSts σ1 (sn σ)) 1) (0, wf, of, a))) 0 0 (mA (gz γ)) := by
  refine m_enter (by decide) (Nat.le_of_ble_eq_true rfl) ?_
  intro p e s m below meth c ls S hr hlk hnm hl hw
  have hl : lv_has ls 8 [(0, .ref (rx μ))] := hl
  have hR := hR.q
  have hn := hI.1
  have hO := hI.2.1
  have hs1 : sn σ1 = sn σ := by rw [← hσ1]; exact op_sn
  have hT : stn (xOne 250 σ (aAt (sI σ) (L 1) (L 2) (srf σ) 2000).1 (aAt (sI σ) (L 1) (L 2) (srf σ) 2000).2.1) ≤ 30000 := by rw [← hσ1] at hT; unfold xOp at hT; split at hT; exact hT; rename_i z; rw [xOne_no z]; exact hT
  refine lv_aload_n S.1 S.2.1 d_M_open_0 rfl (lv_at hl 0 rfl) ?_
  refine lv_aload_n S.1 S.2.1 d_M_open_1 rfl (lv_at hl 0 rfl) ?_
  refine m_get S hw cl_M hR.obj 1 (by decide) g689 (fun _ h => h) rfl d_M_open_2 ?_
  refine lv_iconst (v := 1) S.1 S.2.1 d_M_open_5 (by decide) ?_
  refine lv_icmp_ne (tgt := 13) S.1 S.2.1 d_M_open_6 rfl (fun _ => ?_) (fun h => absurd h hph)
  refine lv_iconst (v := 0) S.1 S.2.1 d_M_open_13 (by decide) ?_
  refine m_rput (σ' := σ) (ε' := (0, ε.2.1, ε.2.2.1, ε.2.2.2.1, ε.2.2.2.2.1, ε.2.2.2.2.2)) S hw hR 0 (by decide) g688 rfl rfl rfl d_M_open_14 rfl (fun i hi => rfl) (fun H locs N1 hR hw => ?_)
  refine lv_aload_n S.1 S.2.1 d_M_open_17 rfl (lv_at hl 0 rfl) ?_
  refine m_get S hw cl_M hR.obj 0 (by decide) g688 (fun _ h => h) rfl d_M_open_18 ?_
  refine lv_if_le (tgt := 26) S.1 S.2.1 d_M_open_21 rfl (fun _ => ?_) (fun h => absurd (show (0 : Int32) ≤ 0 by decide) h)
  refine lv_aload_n S.1 S.2.1 d_M_open_26 rfl (lv_at hl 0 rfl) ?_
  refine m_cv hw (va_runV (As := []) (rest := []) S (c_M_clear l γ N1 μ σ (0, ε.2.1, ε.2.2.1, ε.2.2.2.1, ε.2.2.2.2.1, ε.2.2.2.2.2) hR.1 L hI hL hB) (m_cwV 0 S g860 g862 g38 g48 g863 rfl rfl ⟨by decide +kernel, by decide +kernel, by decide +kernel⟩ ⟨(Nat.le_of_ble_eq_true rfl), (Nat.le_of_ble_eq_true rfl)⟩) (hw.preV hR.obj cl_M.1) rfl rfl hl.1 rfl (lv_room (Nat.le_of_ble_eq_true rfl)) d_M_open_27 ⟨(Nat.zero_le _), (Nat.zero_le _)⟩) (fun N2 H locs hp hw => ?_)
  obtain ⟨wf, of, hp⟩ := hp
  have hR := hp.tr hR
  refine lv_aload_n S.1 S.2.1 d_M_open_30 rfl (lv_at hl 0 rfl) ?_
  refine m_get S hw cl_M hR.obj 24 (by decide) g712 (fun _ h => h) rfl d_M_open_31 ?_
  refine lv_lstore_n S.1 S.2.1 d_M_open_34 rfl hl (by decide) rfl (fun ls hl => ?_)
  have hl : lv_has ls 8 [(1, .long ((aAt (sI σ) (L 1) (L 2) (srf σ) 2000).2.1)), (0, .ref (rx μ))] := hl
  refine lv_lload_n S.1 S.2.1 d_M_open_35 rfl (lv_at hl 0 rfl) ?_
  refine lv_lstore_n S.1 S.2.1 d_M_open_36 rfl hl (by decide) rfl (fun ls hl => ?_)
  have hl : lv_has ls 8 [(3, .long ((aAt (sI σ) (L 1) (L 2) (srf σ) 2000).2.1)), (1, .long ((aAt (sI σ) (L 1) (L 2) (srf σ) 2000).2.1)), (0, .ref (rx μ))] := hl
  have starts : ∀ (d o : Nat) (Mc : mMap) (H : Heap) (locs : List Loc) (ls : Array Slot), o + d = sn σ → RQ γ M Mc μ (oPh (xSts σ1 o) 1) (0, wf, of, aAt (sI σ) (L 1) (L 2) (srf σ) 2000) → lv_has ls 8 [(5, .int (nI o)), (1, .long ((aAt (sI σ) (L 1) (L 2) (srf σ) 2000).2.1)), (0, .ref (rx μ))] → mW γ Mc s H locs → W p l e ({ frames := 3, cells := 0, slots := 0, locals := 70 } : Room) s m #[.ref (rx μ)] below meth c H locs 0 0 (MQ below (mQl γ (fun r M' => r = (aAt (sI σ) (L 1) (L 2) (srf σ) 2000).2.1 ∧ ∃ wf of a, RQ γ M M' μ (oPh (xSts σ1 (sn σ)) 1) (0, wf, of, a))) #[.ref (rx μ)] s 0 0 (mA (gz γ))) (F0 m 194 ls []) := by
    intro d
    induction d with
    | zero =>
      intro o Mc H locs ls hi hR hl hw
      have hso : sn (oPh (xSts σ1 o) 1) = sn σ := ((sts_sn σ1 o).1).trans hs1
      have hi2 : o = sn σ := by omega
      refine lv_iload S.1 S.2.1 d_M_open_194 (lv_at hl 0 rfl) ?_
      refine lv_aload_n S.1 S.2.1 d_M_open_196 rfl (lv_at hl 2 rfl) ?_
      refine m_get S hw cl_M hR.obj 5 (by decide) g693 (fun _ h => h) rfl d_M_open_197 ?_
      refine lv_icmp_ge (tgt := 249) S.1 S.2.1 d_M_open_200 rfl (fun _ => ?_) (fun h => absurd (by rw [hso]; exact nI_le (by omega) (by omega)) h)
      refine lv_lload_n S.1 S.2.1 d_M_open_249 rfl (lv_at hl 1 rfl) ?_
      exact m_lret S hlk hr hw (⟨rfl, wf, of, _, by rw [← hi2]; exact hR⟩) (Nat.le_refl _) (Nat.le_refl _) d_M_open_250
    | succ d ih =>
      intro o Mc H locs ls hi hR hl hw
      have hso : sn (oPh (xSts σ1 o) 1) = sn σ := ((sts_sn σ1 o).1).trans hs1
      have ho : o < sn σ := by omega
      have hos : o < sn (oPh (xSts σ1 o) 1) := by rw [hso]; exact ho
      have hns : sn (oPh (xSts σ1 o) 1) ≤ 250 := by rw [hso]; exact hn
      have hlate : sI (oPh (xSts σ1 o) 1) 5 o = sI σ1 5 o := sts_late (Nat.le_refl _)
      have hrr : sI (oPh (xSts σ1 o) 1) 5 o = -1 ∨ rs (sI (oPh (xSts σ1 o) 1)) o = true := by rw [hlate, rs_at hlate, ← hσ1]; exact op_5 hI ho
      refine lv_iload S.1 S.2.1 d_M_open_194 (lv_at hl 0 rfl) ?_
      refine lv_aload_n S.1 S.2.1 d_M_open_196 rfl (lv_at hl 2 rfl) ?_
      refine m_get S hw cl_M hR.obj 5 (by decide) g693 (fun _ h => h) rfl d_M_open_197 ?_
      refine lv_icmp_ge (tgt := 249) S.1 S.2.1 d_M_open_200 rfl (fun h => absurd h (by rw [hso]; exact nI_ge (by omega) (by omega))) (fun _ => ?_)
      refine lv_aload_n S.1 S.2.1 d_M_open_203 rfl (lv_at hl 2 rfl) ?_
      refine lv_iload S.1 S.2.1 d_M_open_204 (lv_at hl 0 rfl) ?_
      refine m_ci hw (va_runV (As := [.int (nI o)]) (rest := []) S (c_M_rests l γ Mc μ (oPh (xSts σ1 o) 1) (0, wf, of, (aAt (sI σ) (L 1) (L 2) (srf σ) 2000).1, (aAt (sI σ) (L 1) (L 2) (srf σ) 2000).2.1, (aAt (sI σ) (L 1) (L 2) (srf σ) 2000).2.2) hR.1 hns o hos) (m_cwV 1 S g793 g795 g26 g48 g796 rfl rfl ⟨by decide +kernel, by decide +kernel, by decide +kernel⟩ ⟨(Nat.le_of_ble_eq_true rfl), (Nat.le_of_ble_eq_true rfl)⟩) (hw.preV hR.obj cl_M.1) rfl rfl hl.1 rfl (lv_room (Nat.le_of_ble_eq_true rfl)) d_M_open_206 ⟨(Nat.zero_le _), (Nat.zero_le _)⟩) (fun r1 M1 H locs hp hw => ?_)
      obtain ⟨rfl, hM1⟩ := hp
      rw [hM1] at hw
      refine lv_if_eq (tgt := 228) S.1 S.2.1 d_M_open_209 rfl (fun h209 => ?_) (fun h209 => ?_)
      · refine lv_aload_n S.1 S.2.1 d_M_open_228 rfl (lv_at hl 2 rfl) ?_
        refine lv_iload S.1 S.2.1 d_M_open_229 (lv_at hl 0 rfl) ?_
        refine m_ci hw (va_runV (As := [.int (nI o)]) (rest := []) S (c_M_rests l γ Mc μ (oPh (xSts σ1 o) 1) (0, wf, of, (aAt (sI σ) (L 1) (L 2) (srf σ) 2000).1, (aAt (sI σ) (L 1) (L 2) (srf σ) 2000).2.1, (aAt (sI σ) (L 1) (L 2) (srf σ) 2000).2.2) hR.1 (by show sn (oPh (xSts σ1 o) 1) ≤ 250; exact hns) o hos) (m_cwV 1 S g793 g795 g26 g48 g796 rfl rfl ⟨by decide +kernel, by decide +kernel, by decide +kernel⟩ ⟨(Nat.le_of_ble_eq_true rfl), (Nat.le_of_ble_eq_true rfl)⟩) (hw.preV hR.obj cl_M.1) rfl rfl hl.1 rfl (lv_room (Nat.le_of_ble_eq_true rfl)) d_M_open_231 ⟨(Nat.zero_le _), (Nat.zero_le _)⟩) (fun r1 M1 H locs hp hw => ?_)
        obtain ⟨rfl, hM1⟩ := hp
        rw [hM1] at hw
        refine lv_if_eq (tgt := 243) S.1 S.2.1 d_M_open_234 rfl (fun _ => ?_) (fun h => absurd h209 h)
        refine lv_iinc (k := 0) (v := nI (o + 1)) S.1 S.2.1 d_M_open_243 hl rfl (nI_1 o) (by decide) rfl (fun ls hl => ?_)
        have hl : lv_has ls 8 [(5, .int (nI (o + 1))), (1, .long ((aAt (sI σ) (L 1) (L 2) (srf σ) 2000).2.1)), (0, .ref (rx μ))] := hl
        refine lv_goto (tgt := 194) S.1 S.2.1 d_M_open_246 rfl ?_
        have hl := lv_sub hl [0, 1, 2] rfl
        have hX : xStart (oPh (xSts σ1 o) 1) o = oPh (xSts σ1 o) 1 := if_pos (hrr.resolve_right (fun z => by rw [b2i_0.mp h209] at z; cases z))
        rw [← hX] at hR
        have hY : xStart (oPh (xSts σ1 o) 1) o = oPh (xSts σ1 (o + 1)) 1 := sts_oPh
        rw [hY] at hR
        exact ih (o + 1) Mc H locs ls (by omega) hR hl hw
      · refine lv_aload_n S.1 S.2.1 d_M_open_212 rfl (lv_at hl 2 rfl) ?_
        refine m_get S hw cl_M hR.obj 8 (by decide) g696 (fun _ h => h) rfl d_M_open_213 ?_
        refine lv_iload S.1 S.2.1 d_M_open_216 (lv_at hl 0 rfl) ?_
        refine m_rld (o := o) S hw hR 2 (by decide) (by omega) d_M_open_218 ?_
        refine lv_if_ne (tgt := 228) S.1 S.2.1 d_M_open_219 rfl (fun h219 => ?_) (fun h219 => ?_)
        · refine lv_aload_n S.1 S.2.1 d_M_open_228 rfl (lv_at hl 2 rfl) ?_
          refine lv_iload S.1 S.2.1 d_M_open_229 (lv_at hl 0 rfl) ?_
          refine m_ci hw (va_runV (As := [.int (nI o)]) (rest := []) S (c_M_rests l γ Mc μ (oPh (xSts σ1 o) 1) (0, wf, of, (aAt (sI σ) (L 1) (L 2) (srf σ) 2000).1, (aAt (sI σ) (L 1) (L 2) (srf σ) 2000).2.1, (aAt (sI σ) (L 1) (L 2) (srf σ) 2000).2.2) hR.1 (by show sn (oPh (xSts σ1 o) 1) ≤ 250; exact hns) o hos) (m_cwV 1 S g793 g795 g26 g48 g796 rfl rfl ⟨by decide +kernel, by decide +kernel, by decide +kernel⟩ ⟨(Nat.le_of_ble_eq_true rfl), (Nat.le_of_ble_eq_true rfl)⟩) (hw.preV hR.obj cl_M.1) rfl rfl hl.1 rfl (lv_room (Nat.le_of_ble_eq_true rfl)) d_M_open_231 ⟨(Nat.zero_le _), (Nat.zero_le _)⟩) (fun r1 M1 H locs hp hw => ?_)
          obtain ⟨rfl, hM1⟩ := hp
          rw [hM1] at hw
          refine lv_if_eq (tgt := 243) S.1 S.2.1 d_M_open_234 rfl (fun h => absurd h h209) (fun _ => ?_)
          refine lv_aload_n S.1 S.2.1 d_M_open_237 rfl (lv_at hl 2 rfl) ?_
          refine lv_iload S.1 S.2.1 d_M_open_238 (lv_at hl 0 rfl) ?_
          refine m_cv hw (va_runV (As := [.int (nI o)]) (rest := []) S (c_M_show l γ Mc μ (oPh (xSts σ1 o) 1) (0, wf, of, (aAt (sI σ) (L 1) (L 2) (srf σ) 2000).1, (aAt (sI σ) (L 1) (L 2) (srf σ) 2000).2.1, (aAt (sI σ) (L 1) (L 2) (srf σ) 2000).2.2) hR.1 hns o hos) (m_cwV 1 S g836 g838 g36 g48 g839 rfl rfl ⟨by decide +kernel, by decide +kernel, by decide +kernel⟩ ⟨(Nat.le_of_ble_eq_true rfl), (Nat.le_of_ble_eq_true rfl)⟩) (hw.preV hR.obj cl_M.1) rfl rfl hl.1 rfl (lv_room (Nat.le_of_ble_eq_true rfl)) d_M_open_240 ⟨(Nat.zero_le _), (Nat.zero_le _)⟩) (fun N3 H locs hp hw => ?_)
          have hR := hp.tr hR
          refine lv_iinc (k := 0) (v := nI (o + 1)) S.1 S.2.1 d_M_open_243 hl rfl (nI_1 o) (by decide) rfl (fun ls hl => ?_)
          have hl : lv_has ls 8 [(5, .int (nI (o + 1))), (1, .long ((aAt (sI σ) (L 1) (L 2) (srf σ) 2000).2.1)), (0, .ref (rx μ))] := hl
          refine lv_goto (tgt := 194) S.1 S.2.1 d_M_open_246 rfl ?_
          have hl := lv_sub hl [0, 1, 2] rfl
          have hX : xStart (oPh (xSts σ1 o) 1) o = xShow (oPh (xSts σ1 o) 1) o := (if_neg (fun z => by have z2 := rs_m1 z; rw [b2i_n0.mp h209] at z2; cases z2)).trans (if_neg h219)
          rw [← hX] at hR
          have hY : xStart (oPh (xSts σ1 o) 1) o = oPh (xSts σ1 (o + 1)) 1 := sts_oPh
          rw [hY] at hR
          exact ih (o + 1) N3 H locs ls (by omega) hR hl hw
        · refine lv_aload_n S.1 S.2.1 d_M_open_222 rfl (lv_at hl 2 rfl) ?_
          refine lv_iload S.1 S.2.1 d_M_open_223 (lv_at hl 0 rfl) ?_
          refine m_cv hw (va_runV (As := [.int (nI o)]) (rest := []) S (c_M_end l γ Mc μ (oPh (xSts σ1 o) 1) (0, wf, of, (aAt (sI σ) (L 1) (L 2) (srf σ) 2000).1, (aAt (sI σ) (L 1) (L 2) (srf σ) 2000).2.1, (aAt (sI σ) (L 1) (L 2) (srf σ) 2000).2.2) hR.1 hns o hos) (m_cwV 1 S g828 g830 g34 g48 g831 rfl rfl ⟨by decide +kernel, by decide +kernel, by decide +kernel⟩ ⟨(Nat.le_of_ble_eq_true rfl), (Nat.le_of_ble_eq_true rfl)⟩) (hw.preV hR.obj cl_M.1) rfl rfl hl.1 rfl (lv_room (Nat.le_of_ble_eq_true rfl)) d_M_open_225 ⟨(Nat.zero_le _), (Nat.zero_le _)⟩) (fun N4 H locs hp hw => ?_)
          have hR := hp.tr hR
          refine lv_aload_n S.1 S.2.1 d_M_open_228 rfl (lv_at hl 2 rfl) ?_
          refine lv_iload S.1 S.2.1 d_M_open_229 (lv_at hl 0 rfl) ?_
          refine m_ci hw (va_runV (As := [.int (nI o)]) (rest := []) S (c_M_rests l γ N4 μ (xEnd (oPh (xSts σ1 o) 1) o) (0, wf, of, (aAt (sI σ) (L 1) (L 2) (srf σ) 2000).1, (aAt (sI σ) (L 1) (L 2) (srf σ) 2000).2.1, (aAt (sI σ) (L 1) (L 2) (srf σ) 2000).2.2) hR.1 (by show sn (oPh (xSts σ1 o) 1) ≤ 250; exact hns) o hos) (m_cwV 1 S g793 g795 g26 g48 g796 rfl rfl ⟨by decide +kernel, by decide +kernel, by decide +kernel⟩ ⟨(Nat.le_of_ble_eq_true rfl), (Nat.le_of_ble_eq_true rfl)⟩) (hw.preV hR.obj cl_M.1) rfl rfl hl.1 rfl (lv_room (Nat.le_of_ble_eq_true rfl)) d_M_open_231 ⟨(Nat.zero_le _), (Nat.zero_le _)⟩) (fun r1 M1 H locs hp hw => ?_)
          obtain ⟨rfl, hM1⟩ := hp
          rw [hM1] at hw
          refine lv_if_eq (tgt := 243) S.1 S.2.1 d_M_open_234 rfl (fun _ => ?_) (fun h => absurd (b2i_0.mpr (rs_m1 (by show s1 (s1 (s1 (sI (oPh (xSts σ1 o) 1)) 3 o 0) 4 o 0) 5 o (-1) 5 o = -1; exact s1_ss _ _ _ _))) h)
          refine lv_iinc (k := 0) (v := nI (o + 1)) S.1 S.2.1 d_M_open_243 hl rfl (nI_1 o) (by decide) rfl (fun ls hl => ?_)
          have hl : lv_has ls 8 [(5, .int (nI (o + 1))), (1, .long ((aAt (sI σ) (L 1) (L 2) (srf σ) 2000).2.1)), (0, .ref (rx μ))] := hl
          refine lv_goto (tgt := 194) S.1 S.2.1 d_M_open_246 rfl ?_
          have hl := lv_sub hl [0, 1, 2] rfl
          have hX : xStart (oPh (xSts σ1 o) 1) o = xEnd (oPh (xSts σ1 o) 1) o := (if_neg (fun z => by have z2 := rs_m1 z; rw [b2i_n0.mp h209] at z2; cases z2)).trans (if_pos h219)
          rw [← hX] at hR
          have hY : xStart (oPh (xSts σ1 o) 1) o = oPh (xSts σ1 (o + 1)) 1 := sts_oPh
          rw [hY] at hR
          exact ih (o + 1) N4 H locs ls (by omega) hR hl hw
  have tail : ∀ (Mc : mMap) (H : Heap) (locs : List Loc) (ls : Array Slot), RQ γ M Mc μ (xOne 250 σ (aAt (sI σ) (L 1) (L 2) (srf σ) 2000).1 (aAt (sI σ) (L 1) (L 2) (srf σ) 2000).2.1) (0, wf, of, aAt (sI σ) (L 1) (L 2) (srf σ) 2000) → lv_has ls 8 [(1, .long ((aAt (sI σ) (L 1) (L 2) (srf σ) 2000).2.1)), (0, .ref (rx μ))] → mW γ Mc s H locs → W p l e ({ frames := 3, cells := 0, slots := 0, locals := 70 } : Room) s m #[.ref (rx μ)] below meth c H locs 0 0 (MQ below (mQl γ (fun r M' => r = (aAt (sI σ) (L 1) (L 2) (srf σ) 2000).2.1 ∧ ∃ wf of a, RQ γ M M' μ (oPh (xSts σ1 (sn σ)) 1) (0, wf, of, a))) #[.ref (rx μ)] s 0 0 (mA (gz γ))) (F0 m 165 ls []) := by
    intro Mc H locs ls hR hl hw
    refine lv_aload_n S.1 S.2.1 d_M_open_165 rfl (lv_at hl 1 rfl) ?_
    refine lv_lload_n S.1 S.2.1 d_M_open_166 rfl (lv_at hl 0 rfl) ?_
    refine lv_lconst (v := 0) S.1 S.2.1 d_M_open_167 (by decide) ?_
    refine W.lcmp S.1 S.2.1 d_M_open_168 ?_
    refine lv_if_le (tgt := 179) S.1 S.2.1 d_M_open_169 rfl (fun h169 => ?_) (fun h169 => ?_)
    · refine lv_aload_n S.1 S.2.1 d_M_open_179 rfl (lv_at hl 1 rfl) ?_
      refine m_get S hw cl_M hR.obj 2 (by decide) g690 (fun _ h => h) rfl d_M_open_180 ?_
      refine m_rput (σ' := ((sn (xOne 250 σ (aAt (sI σ) (L 1) (L 2) (srf σ) 2000).1 (aAt (sI σ) (L 1) (L 2) (srf σ) 2000).2.1), sI (xOne 250 σ (aAt (sI σ) (L 1) (L 2) (srf σ) 2000).1 (aAt (sI σ) (L 1) (L 2) (srf σ) 2000).2.1)), (sph (xOne 250 σ (aAt (sI σ) (L 1) (L 2) (srf σ) 2000).1 (aAt (sI σ) (L 1) (L 2) (srf σ) 2000).2.1), srf (xOne 250 σ (aAt (sI σ) (L 1) (L 2) (srf σ) 2000).1 (aAt (sI σ) (L 1) (L 2) (srf σ) 2000).2.1), sbd (xOne 250 σ (aAt (sI σ) (L 1) (L 2) (srf σ) 2000).1 (aAt (sI σ) (L 1) (L 2) (srf σ) 2000).2.1), srk (xOne 250 σ (aAt (sI σ) (L 1) (L 2) (srf σ) 2000).1 (aAt (sI σ) (L 1) (L 2) (srf σ) 2000).2.1)), stn (xOne 250 σ (aAt (sI σ) (L 1) (L 2) (srf σ) 2000).1 (aAt (sI σ) (L 1) (L 2) (srf σ) 2000).2.1), sT (xOne 250 σ (aAt (sI σ) (L 1) (L 2) (srf σ) 2000).1 (aAt (sI σ) (L 1) (L 2) (srf σ) 2000).2.1), sal (xOne 250 σ (aAt (sI σ) (L 1) (L 2) (srf σ) 2000).1 (aAt (sI σ) (L 1) (L 2) (srf σ) 2000).2.1))) (ε' := (0, wf, of, (aAt (sI σ) (L 1) (L 2) (srf σ) 2000).1, (aAt (sI σ) (L 1) (L 2) (srf σ) 2000).2.1, (aAt (sI σ) (L 1) (L 2) (srf σ) 2000).2.2)) S hw hR 2 (by decide) g690 rfl rfl rfl d_M_open_183 rfl (fun i hi => rfl) (fun H locs N5 hR hw => ?_)
      refine lv_aload_n S.1 S.2.1 d_M_open_186 rfl (lv_at hl 1 rfl) ?_
      refine lv_iconst (v := 1) S.1 S.2.1 d_M_open_187 (by decide) ?_
      refine m_rput (σ' := ((sn (xOne 250 σ (aAt (sI σ) (L 1) (L 2) (srf σ) 2000).1 (aAt (sI σ) (L 1) (L 2) (srf σ) 2000).2.1), sI (xOne 250 σ (aAt (sI σ) (L 1) (L 2) (srf σ) 2000).1 (aAt (sI σ) (L 1) (L 2) (srf σ) 2000).2.1)), (1, srf (xOne 250 σ (aAt (sI σ) (L 1) (L 2) (srf σ) 2000).1 (aAt (sI σ) (L 1) (L 2) (srf σ) 2000).2.1), sbd (xOne 250 σ (aAt (sI σ) (L 1) (L 2) (srf σ) 2000).1 (aAt (sI σ) (L 1) (L 2) (srf σ) 2000).2.1), srk (xOne 250 σ (aAt (sI σ) (L 1) (L 2) (srf σ) 2000).1 (aAt (sI σ) (L 1) (L 2) (srf σ) 2000).2.1)), stn (xOne 250 σ (aAt (sI σ) (L 1) (L 2) (srf σ) 2000).1 (aAt (sI σ) (L 1) (L 2) (srf σ) 2000).2.1), sT (xOne 250 σ (aAt (sI σ) (L 1) (L 2) (srf σ) 2000).1 (aAt (sI σ) (L 1) (L 2) (srf σ) 2000).2.1), sal (xOne 250 σ (aAt (sI σ) (L 1) (L 2) (srf σ) 2000).1 (aAt (sI σ) (L 1) (L 2) (srf σ) 2000).2.1))) (ε' := (0, wf, of, (aAt (sI σ) (L 1) (L 2) (srf σ) 2000).1, (aAt (sI σ) (L 1) (L 2) (srf σ) 2000).2.1, (aAt (sI σ) (L 1) (L 2) (srf σ) 2000).2.2)) S hw hR 1 (by decide) g689 rfl rfl rfl d_M_open_188 rfl (fun i hi => rfl) (fun H locs N6 hR hw => ?_)
      refine lv_iconst (v := 0) S.1 S.2.1 d_M_open_191 (by decide) ?_
      refine lv_istore S.1 S.2.1 d_M_open_192 hl (by decide) rfl (fun ls hl => ?_)
      have hl : lv_has ls 8 [(5, .int 0), (1, .long ((aAt (sI σ) (L 1) (L 2) (srf σ) 2000).2.1)), (0, .ref (rx μ))] := hl
      have hl := lv_sub hl [0, 1, 2] rfl
      have hX : ((sn (xOne 250 σ (aAt (sI σ) (L 1) (L 2) (srf σ) 2000).1 (aAt (sI σ) (L 1) (L 2) (srf σ) 2000).2.1), sI (xOne 250 σ (aAt (sI σ) (L 1) (L 2) (srf σ) 2000).1 (aAt (sI σ) (L 1) (L 2) (srf σ) 2000).2.1)), (1, srf (xOne 250 σ (aAt (sI σ) (L 1) (L 2) (srf σ) 2000).1 (aAt (sI σ) (L 1) (L 2) (srf σ) 2000).2.1), sbd (xOne 250 σ (aAt (sI σ) (L 1) (L 2) (srf σ) 2000).1 (aAt (sI σ) (L 1) (L 2) (srf σ) 2000).2.1), srk (xOne 250 σ (aAt (sI σ) (L 1) (L 2) (srf σ) 2000).1 (aAt (sI σ) (L 1) (L 2) (srf σ) 2000).2.1)), stn (xOne 250 σ (aAt (sI σ) (L 1) (L 2) (srf σ) 2000).1 (aAt (sI σ) (L 1) (L 2) (srf σ) 2000).2.1), sT (xOne 250 σ (aAt (sI σ) (L 1) (L 2) (srf σ) 2000).1 (aAt (sI σ) (L 1) (L 2) (srf σ) 2000).2.1), sal (xOne 250 σ (aAt (sI σ) (L 1) (L 2) (srf σ) 2000).1 (aAt (sI σ) (L 1) (L 2) (srf σ) 2000).2.1)) = oPh (xSts σ1 0) 1 := by rw [← hσ1]; unfold xOp; rw [if_neg (fun z => absurd ((lg_cmp_le _ _).mp h169) (Int64.not_le.mpr z)), xOne_no (fun z => absurd ((lg_cmp_le _ _).mp h169) (Int64.not_le.mpr z))]; rfl
      rw [hX] at hR
      exact starts (sn σ) 0 N6 H locs ls (Nat.zero_add _) hR hl hw
    · refine lv_aload_n S.1 S.2.1 d_M_open_172 rfl (lv_at hl 1 rfl) ?_
      refine m_get S hw cl_M hR.obj 23 (by decide) g711 (fun _ h => h) rfl d_M_open_173 ?_
      refine lv_goto (tgt := 183) S.1 S.2.1 d_M_open_176 rfl ?_
      refine m_rput (σ' := ((sn (xOne 250 σ (aAt (sI σ) (L 1) (L 2) (srf σ) 2000).1 (aAt (sI σ) (L 1) (L 2) (srf σ) 2000).2.1), sI (xOne 250 σ (aAt (sI σ) (L 1) (L 2) (srf σ) 2000).1 (aAt (sI σ) (L 1) (L 2) (srf σ) 2000).2.1)), (sph (xOne 250 σ (aAt (sI σ) (L 1) (L 2) (srf σ) 2000).1 (aAt (sI σ) (L 1) (L 2) (srf σ) 2000).2.1), (aAt (sI σ) (L 1) (L 2) (srf σ) 2000).1, sbd (xOne 250 σ (aAt (sI σ) (L 1) (L 2) (srf σ) 2000).1 (aAt (sI σ) (L 1) (L 2) (srf σ) 2000).2.1), srk (xOne 250 σ (aAt (sI σ) (L 1) (L 2) (srf σ) 2000).1 (aAt (sI σ) (L 1) (L 2) (srf σ) 2000).2.1)), stn (xOne 250 σ (aAt (sI σ) (L 1) (L 2) (srf σ) 2000).1 (aAt (sI σ) (L 1) (L 2) (srf σ) 2000).2.1), sT (xOne 250 σ (aAt (sI σ) (L 1) (L 2) (srf σ) 2000).1 (aAt (sI σ) (L 1) (L 2) (srf σ) 2000).2.1), sal (xOne 250 σ (aAt (sI σ) (L 1) (L 2) (srf σ) 2000).1 (aAt (sI σ) (L 1) (L 2) (srf σ) 2000).2.1))) (ε' := (0, wf, of, (aAt (sI σ) (L 1) (L 2) (srf σ) 2000).1, (aAt (sI σ) (L 1) (L 2) (srf σ) 2000).2.1, (aAt (sI σ) (L 1) (L 2) (srf σ) 2000).2.2)) S hw hR 2 (by decide) g690 rfl rfl rfl d_M_open_183 rfl (fun i hi => rfl) (fun H locs N7 hR hw => ?_)
      refine lv_aload_n S.1 S.2.1 d_M_open_186 rfl (lv_at hl 1 rfl) ?_
      refine lv_iconst (v := 1) S.1 S.2.1 d_M_open_187 (by decide) ?_
      refine m_rput (σ' := ((sn (xOne 250 σ (aAt (sI σ) (L 1) (L 2) (srf σ) 2000).1 (aAt (sI σ) (L 1) (L 2) (srf σ) 2000).2.1), sI (xOne 250 σ (aAt (sI σ) (L 1) (L 2) (srf σ) 2000).1 (aAt (sI σ) (L 1) (L 2) (srf σ) 2000).2.1)), (1, (aAt (sI σ) (L 1) (L 2) (srf σ) 2000).1, sbd (xOne 250 σ (aAt (sI σ) (L 1) (L 2) (srf σ) 2000).1 (aAt (sI σ) (L 1) (L 2) (srf σ) 2000).2.1), srk (xOne 250 σ (aAt (sI σ) (L 1) (L 2) (srf σ) 2000).1 (aAt (sI σ) (L 1) (L 2) (srf σ) 2000).2.1)), stn (xOne 250 σ (aAt (sI σ) (L 1) (L 2) (srf σ) 2000).1 (aAt (sI σ) (L 1) (L 2) (srf σ) 2000).2.1), sT (xOne 250 σ (aAt (sI σ) (L 1) (L 2) (srf σ) 2000).1 (aAt (sI σ) (L 1) (L 2) (srf σ) 2000).2.1), sal (xOne 250 σ (aAt (sI σ) (L 1) (L 2) (srf σ) 2000).1 (aAt (sI σ) (L 1) (L 2) (srf σ) 2000).2.1))) (ε' := (0, wf, of, (aAt (sI σ) (L 1) (L 2) (srf σ) 2000).1, (aAt (sI σ) (L 1) (L 2) (srf σ) 2000).2.1, (aAt (sI σ) (L 1) (L 2) (srf σ) 2000).2.2)) S hw hR 1 (by decide) g689 rfl rfl rfl d_M_open_188 rfl (fun i hi => rfl) (fun H locs N8 hR hw => ?_)
      refine lv_iconst (v := 0) S.1 S.2.1 d_M_open_191 (by decide) ?_
      refine lv_istore S.1 S.2.1 d_M_open_192 hl (by decide) rfl (fun ls hl => ?_)
      have hl : lv_has ls 8 [(5, .int 0), (1, .long ((aAt (sI σ) (L 1) (L 2) (srf σ) 2000).2.1)), (0, .ref (rx μ))] := hl
      have hl := lv_sub hl [0, 1, 2] rfl
      have hX : ((sn (xOne 250 σ (aAt (sI σ) (L 1) (L 2) (srf σ) 2000).1 (aAt (sI σ) (L 1) (L 2) (srf σ) 2000).2.1), sI (xOne 250 σ (aAt (sI σ) (L 1) (L 2) (srf σ) 2000).1 (aAt (sI σ) (L 1) (L 2) (srf σ) 2000).2.1)), (1, (aAt (sI σ) (L 1) (L 2) (srf σ) 2000).1, sbd (xOne 250 σ (aAt (sI σ) (L 1) (L 2) (srf σ) 2000).1 (aAt (sI σ) (L 1) (L 2) (srf σ) 2000).2.1), srk (xOne 250 σ (aAt (sI σ) (L 1) (L 2) (srf σ) 2000).1 (aAt (sI σ) (L 1) (L 2) (srf σ) 2000).2.1)), stn (xOne 250 σ (aAt (sI σ) (L 1) (L 2) (srf σ) 2000).1 (aAt (sI σ) (L 1) (L 2) (srf σ) 2000).2.1), sT (xOne 250 σ (aAt (sI σ) (L 1) (L 2) (srf σ) 2000).1 (aAt (sI σ) (L 1) (L 2) (srf σ) 2000).2.1), sal (xOne 250 σ (aAt (sI σ) (L 1) (L 2) (srf σ) 2000).1 (aAt (sI σ) (L 1) (L 2) (srf σ) 2000).2.1)) = oPh (xSts σ1 0) 1 := by rw [← hσ1]; unfold xOp; rw [if_pos (Int64.not_le.mp (fun z => h169 ((lg_cmp_le _ _).mpr z)))]; rfl
      rw [hX] at hR
      exact starts (sn σ) 0 N8 H locs ls (Nat.zero_add _) hR hl hw
  have loop : ∀ (k : Nat) (τ : St) (v : Int64) (Mc : mMap) (H : Heap) (locs : List Loc) (ls : Array Slot), RQ γ M Mc μ τ (0, wf, of, aAt (sI σ) (L 1) (L 2) (srf σ) 2000) → sn τ = sn σ → OneOK k τ (aAt (sI σ) (L 1) (L 2) (srf σ) 2000).1 v → xOne k τ (aAt (sI σ) (L 1) (L 2) (srf σ) 2000).1 v = (xOne 250 σ (aAt (sI σ) (L 1) (L 2) (srf σ) 2000).1 (aAt (sI σ) (L 1) (L 2) (srf σ) 2000).2.1) → lv_has ls 8 [(3, .long v), (1, .long ((aAt (sI σ) (L 1) (L 2) (srf σ) 2000).2.1)), (0, .ref (rx μ))] → mW γ Mc s H locs → W p l e ({ frames := 3, cells := 0, slots := 0, locals := 70 } : Room) s m #[.ref (rx μ)] below meth c H locs 0 0 (MQ below (mQl γ (fun r M' => r = (aAt (sI σ) (L 1) (L 2) (srf σ) 2000).2.1 ∧ ∃ wf of a, RQ γ M M' μ (oPh (xSts σ1 (sn σ)) 1) (0, wf, of, a))) #[.ref (rx μ)] s 0 0 (mA (gz γ))) (F0 m 37 ls []) := by
    intro k
    induction k with
    | zero =>
      intro τ v Mc H locs ls hR hsn hok hfin hl hw
      have hv : ¬ 0 < v := hok
      have hE : τ = (xOne 250 σ (aAt (sI σ) (L 1) (L 2) (srf σ) 2000).1 (aAt (sI σ) (L 1) (L 2) (srf σ) 2000).2.1) := hfin
      refine lv_lload_n S.1 S.2.1 d_M_open_37 rfl (lv_at hl 0 rfl) ?_
      refine lv_lconst (v := 0) S.1 S.2.1 d_M_open_38 (by decide) ?_
      refine W.lcmp S.1 S.2.1 d_M_open_39 ?_
      refine lv_if_le (tgt := 165) S.1 S.2.1 d_M_open_40 rfl (fun _ => ?_) (fun h => absurd ((lg_cmp_le _ _).mpr (Int64.not_lt.mp hv)) h)
      have hl := lv_sub hl [1, 2] rfl
      exact tail Mc H locs ls (hE ▸ hR) hl hw
    | succ k ih =>
      intro τ v Mc H locs ls hR hsn hok hfin hl hw
      by_cases hv : 0 < v
      · obtain ⟨b, a, hb, ha, hba, hok2⟩ := hok hv
        have hb1 : b < sn τ := fst_lt hb
        have ha1 : a < sn τ := fst_lt ha
        have hnt : sn τ ≤ 250 := by rw [hsn]; exact hn
        have hE := (xOne_go (k := k) (p := (aAt (sI σ) (L 1) (L 2) (srf σ) 2000).1) hv hb ha).symm.trans hfin
        have hTt : stn τ < 30000 := by have h1 := one_tn (k := k) (σ := xDl τ b a (aAt (sI σ) (L 1) (L 2) (srf σ) 2000).1 v) (p := (aAt (sI σ) (L 1) (L 2) (srf σ) 2000).1) (v := v - (oQ τ b a v).toInt64); rw [hE, dl_tn] at h1; omega
        refine lv_lload_n S.1 S.2.1 d_M_open_37 rfl (lv_at hl 0 rfl) ?_
        refine lv_lconst (v := 0) S.1 S.2.1 d_M_open_38 (by decide) ?_
        refine W.lcmp S.1 S.2.1 d_M_open_39 ?_
        refine lv_if_le (tgt := 165) S.1 S.2.1 d_M_open_40 rfl (fun h => absurd h (fun z => absurd ((lg_cmp_le _ _).mp z) (Int64.not_le.mpr hv))) (fun _ => ?_)
        refine lv_aload_n S.1 S.2.1 d_M_open_43 rfl (lv_at hl 2 rfl) ?_
        refine lv_iconst (v := 1) S.1 S.2.1 d_M_open_44 (by decide) ?_
        refine m_ci hw (va_runV (As := [.int 1]) (rest := []) S (c_M_firstOf l γ Mc μ τ (0, wf, of, (aAt (sI σ) (L 1) (L 2) (srf σ) 2000).1, (aAt (sI σ) (L 1) (L 2) (srf σ) 2000).2.1, (aAt (sI σ) (L 1) (L 2) (srf σ) 2000).2.2) hR.1 hnt 1) (m_cwV 1 S g820 g822 g32 g48 g823 rfl rfl ⟨by decide +kernel, by decide +kernel, by decide +kernel⟩ ⟨(Nat.le_of_ble_eq_true rfl), (Nat.le_of_ble_eq_true rfl)⟩) (hw.preV hR.obj cl_M.1) rfl rfl hl.1 rfl (lv_room (Nat.le_of_ble_eq_true rfl)) d_M_open_45 ⟨(Nat.zero_le _), (Nat.zero_le _)⟩) (fun r1 M1 H locs hp hw => ?_)
        obtain ⟨rfl, hM1⟩ := hp
        rw [hM1] at hw
        refine W.eq (g2 := F0 m 48 ls [.int (nI b)]) (congrArg (fun z => F0 m 48 ls [.int z]) (congrArg fI hb)) ?_
        refine lv_istore S.1 S.2.1 d_M_open_48 hl (by decide) rfl (fun ls hl => ?_)
        have hl : lv_has ls 8 [(5, .int (nI b)), (3, .long v), (1, .long ((aAt (sI σ) (L 1) (L 2) (srf σ) 2000).2.1)), (0, .ref (rx μ))] := hl
        refine lv_aload_n S.1 S.2.1 d_M_open_50 rfl (lv_at hl 3 rfl) ?_
        refine lv_iconst (v := 0) S.1 S.2.1 d_M_open_51 (by decide) ?_
        refine m_ci hw (va_runV (As := [.int 0]) (rest := []) S (c_M_firstOf l γ Mc μ τ (0, wf, of, (aAt (sI σ) (L 1) (L 2) (srf σ) 2000).1, (aAt (sI σ) (L 1) (L 2) (srf σ) 2000).2.1, (aAt (sI σ) (L 1) (L 2) (srf σ) 2000).2.2) hR.1 hnt 0) (m_cwV 1 S g820 g822 g32 g48 g823 rfl rfl ⟨by decide +kernel, by decide +kernel, by decide +kernel⟩ ⟨(Nat.le_of_ble_eq_true rfl), (Nat.le_of_ble_eq_true rfl)⟩) (hw.preV hR.obj cl_M.1) rfl rfl hl.1 rfl (lv_room (Nat.le_of_ble_eq_true rfl)) d_M_open_52 ⟨(Nat.zero_le _), (Nat.zero_le _)⟩) (fun r1 M1 H locs hp hw => ?_)
        obtain ⟨rfl, hM1⟩ := hp
        rw [hM1] at hw
        refine W.eq (g2 := F0 m 55 ls [.int (nI a)]) (congrArg (fun z => F0 m 55 ls [.int z]) (congrArg fI ha)) ?_
        refine lv_istore S.1 S.2.1 d_M_open_55 hl (by decide) rfl (fun ls hl => ?_)
        have hl : lv_has ls 8 [(6, .int (nI a)), (5, .int (nI b)), (3, .long v), (1, .long ((aAt (sI σ) (L 1) (L 2) (srf σ) 2000).2.1)), (0, .ref (rx μ))] := hl
        refine lv_aload_n S.1 S.2.1 d_M_open_57 rfl (lv_at hl 4 rfl) ?_
        refine m_get S hw cl_M hR.obj 9 (by decide) g697 (fun _ h => h) rfl d_M_open_58 ?_
        refine lv_iload S.1 S.2.1 d_M_open_61 (lv_at hl 1 rfl) ?_
        refine m_rld (o := b) S hw hR 3 (by decide) (by omega) d_M_open_63 ?_
        refine lv_aload_n S.1 S.2.1 d_M_open_64 rfl (lv_at hl 4 rfl) ?_
        refine m_get S hw cl_M hR.obj 9 (by decide) g697 (fun _ h => h) rfl d_M_open_65 ?_
        refine lv_iload S.1 S.2.1 d_M_open_68 (lv_at hl 0 rfl) ?_
        refine m_rld (o := a) S hw hR 3 (by decide) (by omega) d_M_open_70 ?_
        refine lv_icmp_ge (tgt := 84) S.1 S.2.1 d_M_open_71 rfl (fun h71 => ?_) (fun h71 => ?_)
        · refine lv_aload_n S.1 S.2.1 d_M_open_84 rfl (lv_at hl 4 rfl) ?_
          refine m_get S hw cl_M hR.obj 9 (by decide) g697 (fun _ h => h) rfl d_M_open_85 ?_
          refine lv_iload S.1 S.2.1 d_M_open_88 (lv_at hl 0 rfl) ?_
          refine m_rld (o := a) S hw hR 3 (by decide) (by omega) d_M_open_90 ?_
          refine W.eq (g2 := F0 m 91 ls [.int (mn (sI τ 3 b) (sI τ 3 a))]) (congrArg (fun z => F0 m 91 ls [.int z]) (mn_ge h71)) ?_
          refine lv_istore S.1 S.2.1 d_M_open_91 hl (by decide) rfl (fun ls hl => ?_)
          have hl : lv_has ls 8 [(7, .int (mn (sI τ 3 b) (sI τ 3 a))), (6, .int (nI a)), (5, .int (nI b)), (3, .long v), (1, .long ((aAt (sI σ) (L 1) (L 2) (srf σ) 2000).2.1)), (0, .ref (rx μ))] := hl
          refine lv_iload S.1 S.2.1 d_M_open_93 (lv_at hl 0 rfl) ?_
          refine lv_i2l S.1 S.2.1 d_M_open_95 rfl ?_
          refine lv_lload_n S.1 S.2.1 d_M_open_96 rfl (lv_at hl 3 rfl) ?_
          refine W.lcmp S.1 S.2.1 d_M_open_97 ?_
          refine lv_if_ge (tgt := 106) S.1 S.2.1 d_M_open_98 rfl (fun h98 => ?_) (fun h98 => ?_)
          · refine lv_lload_n S.1 S.2.1 d_M_open_106 rfl (lv_at hl 3 rfl) ?_
            refine lv_l2i S.1 S.2.1 d_M_open_107 rfl ?_
            refine W.eq (g2 := F0 m 108 ls [.int (oQ τ b a v)]) (congrArg (fun z => F0 m 108 ls [.int z]) (oQ_ge ((lg_cmp_ge _ _).mp h98))) ?_
            refine lv_istore S.1 S.2.1 d_M_open_108 hl (by decide) rfl (fun ls hl => ?_)
            have hl : lv_has ls 8 [(7, .int (oQ τ b a v)), (6, .int (nI a)), (5, .int (nI b)), (3, .long v), (1, .long ((aAt (sI σ) (L 1) (L 2) (srf σ) 2000).2.1)), (0, .ref (rx μ))] := hl
            refine lv_aload_n S.1 S.2.1 d_M_open_110 rfl (lv_at hl 5 rfl) ?_
            refine lv_iload S.1 S.2.1 d_M_open_111 (lv_at hl 2 rfl) ?_
            refine lv_iload S.1 S.2.1 d_M_open_113 (lv_at hl 1 rfl) ?_
            refine lv_aload_n S.1 S.2.1 d_M_open_115 rfl (lv_at hl 5 rfl) ?_
            refine m_get S hw cl_M hR.obj 23 (by decide) g711 (fun _ h => h) rfl d_M_open_116 ?_
            refine lv_iload S.1 S.2.1 d_M_open_119 (lv_at hl 0 rfl) ?_
            refine m_cv hw (va_runV (As := [.int (nI b), .int (nI a), .int ((aAt (sI σ) (L 1) (L 2) (srf σ) 2000).1), .int (oQ τ b a v)]) (rest := []) S (c_M_deal l γ Mc μ τ (0, wf, of, (aAt (sI σ) (L 1) (L 2) (srf σ) 2000).1, (aAt (sI σ) (L 1) (L 2) (srf σ) 2000).2.1, (aAt (sI σ) (L 1) (L 2) (srf σ) 2000).2.2) hR.1 hnt b a hb1 ha1 (aAt (sI σ) (L 1) (L 2) (srf σ) 2000).1 (oQ τ b a v) hTt) (m_cwV 4 S g824 g826 g33 g48 g827 rfl rfl ⟨by decide +kernel, by decide +kernel, by decide +kernel⟩ ⟨(Nat.le_of_ble_eq_true rfl), (Nat.le_of_ble_eq_true rfl)⟩) (hw.preV hR.obj cl_M.1) rfl rfl hl.1 rfl (lv_room (Nat.le_of_ble_eq_true rfl)) d_M_open_121 ⟨(Nat.zero_le _), (Nat.zero_le _)⟩) (fun N9 H locs hp hw => ?_)
            have hR := hp.tr hR
            refine lv_lload_n S.1 S.2.1 d_M_open_124 rfl (lv_at hl 3 rfl) ?_
            refine lv_iload S.1 S.2.1 d_M_open_125 (lv_at hl 0 rfl) ?_
            refine lv_i2l S.1 S.2.1 d_M_open_127 rfl ?_
            refine lv_lsub S.1 S.2.1 d_M_open_128 ?_
            refine lv_lstore_n S.1 S.2.1 d_M_open_129 rfl hl (by decide) rfl (fun ls hl => ?_)
            have hl : lv_has ls 8 [(3, .long (v - ((oQ τ b a v).toInt64))), (7, .int (oQ τ b a v)), (6, .int (nI a)), (5, .int (nI b)), (1, .long ((aAt (sI σ) (L 1) (L 2) (srf σ) 2000).2.1)), (0, .ref (rx μ))] := hl
            refine lv_aload_n S.1 S.2.1 d_M_open_130 rfl (lv_at hl 5 rfl) ?_
            refine m_get S hw cl_M hR.obj 9 (by decide) g697 (fun _ h => h) rfl d_M_open_131 ?_
            refine lv_iload S.1 S.2.1 d_M_open_134 (lv_at hl 3 rfl) ?_
            refine m_rld (o := b) S hw hR 3 (by decide) (by omega) d_M_open_136 ?_
            refine lv_if_ne (tgt := 146) S.1 S.2.1 d_M_open_137 rfl (fun h137 => ?_) (fun h137 => ?_)
            · have hXb : xDeal τ b a (aAt (sI σ) (L 1) (L 2) (srf σ) 2000).1 (oQ τ b a v) = xFin (xDeal τ b a (aAt (sI σ) (L 1) (L 2) (srf σ) 2000).1 (oQ τ b a v)) b := (if_neg h137).symm
              rw [hXb] at hR
              refine lv_aload_n S.1 S.2.1 d_M_open_146 rfl (lv_at hl 5 rfl) ?_
              refine m_get S hw cl_M hR.obj 9 (by decide) g697 (fun _ h => h) rfl d_M_open_147 ?_
              refine lv_iload S.1 S.2.1 d_M_open_150 (lv_at hl 2 rfl) ?_
              refine m_rld (o := a) S hw hR 3 (by decide) (by omega) d_M_open_152 ?_
              refine lv_if_ne (tgt := 162) S.1 S.2.1 d_M_open_153 rfl (fun h153 => ?_) (fun h153 => ?_)
              · refine lv_goto (tgt := 37) S.1 S.2.1 d_M_open_162 rfl ?_
                have hl := lv_sub hl [0, 4, 5] rfl
                have hXa : xFin (xDeal τ b a (aAt (sI σ) (L 1) (L 2) (srf σ) 2000).1 (oQ τ b a v)) b = xDl τ b a (aAt (sI σ) (L 1) (L 2) (srf σ) 2000).1 v := (if_neg h153).symm
                rw [hXa] at hR
                exact ih _ _ N9 H locs ls hR (dl_sn.trans hsn) hok2 hE hl hw
              · refine lv_aload_n S.1 S.2.1 d_M_open_156 rfl (lv_at hl 5 rfl) ?_
                refine lv_iload S.1 S.2.1 d_M_open_157 (lv_at hl 2 rfl) ?_
                refine m_cv hw (va_runV (As := [.int (nI a)]) (rest := []) S (c_M_end l γ N9 μ (xFin (xDeal τ b a (aAt (sI σ) (L 1) (L 2) (srf σ) 2000).1 (oQ τ b a v)) b) (0, wf, of, (aAt (sI σ) (L 1) (L 2) (srf σ) 2000).1, (aAt (sI σ) (L 1) (L 2) (srf σ) 2000).2.1, (aAt (sI σ) (L 1) (L 2) (srf σ) 2000).2.2) hR.1 (by rw [fin_sn]; exact hnt) a (by rw [fin_sn]; exact ha1)) (m_cwV 1 S g828 g830 g34 g48 g831 rfl rfl ⟨by decide +kernel, by decide +kernel, by decide +kernel⟩ ⟨(Nat.le_of_ble_eq_true rfl), (Nat.le_of_ble_eq_true rfl)⟩) (hw.preV hR.obj cl_M.1) rfl rfl hl.1 rfl (lv_room (Nat.le_of_ble_eq_true rfl)) d_M_open_159 ⟨(Nat.zero_le _), (Nat.zero_le _)⟩) (fun N10 H locs hp hw => ?_)
                have hR := hp.tr hR
                refine lv_goto (tgt := 37) S.1 S.2.1 d_M_open_162 rfl ?_
                have hl := lv_sub hl [0, 4, 5] rfl
                have hXa : xEnd (xFin (xDeal τ b a (aAt (sI σ) (L 1) (L 2) (srf σ) 2000).1 (oQ τ b a v)) b) a = xDl τ b a (aAt (sI σ) (L 1) (L 2) (srf σ) 2000).1 v := (if_pos h153).symm
                rw [hXa] at hR
                exact ih _ _ N10 H locs ls hR (dl_sn.trans hsn) hok2 hE hl hw
            · refine lv_aload_n S.1 S.2.1 d_M_open_140 rfl (lv_at hl 5 rfl) ?_
              refine lv_iload S.1 S.2.1 d_M_open_141 (lv_at hl 3 rfl) ?_
              refine m_cv hw (va_runV (As := [.int (nI b)]) (rest := []) S (c_M_end l γ N9 μ (xDeal τ b a (aAt (sI σ) (L 1) (L 2) (srf σ) 2000).1 (oQ τ b a v)) (0, wf, of, (aAt (sI σ) (L 1) (L 2) (srf σ) 2000).1, (aAt (sI σ) (L 1) (L 2) (srf σ) 2000).2.1, (aAt (sI σ) (L 1) (L 2) (srf σ) 2000).2.2) hR.1 hnt b hb1) (m_cwV 1 S g828 g830 g34 g48 g831 rfl rfl ⟨by decide +kernel, by decide +kernel, by decide +kernel⟩ ⟨(Nat.le_of_ble_eq_true rfl), (Nat.le_of_ble_eq_true rfl)⟩) (hw.preV hR.obj cl_M.1) rfl rfl hl.1 rfl (lv_room (Nat.le_of_ble_eq_true rfl)) d_M_open_143 ⟨(Nat.zero_le _), (Nat.zero_le _)⟩) (fun N11 H locs hp hw => ?_)
              have hR := hp.tr hR
              have hXb : xEnd (xDeal τ b a (aAt (sI σ) (L 1) (L 2) (srf σ) 2000).1 (oQ τ b a v)) b = xFin (xDeal τ b a (aAt (sI σ) (L 1) (L 2) (srf σ) 2000).1 (oQ τ b a v)) b := (if_pos h137).symm
              rw [hXb] at hR
              refine lv_aload_n S.1 S.2.1 d_M_open_146 rfl (lv_at hl 5 rfl) ?_
              refine m_get S hw cl_M hR.obj 9 (by decide) g697 (fun _ h => h) rfl d_M_open_147 ?_
              refine lv_iload S.1 S.2.1 d_M_open_150 (lv_at hl 2 rfl) ?_
              refine m_rld (o := a) S hw hR 3 (by decide) (by omega) d_M_open_152 ?_
              refine lv_if_ne (tgt := 162) S.1 S.2.1 d_M_open_153 rfl (fun h153 => ?_) (fun h153 => ?_)
              · refine lv_goto (tgt := 37) S.1 S.2.1 d_M_open_162 rfl ?_
                have hl := lv_sub hl [0, 4, 5] rfl
                have hXa : xFin (xDeal τ b a (aAt (sI σ) (L 1) (L 2) (srf σ) 2000).1 (oQ τ b a v)) b = xDl τ b a (aAt (sI σ) (L 1) (L 2) (srf σ) 2000).1 v := (if_neg h153).symm
                rw [hXa] at hR
                exact ih _ _ N11 H locs ls hR (dl_sn.trans hsn) hok2 hE hl hw
              · refine lv_aload_n S.1 S.2.1 d_M_open_156 rfl (lv_at hl 5 rfl) ?_
                refine lv_iload S.1 S.2.1 d_M_open_157 (lv_at hl 2 rfl) ?_
                refine m_cv hw (va_runV (As := [.int (nI a)]) (rest := []) S (c_M_end l γ N11 μ (xFin (xDeal τ b a (aAt (sI σ) (L 1) (L 2) (srf σ) 2000).1 (oQ τ b a v)) b) (0, wf, of, (aAt (sI σ) (L 1) (L 2) (srf σ) 2000).1, (aAt (sI σ) (L 1) (L 2) (srf σ) 2000).2.1, (aAt (sI σ) (L 1) (L 2) (srf σ) 2000).2.2) hR.1 (by rw [fin_sn]; exact hnt) a (by rw [fin_sn]; exact ha1)) (m_cwV 1 S g828 g830 g34 g48 g831 rfl rfl ⟨by decide +kernel, by decide +kernel, by decide +kernel⟩ ⟨(Nat.le_of_ble_eq_true rfl), (Nat.le_of_ble_eq_true rfl)⟩) (hw.preV hR.obj cl_M.1) rfl rfl hl.1 rfl (lv_room (Nat.le_of_ble_eq_true rfl)) d_M_open_159 ⟨(Nat.zero_le _), (Nat.zero_le _)⟩) (fun N12 H locs hp hw => ?_)
                have hR := hp.tr hR
                refine lv_goto (tgt := 37) S.1 S.2.1 d_M_open_162 rfl ?_
                have hl := lv_sub hl [0, 4, 5] rfl
                have hXa : xEnd (xFin (xDeal τ b a (aAt (sI σ) (L 1) (L 2) (srf σ) 2000).1 (oQ τ b a v)) b) a = xDl τ b a (aAt (sI σ) (L 1) (L 2) (srf σ) 2000).1 v := (if_pos h153).symm
                rw [hXa] at hR
                exact ih _ _ N12 H locs ls hR (dl_sn.trans hsn) hok2 hE hl hw
          · refine lv_iload S.1 S.2.1 d_M_open_101 (lv_at hl 0 rfl) ?_
            refine lv_goto (tgt := 108) S.1 S.2.1 d_M_open_103 rfl ?_
            refine W.eq (g2 := F0 m 108 ls [.int (oQ τ b a v)]) (congrArg (fun z => F0 m 108 ls [.int z]) (oQ_lt (Int64.not_le.mp (fun z => h98 ((lg_cmp_ge _ _).mpr z))))) ?_
            refine lv_istore S.1 S.2.1 d_M_open_108 hl (by decide) rfl (fun ls hl => ?_)
            have hl : lv_has ls 8 [(7, .int (oQ τ b a v)), (6, .int (nI a)), (5, .int (nI b)), (3, .long v), (1, .long ((aAt (sI σ) (L 1) (L 2) (srf σ) 2000).2.1)), (0, .ref (rx μ))] := hl
            refine lv_aload_n S.1 S.2.1 d_M_open_110 rfl (lv_at hl 5 rfl) ?_
            refine lv_iload S.1 S.2.1 d_M_open_111 (lv_at hl 2 rfl) ?_
            refine lv_iload S.1 S.2.1 d_M_open_113 (lv_at hl 1 rfl) ?_
            refine lv_aload_n S.1 S.2.1 d_M_open_115 rfl (lv_at hl 5 rfl) ?_
            refine m_get S hw cl_M hR.obj 23 (by decide) g711 (fun _ h => h) rfl d_M_open_116 ?_
            refine lv_iload S.1 S.2.1 d_M_open_119 (lv_at hl 0 rfl) ?_
            refine m_cv hw (va_runV (As := [.int (nI b), .int (nI a), .int ((aAt (sI σ) (L 1) (L 2) (srf σ) 2000).1), .int (oQ τ b a v)]) (rest := []) S (c_M_deal l γ Mc μ τ (0, wf, of, (aAt (sI σ) (L 1) (L 2) (srf σ) 2000).1, (aAt (sI σ) (L 1) (L 2) (srf σ) 2000).2.1, (aAt (sI σ) (L 1) (L 2) (srf σ) 2000).2.2) hR.1 hnt b a hb1 ha1 (aAt (sI σ) (L 1) (L 2) (srf σ) 2000).1 (oQ τ b a v) hTt) (m_cwV 4 S g824 g826 g33 g48 g827 rfl rfl ⟨by decide +kernel, by decide +kernel, by decide +kernel⟩ ⟨(Nat.le_of_ble_eq_true rfl), (Nat.le_of_ble_eq_true rfl)⟩) (hw.preV hR.obj cl_M.1) rfl rfl hl.1 rfl (lv_room (Nat.le_of_ble_eq_true rfl)) d_M_open_121 ⟨(Nat.zero_le _), (Nat.zero_le _)⟩) (fun N13 H locs hp hw => ?_)
            have hR := hp.tr hR
            refine lv_lload_n S.1 S.2.1 d_M_open_124 rfl (lv_at hl 3 rfl) ?_
            refine lv_iload S.1 S.2.1 d_M_open_125 (lv_at hl 0 rfl) ?_
            refine lv_i2l S.1 S.2.1 d_M_open_127 rfl ?_
            refine lv_lsub S.1 S.2.1 d_M_open_128 ?_
            refine lv_lstore_n S.1 S.2.1 d_M_open_129 rfl hl (by decide) rfl (fun ls hl => ?_)
            have hl : lv_has ls 8 [(3, .long (v - ((oQ τ b a v).toInt64))), (7, .int (oQ τ b a v)), (6, .int (nI a)), (5, .int (nI b)), (1, .long ((aAt (sI σ) (L 1) (L 2) (srf σ) 2000).2.1)), (0, .ref (rx μ))] := hl
            refine lv_aload_n S.1 S.2.1 d_M_open_130 rfl (lv_at hl 5 rfl) ?_
            refine m_get S hw cl_M hR.obj 9 (by decide) g697 (fun _ h => h) rfl d_M_open_131 ?_
            refine lv_iload S.1 S.2.1 d_M_open_134 (lv_at hl 3 rfl) ?_
            refine m_rld (o := b) S hw hR 3 (by decide) (by omega) d_M_open_136 ?_
            refine lv_if_ne (tgt := 146) S.1 S.2.1 d_M_open_137 rfl (fun h137 => ?_) (fun h137 => ?_)
            · have hXb : xDeal τ b a (aAt (sI σ) (L 1) (L 2) (srf σ) 2000).1 (oQ τ b a v) = xFin (xDeal τ b a (aAt (sI σ) (L 1) (L 2) (srf σ) 2000).1 (oQ τ b a v)) b := (if_neg h137).symm
              rw [hXb] at hR
              refine lv_aload_n S.1 S.2.1 d_M_open_146 rfl (lv_at hl 5 rfl) ?_
              refine m_get S hw cl_M hR.obj 9 (by decide) g697 (fun _ h => h) rfl d_M_open_147 ?_
              refine lv_iload S.1 S.2.1 d_M_open_150 (lv_at hl 2 rfl) ?_
              refine m_rld (o := a) S hw hR 3 (by decide) (by omega) d_M_open_152 ?_
              refine lv_if_ne (tgt := 162) S.1 S.2.1 d_M_open_153 rfl (fun h153 => ?_) (fun h153 => ?_)
              · refine lv_goto (tgt := 37) S.1 S.2.1 d_M_open_162 rfl ?_
                have hl := lv_sub hl [0, 4, 5] rfl
                have hXa : xFin (xDeal τ b a (aAt (sI σ) (L 1) (L 2) (srf σ) 2000).1 (oQ τ b a v)) b = xDl τ b a (aAt (sI σ) (L 1) (L 2) (srf σ) 2000).1 v := (if_neg h153).symm
                rw [hXa] at hR
                exact ih _ _ N13 H locs ls hR (dl_sn.trans hsn) hok2 hE hl hw
              · refine lv_aload_n S.1 S.2.1 d_M_open_156 rfl (lv_at hl 5 rfl) ?_
                refine lv_iload S.1 S.2.1 d_M_open_157 (lv_at hl 2 rfl) ?_
                refine m_cv hw (va_runV (As := [.int (nI a)]) (rest := []) S (c_M_end l γ N13 μ (xFin (xDeal τ b a (aAt (sI σ) (L 1) (L 2) (srf σ) 2000).1 (oQ τ b a v)) b) (0, wf, of, (aAt (sI σ) (L 1) (L 2) (srf σ) 2000).1, (aAt (sI σ) (L 1) (L 2) (srf σ) 2000).2.1, (aAt (sI σ) (L 1) (L 2) (srf σ) 2000).2.2) hR.1 (by rw [fin_sn]; exact hnt) a (by rw [fin_sn]; exact ha1)) (m_cwV 1 S g828 g830 g34 g48 g831 rfl rfl ⟨by decide +kernel, by decide +kernel, by decide +kernel⟩ ⟨(Nat.le_of_ble_eq_true rfl), (Nat.le_of_ble_eq_true rfl)⟩) (hw.preV hR.obj cl_M.1) rfl rfl hl.1 rfl (lv_room (Nat.le_of_ble_eq_true rfl)) d_M_open_159 ⟨(Nat.zero_le _), (Nat.zero_le _)⟩) (fun N14 H locs hp hw => ?_)
                have hR := hp.tr hR
                refine lv_goto (tgt := 37) S.1 S.2.1 d_M_open_162 rfl ?_
                have hl := lv_sub hl [0, 4, 5] rfl
                have hXa : xEnd (xFin (xDeal τ b a (aAt (sI σ) (L 1) (L 2) (srf σ) 2000).1 (oQ τ b a v)) b) a = xDl τ b a (aAt (sI σ) (L 1) (L 2) (srf σ) 2000).1 v := (if_pos h153).symm
                rw [hXa] at hR
                exact ih _ _ N14 H locs ls hR (dl_sn.trans hsn) hok2 hE hl hw
            · refine lv_aload_n S.1 S.2.1 d_M_open_140 rfl (lv_at hl 5 rfl) ?_
              refine lv_iload S.1 S.2.1 d_M_open_141 (lv_at hl 3 rfl) ?_
              refine m_cv hw (va_runV (As := [.int (nI b)]) (rest := []) S (c_M_end l γ N13 μ (xDeal τ b a (aAt (sI σ) (L 1) (L 2) (srf σ) 2000).1 (oQ τ b a v)) (0, wf, of, (aAt (sI σ) (L 1) (L 2) (srf σ) 2000).1, (aAt (sI σ) (L 1) (L 2) (srf σ) 2000).2.1, (aAt (sI σ) (L 1) (L 2) (srf σ) 2000).2.2) hR.1 hnt b hb1) (m_cwV 1 S g828 g830 g34 g48 g831 rfl rfl ⟨by decide +kernel, by decide +kernel, by decide +kernel⟩ ⟨(Nat.le_of_ble_eq_true rfl), (Nat.le_of_ble_eq_true rfl)⟩) (hw.preV hR.obj cl_M.1) rfl rfl hl.1 rfl (lv_room (Nat.le_of_ble_eq_true rfl)) d_M_open_143 ⟨(Nat.zero_le _), (Nat.zero_le _)⟩) (fun N15 H locs hp hw => ?_)
              have hR := hp.tr hR
              have hXb : xEnd (xDeal τ b a (aAt (sI σ) (L 1) (L 2) (srf σ) 2000).1 (oQ τ b a v)) b = xFin (xDeal τ b a (aAt (sI σ) (L 1) (L 2) (srf σ) 2000).1 (oQ τ b a v)) b := (if_pos h137).symm
              rw [hXb] at hR
              refine lv_aload_n S.1 S.2.1 d_M_open_146 rfl (lv_at hl 5 rfl) ?_
              refine m_get S hw cl_M hR.obj 9 (by decide) g697 (fun _ h => h) rfl d_M_open_147 ?_
              refine lv_iload S.1 S.2.1 d_M_open_150 (lv_at hl 2 rfl) ?_
              refine m_rld (o := a) S hw hR 3 (by decide) (by omega) d_M_open_152 ?_
              refine lv_if_ne (tgt := 162) S.1 S.2.1 d_M_open_153 rfl (fun h153 => ?_) (fun h153 => ?_)
              · refine lv_goto (tgt := 37) S.1 S.2.1 d_M_open_162 rfl ?_
                have hl := lv_sub hl [0, 4, 5] rfl
                have hXa : xFin (xDeal τ b a (aAt (sI σ) (L 1) (L 2) (srf σ) 2000).1 (oQ τ b a v)) b = xDl τ b a (aAt (sI σ) (L 1) (L 2) (srf σ) 2000).1 v := (if_neg h153).symm
                rw [hXa] at hR
                exact ih _ _ N15 H locs ls hR (dl_sn.trans hsn) hok2 hE hl hw
              · refine lv_aload_n S.1 S.2.1 d_M_open_156 rfl (lv_at hl 5 rfl) ?_
                refine lv_iload S.1 S.2.1 d_M_open_157 (lv_at hl 2 rfl) ?_
                refine m_cv hw (va_runV (As := [.int (nI a)]) (rest := []) S (c_M_end l γ N15 μ (xFin (xDeal τ b a (aAt (sI σ) (L 1) (L 2) (srf σ) 2000).1 (oQ τ b a v)) b) (0, wf, of, (aAt (sI σ) (L 1) (L 2) (srf σ) 2000).1, (aAt (sI σ) (L 1) (L 2) (srf σ) 2000).2.1, (aAt (sI σ) (L 1) (L 2) (srf σ) 2000).2.2) hR.1 (by rw [fin_sn]; exact hnt) a (by rw [fin_sn]; exact ha1)) (m_cwV 1 S g828 g830 g34 g48 g831 rfl rfl ⟨by decide +kernel, by decide +kernel, by decide +kernel⟩ ⟨(Nat.le_of_ble_eq_true rfl), (Nat.le_of_ble_eq_true rfl)⟩) (hw.preV hR.obj cl_M.1) rfl rfl hl.1 rfl (lv_room (Nat.le_of_ble_eq_true rfl)) d_M_open_159 ⟨(Nat.zero_le _), (Nat.zero_le _)⟩) (fun N16 H locs hp hw => ?_)
                have hR := hp.tr hR
                refine lv_goto (tgt := 37) S.1 S.2.1 d_M_open_162 rfl ?_
                have hl := lv_sub hl [0, 4, 5] rfl
                have hXa : xEnd (xFin (xDeal τ b a (aAt (sI σ) (L 1) (L 2) (srf σ) 2000).1 (oQ τ b a v)) b) a = xDl τ b a (aAt (sI σ) (L 1) (L 2) (srf σ) 2000).1 v := (if_pos h153).symm
                rw [hXa] at hR
                exact ih _ _ N16 H locs ls hR (dl_sn.trans hsn) hok2 hE hl hw
        · refine lv_aload_n S.1 S.2.1 d_M_open_74 rfl (lv_at hl 4 rfl) ?_
          refine m_get S hw cl_M hR.obj 9 (by decide) g697 (fun _ h => h) rfl d_M_open_75 ?_
          refine lv_iload S.1 S.2.1 d_M_open_78 (lv_at hl 1 rfl) ?_
          refine m_rld (o := b) S hw hR 3 (by decide) (by omega) d_M_open_80 ?_
          refine lv_goto (tgt := 91) S.1 S.2.1 d_M_open_81 rfl ?_
          refine W.eq (g2 := F0 m 91 ls [.int (mn (sI τ 3 b) (sI τ 3 a))]) (congrArg (fun z => F0 m 91 ls [.int z]) (mn_le (Int32.not_le.mp h71))) ?_
          refine lv_istore S.1 S.2.1 d_M_open_91 hl (by decide) rfl (fun ls hl => ?_)
          have hl : lv_has ls 8 [(7, .int (mn (sI τ 3 b) (sI τ 3 a))), (6, .int (nI a)), (5, .int (nI b)), (3, .long v), (1, .long ((aAt (sI σ) (L 1) (L 2) (srf σ) 2000).2.1)), (0, .ref (rx μ))] := hl
          refine lv_iload S.1 S.2.1 d_M_open_93 (lv_at hl 0 rfl) ?_
          refine lv_i2l S.1 S.2.1 d_M_open_95 rfl ?_
          refine lv_lload_n S.1 S.2.1 d_M_open_96 rfl (lv_at hl 3 rfl) ?_
          refine W.lcmp S.1 S.2.1 d_M_open_97 ?_
          refine lv_if_ge (tgt := 106) S.1 S.2.1 d_M_open_98 rfl (fun h98 => ?_) (fun h98 => ?_)
          · refine lv_lload_n S.1 S.2.1 d_M_open_106 rfl (lv_at hl 3 rfl) ?_
            refine lv_l2i S.1 S.2.1 d_M_open_107 rfl ?_
            refine W.eq (g2 := F0 m 108 ls [.int (oQ τ b a v)]) (congrArg (fun z => F0 m 108 ls [.int z]) (oQ_ge ((lg_cmp_ge _ _).mp h98))) ?_
            refine lv_istore S.1 S.2.1 d_M_open_108 hl (by decide) rfl (fun ls hl => ?_)
            have hl : lv_has ls 8 [(7, .int (oQ τ b a v)), (6, .int (nI a)), (5, .int (nI b)), (3, .long v), (1, .long ((aAt (sI σ) (L 1) (L 2) (srf σ) 2000).2.1)), (0, .ref (rx μ))] := hl
            refine lv_aload_n S.1 S.2.1 d_M_open_110 rfl (lv_at hl 5 rfl) ?_
            refine lv_iload S.1 S.2.1 d_M_open_111 (lv_at hl 2 rfl) ?_
            refine lv_iload S.1 S.2.1 d_M_open_113 (lv_at hl 1 rfl) ?_
            refine lv_aload_n S.1 S.2.1 d_M_open_115 rfl (lv_at hl 5 rfl) ?_
            refine m_get S hw cl_M hR.obj 23 (by decide) g711 (fun _ h => h) rfl d_M_open_116 ?_
            refine lv_iload S.1 S.2.1 d_M_open_119 (lv_at hl 0 rfl) ?_
            refine m_cv hw (va_runV (As := [.int (nI b), .int (nI a), .int ((aAt (sI σ) (L 1) (L 2) (srf σ) 2000).1), .int (oQ τ b a v)]) (rest := []) S (c_M_deal l γ Mc μ τ (0, wf, of, (aAt (sI σ) (L 1) (L 2) (srf σ) 2000).1, (aAt (sI σ) (L 1) (L 2) (srf σ) 2000).2.1, (aAt (sI σ) (L 1) (L 2) (srf σ) 2000).2.2) hR.1 hnt b a hb1 ha1 (aAt (sI σ) (L 1) (L 2) (srf σ) 2000).1 (oQ τ b a v) hTt) (m_cwV 4 S g824 g826 g33 g48 g827 rfl rfl ⟨by decide +kernel, by decide +kernel, by decide +kernel⟩ ⟨(Nat.le_of_ble_eq_true rfl), (Nat.le_of_ble_eq_true rfl)⟩) (hw.preV hR.obj cl_M.1) rfl rfl hl.1 rfl (lv_room (Nat.le_of_ble_eq_true rfl)) d_M_open_121 ⟨(Nat.zero_le _), (Nat.zero_le _)⟩) (fun N17 H locs hp hw => ?_)
            have hR := hp.tr hR
            refine lv_lload_n S.1 S.2.1 d_M_open_124 rfl (lv_at hl 3 rfl) ?_
            refine lv_iload S.1 S.2.1 d_M_open_125 (lv_at hl 0 rfl) ?_
            refine lv_i2l S.1 S.2.1 d_M_open_127 rfl ?_
            refine lv_lsub S.1 S.2.1 d_M_open_128 ?_
            refine lv_lstore_n S.1 S.2.1 d_M_open_129 rfl hl (by decide) rfl (fun ls hl => ?_)
            have hl : lv_has ls 8 [(3, .long (v - ((oQ τ b a v).toInt64))), (7, .int (oQ τ b a v)), (6, .int (nI a)), (5, .int (nI b)), (1, .long ((aAt (sI σ) (L 1) (L 2) (srf σ) 2000).2.1)), (0, .ref (rx μ))] := hl
            refine lv_aload_n S.1 S.2.1 d_M_open_130 rfl (lv_at hl 5 rfl) ?_
            refine m_get S hw cl_M hR.obj 9 (by decide) g697 (fun _ h => h) rfl d_M_open_131 ?_
            refine lv_iload S.1 S.2.1 d_M_open_134 (lv_at hl 3 rfl) ?_
            refine m_rld (o := b) S hw hR 3 (by decide) (by omega) d_M_open_136 ?_
            refine lv_if_ne (tgt := 146) S.1 S.2.1 d_M_open_137 rfl (fun h137 => ?_) (fun h137 => ?_)
            · have hXb : xDeal τ b a (aAt (sI σ) (L 1) (L 2) (srf σ) 2000).1 (oQ τ b a v) = xFin (xDeal τ b a (aAt (sI σ) (L 1) (L 2) (srf σ) 2000).1 (oQ τ b a v)) b := (if_neg h137).symm
              rw [hXb] at hR
              refine lv_aload_n S.1 S.2.1 d_M_open_146 rfl (lv_at hl 5 rfl) ?_
              refine m_get S hw cl_M hR.obj 9 (by decide) g697 (fun _ h => h) rfl d_M_open_147 ?_
              refine lv_iload S.1 S.2.1 d_M_open_150 (lv_at hl 2 rfl) ?_
              refine m_rld (o := a) S hw hR 3 (by decide) (by omega) d_M_open_152 ?_
              refine lv_if_ne (tgt := 162) S.1 S.2.1 d_M_open_153 rfl (fun h153 => ?_) (fun h153 => ?_)
              · refine lv_goto (tgt := 37) S.1 S.2.1 d_M_open_162 rfl ?_
                have hl := lv_sub hl [0, 4, 5] rfl
                have hXa : xFin (xDeal τ b a (aAt (sI σ) (L 1) (L 2) (srf σ) 2000).1 (oQ τ b a v)) b = xDl τ b a (aAt (sI σ) (L 1) (L 2) (srf σ) 2000).1 v := (if_neg h153).symm
                rw [hXa] at hR
                exact ih _ _ N17 H locs ls hR (dl_sn.trans hsn) hok2 hE hl hw
              · refine lv_aload_n S.1 S.2.1 d_M_open_156 rfl (lv_at hl 5 rfl) ?_
                refine lv_iload S.1 S.2.1 d_M_open_157 (lv_at hl 2 rfl) ?_
                refine m_cv hw (va_runV (As := [.int (nI a)]) (rest := []) S (c_M_end l γ N17 μ (xFin (xDeal τ b a (aAt (sI σ) (L 1) (L 2) (srf σ) 2000).1 (oQ τ b a v)) b) (0, wf, of, (aAt (sI σ) (L 1) (L 2) (srf σ) 2000).1, (aAt (sI σ) (L 1) (L 2) (srf σ) 2000).2.1, (aAt (sI σ) (L 1) (L 2) (srf σ) 2000).2.2) hR.1 (by rw [fin_sn]; exact hnt) a (by rw [fin_sn]; exact ha1)) (m_cwV 1 S g828 g830 g34 g48 g831 rfl rfl ⟨by decide +kernel, by decide +kernel, by decide +kernel⟩ ⟨(Nat.le_of_ble_eq_true rfl), (Nat.le_of_ble_eq_true rfl)⟩) (hw.preV hR.obj cl_M.1) rfl rfl hl.1 rfl (lv_room (Nat.le_of_ble_eq_true rfl)) d_M_open_159 ⟨(Nat.zero_le _), (Nat.zero_le _)⟩) (fun N18 H locs hp hw => ?_)
                have hR := hp.tr hR
                refine lv_goto (tgt := 37) S.1 S.2.1 d_M_open_162 rfl ?_
                have hl := lv_sub hl [0, 4, 5] rfl
                have hXa : xEnd (xFin (xDeal τ b a (aAt (sI σ) (L 1) (L 2) (srf σ) 2000).1 (oQ τ b a v)) b) a = xDl τ b a (aAt (sI σ) (L 1) (L 2) (srf σ) 2000).1 v := (if_pos h153).symm
                rw [hXa] at hR
                exact ih _ _ N18 H locs ls hR (dl_sn.trans hsn) hok2 hE hl hw
            · refine lv_aload_n S.1 S.2.1 d_M_open_140 rfl (lv_at hl 5 rfl) ?_
              refine lv_iload S.1 S.2.1 d_M_open_141 (lv_at hl 3 rfl) ?_
              refine m_cv hw (va_runV (As := [.int (nI b)]) (rest := []) S (c_M_end l γ N17 μ (xDeal τ b a (aAt (sI σ) (L 1) (L 2) (srf σ) 2000).1 (oQ τ b a v)) (0, wf, of, (aAt (sI σ) (L 1) (L 2) (srf σ) 2000).1, (aAt (sI σ) (L 1) (L 2) (srf σ) 2000).2.1, (aAt (sI σ) (L 1) (L 2) (srf σ) 2000).2.2) hR.1 hnt b hb1) (m_cwV 1 S g828 g830 g34 g48 g831 rfl rfl ⟨by decide +kernel, by decide +kernel, by decide +kernel⟩ ⟨(Nat.le_of_ble_eq_true rfl), (Nat.le_of_ble_eq_true rfl)⟩) (hw.preV hR.obj cl_M.1) rfl rfl hl.1 rfl (lv_room (Nat.le_of_ble_eq_true rfl)) d_M_open_143 ⟨(Nat.zero_le _), (Nat.zero_le _)⟩) (fun N19 H locs hp hw => ?_)
              have hR := hp.tr hR
              have hXb : xEnd (xDeal τ b a (aAt (sI σ) (L 1) (L 2) (srf σ) 2000).1 (oQ τ b a v)) b = xFin (xDeal τ b a (aAt (sI σ) (L 1) (L 2) (srf σ) 2000).1 (oQ τ b a v)) b := (if_pos h137).symm
              rw [hXb] at hR
              refine lv_aload_n S.1 S.2.1 d_M_open_146 rfl (lv_at hl 5 rfl) ?_
              refine m_get S hw cl_M hR.obj 9 (by decide) g697 (fun _ h => h) rfl d_M_open_147 ?_
              refine lv_iload S.1 S.2.1 d_M_open_150 (lv_at hl 2 rfl) ?_
              refine m_rld (o := a) S hw hR 3 (by decide) (by omega) d_M_open_152 ?_
              refine lv_if_ne (tgt := 162) S.1 S.2.1 d_M_open_153 rfl (fun h153 => ?_) (fun h153 => ?_)
              · refine lv_goto (tgt := 37) S.1 S.2.1 d_M_open_162 rfl ?_
                have hl := lv_sub hl [0, 4, 5] rfl
                have hXa : xFin (xDeal τ b a (aAt (sI σ) (L 1) (L 2) (srf σ) 2000).1 (oQ τ b a v)) b = xDl τ b a (aAt (sI σ) (L 1) (L 2) (srf σ) 2000).1 v := (if_neg h153).symm
                rw [hXa] at hR
                exact ih _ _ N19 H locs ls hR (dl_sn.trans hsn) hok2 hE hl hw
              · refine lv_aload_n S.1 S.2.1 d_M_open_156 rfl (lv_at hl 5 rfl) ?_
                refine lv_iload S.1 S.2.1 d_M_open_157 (lv_at hl 2 rfl) ?_
                refine m_cv hw (va_runV (As := [.int (nI a)]) (rest := []) S (c_M_end l γ N19 μ (xFin (xDeal τ b a (aAt (sI σ) (L 1) (L 2) (srf σ) 2000).1 (oQ τ b a v)) b) (0, wf, of, (aAt (sI σ) (L 1) (L 2) (srf σ) 2000).1, (aAt (sI σ) (L 1) (L 2) (srf σ) 2000).2.1, (aAt (sI σ) (L 1) (L 2) (srf σ) 2000).2.2) hR.1 (by rw [fin_sn]; exact hnt) a (by rw [fin_sn]; exact ha1)) (m_cwV 1 S g828 g830 g34 g48 g831 rfl rfl ⟨by decide +kernel, by decide +kernel, by decide +kernel⟩ ⟨(Nat.le_of_ble_eq_true rfl), (Nat.le_of_ble_eq_true rfl)⟩) (hw.preV hR.obj cl_M.1) rfl rfl hl.1 rfl (lv_room (Nat.le_of_ble_eq_true rfl)) d_M_open_159 ⟨(Nat.zero_le _), (Nat.zero_le _)⟩) (fun N20 H locs hp hw => ?_)
                have hR := hp.tr hR
                refine lv_goto (tgt := 37) S.1 S.2.1 d_M_open_162 rfl ?_
                have hl := lv_sub hl [0, 4, 5] rfl
                have hXa : xEnd (xFin (xDeal τ b a (aAt (sI σ) (L 1) (L 2) (srf σ) 2000).1 (oQ τ b a v)) b) a = xDl τ b a (aAt (sI σ) (L 1) (L 2) (srf σ) 2000).1 v := (if_pos h153).symm
                rw [hXa] at hR
                exact ih _ _ N20 H locs ls hR (dl_sn.trans hsn) hok2 hE hl hw
          · refine lv_iload S.1 S.2.1 d_M_open_101 (lv_at hl 0 rfl) ?_
            refine lv_goto (tgt := 108) S.1 S.2.1 d_M_open_103 rfl ?_
            refine W.eq (g2 := F0 m 108 ls [.int (oQ τ b a v)]) (congrArg (fun z => F0 m 108 ls [.int z]) (oQ_lt (Int64.not_le.mp (fun z => h98 ((lg_cmp_ge _ _).mpr z))))) ?_
            refine lv_istore S.1 S.2.1 d_M_open_108 hl (by decide) rfl (fun ls hl => ?_)
            have hl : lv_has ls 8 [(7, .int (oQ τ b a v)), (6, .int (nI a)), (5, .int (nI b)), (3, .long v), (1, .long ((aAt (sI σ) (L 1) (L 2) (srf σ) 2000).2.1)), (0, .ref (rx μ))] := hl
            refine lv_aload_n S.1 S.2.1 d_M_open_110 rfl (lv_at hl 5 rfl) ?_
            refine lv_iload S.1 S.2.1 d_M_open_111 (lv_at hl 2 rfl) ?_
            refine lv_iload S.1 S.2.1 d_M_open_113 (lv_at hl 1 rfl) ?_
            refine lv_aload_n S.1 S.2.1 d_M_open_115 rfl (lv_at hl 5 rfl) ?_
            refine m_get S hw cl_M hR.obj 23 (by decide) g711 (fun _ h => h) rfl d_M_open_116 ?_
            refine lv_iload S.1 S.2.1 d_M_open_119 (lv_at hl 0 rfl) ?_
            refine m_cv hw (va_runV (As := [.int (nI b), .int (nI a), .int ((aAt (sI σ) (L 1) (L 2) (srf σ) 2000).1), .int (oQ τ b a v)]) (rest := []) S (c_M_deal l γ Mc μ τ (0, wf, of, (aAt (sI σ) (L 1) (L 2) (srf σ) 2000).1, (aAt (sI σ) (L 1) (L 2) (srf σ) 2000).2.1, (aAt (sI σ) (L 1) (L 2) (srf σ) 2000).2.2) hR.1 hnt b a hb1 ha1 (aAt (sI σ) (L 1) (L 2) (srf σ) 2000).1 (oQ τ b a v) hTt) (m_cwV 4 S g824 g826 g33 g48 g827 rfl rfl ⟨by decide +kernel, by decide +kernel, by decide +kernel⟩ ⟨(Nat.le_of_ble_eq_true rfl), (Nat.le_of_ble_eq_true rfl)⟩) (hw.preV hR.obj cl_M.1) rfl rfl hl.1 rfl (lv_room (Nat.le_of_ble_eq_true rfl)) d_M_open_121 ⟨(Nat.zero_le _), (Nat.zero_le _)⟩) (fun N21 H locs hp hw => ?_)
            have hR := hp.tr hR
            refine lv_lload_n S.1 S.2.1 d_M_open_124 rfl (lv_at hl 3 rfl) ?_
            refine lv_iload S.1 S.2.1 d_M_open_125 (lv_at hl 0 rfl) ?_
            refine lv_i2l S.1 S.2.1 d_M_open_127 rfl ?_
            refine lv_lsub S.1 S.2.1 d_M_open_128 ?_
            refine lv_lstore_n S.1 S.2.1 d_M_open_129 rfl hl (by decide) rfl (fun ls hl => ?_)
            have hl : lv_has ls 8 [(3, .long (v - ((oQ τ b a v).toInt64))), (7, .int (oQ τ b a v)), (6, .int (nI a)), (5, .int (nI b)), (1, .long ((aAt (sI σ) (L 1) (L 2) (srf σ) 2000).2.1)), (0, .ref (rx μ))] := hl
            refine lv_aload_n S.1 S.2.1 d_M_open_130 rfl (lv_at hl 5 rfl) ?_
            refine m_get S hw cl_M hR.obj 9 (by decide) g697 (fun _ h => h) rfl d_M_open_131 ?_
            refine lv_iload S.1 S.2.1 d_M_open_134 (lv_at hl 3 rfl) ?_
            refine m_rld (o := b) S hw hR 3 (by decide) (by omega) d_M_open_136 ?_
            refine lv_if_ne (tgt := 146) S.1 S.2.1 d_M_open_137 rfl (fun h137 => ?_) (fun h137 => ?_)
            · have hXb : xDeal τ b a (aAt (sI σ) (L 1) (L 2) (srf σ) 2000).1 (oQ τ b a v) = xFin (xDeal τ b a (aAt (sI σ) (L 1) (L 2) (srf σ) 2000).1 (oQ τ b a v)) b := (if_neg h137).symm
              rw [hXb] at hR
              refine lv_aload_n S.1 S.2.1 d_M_open_146 rfl (lv_at hl 5 rfl) ?_
              refine m_get S hw cl_M hR.obj 9 (by decide) g697 (fun _ h => h) rfl d_M_open_147 ?_
              refine lv_iload S.1 S.2.1 d_M_open_150 (lv_at hl 2 rfl) ?_
              refine m_rld (o := a) S hw hR 3 (by decide) (by omega) d_M_open_152 ?_
              refine lv_if_ne (tgt := 162) S.1 S.2.1 d_M_open_153 rfl (fun h153 => ?_) (fun h153 => ?_)
              · refine lv_goto (tgt := 37) S.1 S.2.1 d_M_open_162 rfl ?_
                have hl := lv_sub hl [0, 4, 5] rfl
                have hXa : xFin (xDeal τ b a (aAt (sI σ) (L 1) (L 2) (srf σ) 2000).1 (oQ τ b a v)) b = xDl τ b a (aAt (sI σ) (L 1) (L 2) (srf σ) 2000).1 v := (if_neg h153).symm
                rw [hXa] at hR
                exact ih _ _ N21 H locs ls hR (dl_sn.trans hsn) hok2 hE hl hw
              · refine lv_aload_n S.1 S.2.1 d_M_open_156 rfl (lv_at hl 5 rfl) ?_
                refine lv_iload S.1 S.2.1 d_M_open_157 (lv_at hl 2 rfl) ?_
                refine m_cv hw (va_runV (As := [.int (nI a)]) (rest := []) S (c_M_end l γ N21 μ (xFin (xDeal τ b a (aAt (sI σ) (L 1) (L 2) (srf σ) 2000).1 (oQ τ b a v)) b) (0, wf, of, (aAt (sI σ) (L 1) (L 2) (srf σ) 2000).1, (aAt (sI σ) (L 1) (L 2) (srf σ) 2000).2.1, (aAt (sI σ) (L 1) (L 2) (srf σ) 2000).2.2) hR.1 (by rw [fin_sn]; exact hnt) a (by rw [fin_sn]; exact ha1)) (m_cwV 1 S g828 g830 g34 g48 g831 rfl rfl ⟨by decide +kernel, by decide +kernel, by decide +kernel⟩ ⟨(Nat.le_of_ble_eq_true rfl), (Nat.le_of_ble_eq_true rfl)⟩) (hw.preV hR.obj cl_M.1) rfl rfl hl.1 rfl (lv_room (Nat.le_of_ble_eq_true rfl)) d_M_open_159 ⟨(Nat.zero_le _), (Nat.zero_le _)⟩) (fun N22 H locs hp hw => ?_)
                have hR := hp.tr hR
                refine lv_goto (tgt := 37) S.1 S.2.1 d_M_open_162 rfl ?_
                have hl := lv_sub hl [0, 4, 5] rfl
                have hXa : xEnd (xFin (xDeal τ b a (aAt (sI σ) (L 1) (L 2) (srf σ) 2000).1 (oQ τ b a v)) b) a = xDl τ b a (aAt (sI σ) (L 1) (L 2) (srf σ) 2000).1 v := (if_pos h153).symm
                rw [hXa] at hR
                exact ih _ _ N22 H locs ls hR (dl_sn.trans hsn) hok2 hE hl hw
            · refine lv_aload_n S.1 S.2.1 d_M_open_140 rfl (lv_at hl 5 rfl) ?_
              refine lv_iload S.1 S.2.1 d_M_open_141 (lv_at hl 3 rfl) ?_
              refine m_cv hw (va_runV (As := [.int (nI b)]) (rest := []) S (c_M_end l γ N21 μ (xDeal τ b a (aAt (sI σ) (L 1) (L 2) (srf σ) 2000).1 (oQ τ b a v)) (0, wf, of, (aAt (sI σ) (L 1) (L 2) (srf σ) 2000).1, (aAt (sI σ) (L 1) (L 2) (srf σ) 2000).2.1, (aAt (sI σ) (L 1) (L 2) (srf σ) 2000).2.2) hR.1 hnt b hb1) (m_cwV 1 S g828 g830 g34 g48 g831 rfl rfl ⟨by decide +kernel, by decide +kernel, by decide +kernel⟩ ⟨(Nat.le_of_ble_eq_true rfl), (Nat.le_of_ble_eq_true rfl)⟩) (hw.preV hR.obj cl_M.1) rfl rfl hl.1 rfl (lv_room (Nat.le_of_ble_eq_true rfl)) d_M_open_143 ⟨(Nat.zero_le _), (Nat.zero_le _)⟩) (fun N23 H locs hp hw => ?_)
              have hR := hp.tr hR
              have hXb : xEnd (xDeal τ b a (aAt (sI σ) (L 1) (L 2) (srf σ) 2000).1 (oQ τ b a v)) b = xFin (xDeal τ b a (aAt (sI σ) (L 1) (L 2) (srf σ) 2000).1 (oQ τ b a v)) b := (if_pos h137).symm
              rw [hXb] at hR
              refine lv_aload_n S.1 S.2.1 d_M_open_146 rfl (lv_at hl 5 rfl) ?_
              refine m_get S hw cl_M hR.obj 9 (by decide) g697 (fun _ h => h) rfl d_M_open_147 ?_
              refine lv_iload S.1 S.2.1 d_M_open_150 (lv_at hl 2 rfl) ?_
              refine m_rld (o := a) S hw hR 3 (by decide) (by omega) d_M_open_152 ?_
              refine lv_if_ne (tgt := 162) S.1 S.2.1 d_M_open_153 rfl (fun h153 => ?_) (fun h153 => ?_)
              · refine lv_goto (tgt := 37) S.1 S.2.1 d_M_open_162 rfl ?_
                have hl := lv_sub hl [0, 4, 5] rfl
                have hXa : xFin (xDeal τ b a (aAt (sI σ) (L 1) (L 2) (srf σ) 2000).1 (oQ τ b a v)) b = xDl τ b a (aAt (sI σ) (L 1) (L 2) (srf σ) 2000).1 v := (if_neg h153).symm
                rw [hXa] at hR
                exact ih _ _ N23 H locs ls hR (dl_sn.trans hsn) hok2 hE hl hw
              · refine lv_aload_n S.1 S.2.1 d_M_open_156 rfl (lv_at hl 5 rfl) ?_
                refine lv_iload S.1 S.2.1 d_M_open_157 (lv_at hl 2 rfl) ?_
                refine m_cv hw (va_runV (As := [.int (nI a)]) (rest := []) S (c_M_end l γ N23 μ (xFin (xDeal τ b a (aAt (sI σ) (L 1) (L 2) (srf σ) 2000).1 (oQ τ b a v)) b) (0, wf, of, (aAt (sI σ) (L 1) (L 2) (srf σ) 2000).1, (aAt (sI σ) (L 1) (L 2) (srf σ) 2000).2.1, (aAt (sI σ) (L 1) (L 2) (srf σ) 2000).2.2) hR.1 (by rw [fin_sn]; exact hnt) a (by rw [fin_sn]; exact ha1)) (m_cwV 1 S g828 g830 g34 g48 g831 rfl rfl ⟨by decide +kernel, by decide +kernel, by decide +kernel⟩ ⟨(Nat.le_of_ble_eq_true rfl), (Nat.le_of_ble_eq_true rfl)⟩) (hw.preV hR.obj cl_M.1) rfl rfl hl.1 rfl (lv_room (Nat.le_of_ble_eq_true rfl)) d_M_open_159 ⟨(Nat.zero_le _), (Nat.zero_le _)⟩) (fun N24 H locs hp hw => ?_)
                have hR := hp.tr hR
                refine lv_goto (tgt := 37) S.1 S.2.1 d_M_open_162 rfl ?_
                have hl := lv_sub hl [0, 4, 5] rfl
                have hXa : xEnd (xFin (xDeal τ b a (aAt (sI σ) (L 1) (L 2) (srf σ) 2000).1 (oQ τ b a v)) b) a = xDl τ b a (aAt (sI σ) (L 1) (L 2) (srf σ) 2000).1 v := (if_pos h153).symm
                rw [hXa] at hR
                exact ih _ _ N24 H locs ls hR (dl_sn.trans hsn) hok2 hE hl hw
      · have hE : τ = (xOne 250 σ (aAt (sI σ) (L 1) (L 2) (srf σ) 2000).1 (aAt (sI σ) (L 1) (L 2) (srf σ) 2000).2.1) := (xOne_no hv).symm.trans hfin
        refine lv_lload_n S.1 S.2.1 d_M_open_37 rfl (lv_at hl 0 rfl) ?_
        refine lv_lconst (v := 0) S.1 S.2.1 d_M_open_38 (by decide) ?_
        refine W.lcmp S.1 S.2.1 d_M_open_39 ?_
        refine lv_if_le (tgt := 165) S.1 S.2.1 d_M_open_40 rfl (fun _ => ?_) (fun h => absurd ((lg_cmp_le _ _).mpr (Int64.not_lt.mp hv)) h)
        have hl := lv_sub hl [1, 2] rfl
        exact tail Mc H locs ls (hE ▸ hR) hl hw
  have hl := lv_sub hl [0, 1, 2] rfl
  exact loop 250 σ _ _ _ _ ls hR rfl hOK rfl hl hw
