/-! The reference: sumUp, clear, clearing -/
def pr (I : Co) (o : Nat) : Nat := if I 2 o = 0 ∧ ¬ I 1 o = 0 then 2000 else (I 2 o).toInt.toNat
def wS (I : Co) (q : Nat) : Nat → Int64 := gs (fun o => if pr I o = q ∧ rs I o = true ∧ ¬ I 1 o = 0 then (I 3 o).toInt64 else 0)
def oS (I : Co) (q : Nat) : Nat → Int64 := gs (fun o => if pr I o = q ∧ rs I o = true ∧ I 1 o = 0 then (I 3 o).toInt64 else 0)
def WT (I : Co) (n q : Nat) : Int64 := gs (fun o => if q ≤ pr I o ∧ rs I o = true ∧ ¬ I 1 o = 0 then (I 3 o).toInt64 else 0) n
def OT (I : Co) (n q : Nat) : Int64 := gs (fun o => if pr I o ≤ q ∧ rs I o = true ∧ I 1 o = 0 then (I 3 o).toInt64 else 0) n
theorem wS_s {I : Co} {q k : Nat} : wS I q (k + 1) = wS I q k + (if pr I k = q ∧ rs I k = true ∧ ¬ I 1 k = 0 then (I 3 k).toInt64 else 0) := rfl
theorem oS_s {I : Co} {q k : Nat} : oS I q (k + 1) = oS I q k + (if pr I k = q ∧ rs I k = true ∧ I 1 k = 0 then (I 3 k).toInt64 else 0) := rfl
theorem ite_add {p1 p2 q : Prop} [Decidable p1] [Decidable p2] [Decidable q] {x : Int64} (h1 : q → (p1 ∧ ¬ p2) ∨ (¬ p1 ∧ p2)) (h2 : p1 → q) (h3 : p2 → q) : (if p1 then x else 0) + (if p2 then x else 0) = if q then x else 0 := by
  by_cases hq : q
  · rw [if_pos hq]
    rcases h1 hq with ⟨a, b⟩ | ⟨a, b⟩
    · rw [if_pos a, if_neg b, Int64.add_zero]
    · rw [if_neg a, if_pos b, Int64.zero_add]
  · rw [if_neg hq, if_neg (fun z => hq (h2 z)), if_neg (fun z => hq (h3 z)), Int64.add_zero]
theorem WT_go {I : Co} {n q : Nat} : wS I q n + WT I n (q + 1) = WT I n q := by
  unfold wS WT
  rw [← gs_add]
  refine gs_congr (fun o _ => ?_)
  exact ite_add (fun z => by by_cases e : pr I o = q <;> simp [e, z] <;> omega) (fun z => ⟨by omega, z.2⟩) (fun z => ⟨by omega, z.2⟩)
theorem OT_go {I : Co} {n q : Nat} : oS I (q + 1) n + OT I n q = OT I n (q + 1) := by
  unfold oS OT
  rw [← gs_add]
  refine gs_congr (fun o _ => ?_)
  exact ite_add (fun z => by by_cases e : pr I o = q + 1 <;> simp [e, z] <;> omega) (fun z => ⟨by omega, z.2⟩) (fun z => ⟨by omega, z.2⟩)
theorem WT_top {I : Co} {n : Nat} (h : ∀ o, o < n → pr I o ≤ 2000) : wS I 2000 n = WT I n 2000 := by
  unfold wS WT
  refine gs_congr (fun o ho => ?_)
  have := h o ho
  have e : (pr I o = 2000 ∧ rs I o = true ∧ ¬ I 1 o = 0) ↔ (2000 ≤ pr I o ∧ rs I o = true ∧ ¬ I 1 o = 0) := ⟨fun z => ⟨by omega, z.2⟩, fun z => ⟨by omega, z.2⟩⟩
  simp only [e]
theorem OT_0 {I : Co} {n : Nat} : oS I 0 n = OT I n 0 := by
  unfold oS OT
  refine gs_congr (fun o ho => ?_)
  have e : (pr I o = 0 ∧ rs I o = true ∧ I 1 o = 0) ↔ (pr I o ≤ 0 ∧ rs I o = true ∧ I 1 o = 0) := ⟨fun z => ⟨by omega, z.2⟩, fun z => ⟨by omega, z.2⟩⟩
  simp only [e]
theorem pr_le {I : Co} {n o : Nat} (hO : oOK I n) (ho : o < n) : pr I o ≤ 2000 := by
  have := hO.1 o ho
  unfold pr
  split <;> omega
theorem pr_m {I : Co} {o : Nat} (h1 : I 2 o = 0) (h2 : ¬ I 1 o = 0) : (2000 : Int32) = nI (pr I o) := by unfold pr; rw [if_pos ⟨h1, h2⟩]; rfl
theorem pr_n {I : Co} {n o : Nat} (hO : oOK I n) (ho : o < n) (h : ¬ (I 2 o = 0 ∧ ¬ I 1 o = 0)) : I 2 o = nI (pr I o) := by
  have := hO.1 o ho
  unfold pr
  rw [if_neg h]
  refine Int32.toInt_inj.mp ?_
  rw [nI_toInt (by omega)]
  omega
theorem uL_s {f : Nat → Int64} {k : Nat} {x : Int64} : vp_updL f k x k = x := if_pos rfl
theorem uL_o {f : Nat → Int64} {k q : Nat} {x : Int64} (h : q ≠ k) : vp_updL f k x q = f q := if_neg h
theorem sIf_l {I : Co} {P : Nat → Bool} : ∀ {t : List Nat}, sIf I P t = lsum (fun r => if P r = true then (I 3 r).toInt64 else 0) t := by
  intro t
  induction t with
  | nil => rfl
  | cons x t ih =>
    show (if _ then _ else _) = (if _ then _ else _) + _
    by_cases h : P x = true
    · rw [if_pos h, if_pos h, ih]
    · rw [if_neg h, if_neg h, ih, Int64.zero_add]
theorem WT_line {I : Co} {n q : Nat} {K : List Nat} (hO : oOK I n) (hL : Line I n 1 K) (hq : q ≤ 2000) : WT I n q = sIf I (fun r => tk I r (nI q)) K := by
  rw [sIf_l, ← hL.sum]
  unfold WT
  refine gs_congr (fun o ho => ?_)
  have hb := hO.1 o ho
  have key : (q ≤ pr I o ∧ rs I o = true ∧ ¬ I 1 o = 0) ↔ (onS I 1 o = true ∧ tk I o (nI q) = true) := by
    rw [onS_iff]
    constructor
    · rintro ⟨h1, h2, h3⟩
      refine ⟨⟨h2, hb.2.2.resolve_left h3⟩, ?_⟩
      unfold tk
      by_cases hz : I 2 o = 0
      · rw [decide_eq_true hz]; rfl
      · rw [decide_eq_false hz, if_neg h3, Bool.false_or]
        refine decide_eq_true (Int32.le_iff_toInt_le.mpr ?_)
        unfold pr at h1
        rw [if_neg (fun z => hz z.1)] at h1
        rw [nI_toInt (by omega)]
        omega
    · rintro ⟨⟨h2, h1⟩, h3⟩
      have hne : ¬ I 1 o = 0 := fun z => by rw [z] at h1; exact absurd h1 (by decide)
      refine ⟨?_, h2, hne⟩
      unfold tk at h3
      unfold pr
      by_cases hz : I 2 o = 0
      · rw [if_pos ⟨hz, hne⟩]; exact hq
      · rw [decide_eq_false hz, if_neg hne, Bool.false_or] at h3
        have h4 := Int32.le_iff_toInt_le.mp (of_decide_eq_true h3)
        rw [nI_toInt (by omega)] at h4
        rw [if_neg (fun z => hz z.1)]
        omega
  by_cases h : onS I 1 o = true
  · rw [if_pos h]
    by_cases h2 : tk I o (nI q) = true
    · rw [if_pos h2, if_pos (key.mpr ⟨h, h2⟩)]
    · rw [if_neg h2, if_neg (fun z => h2 (key.mp z).2)]
  · rw [if_neg h, if_neg (fun z => h (key.mp z).1)]
theorem OT_line {I : Co} {n q : Nat} {K : List Nat} (hO : oOK I n) (hL : Line I n 0 K) (hq : q ≤ 2000) : OT I n q = sIf I (fun r => tk I r (nI q)) K := by
  rw [sIf_l, ← hL.sum]
  unfold OT
  refine gs_congr (fun o ho => ?_)
  have hb := hO.1 o ho
  have key : (pr I o ≤ q ∧ rs I o = true ∧ I 1 o = 0) ↔ (onS I 0 o = true ∧ tk I o (nI q) = true) := by
    rw [onS_iff]
    constructor
    · rintro ⟨h1, h2, h3⟩
      refine ⟨⟨h2, h3⟩, ?_⟩
      unfold tk
      rw [if_pos h3]
      unfold pr at h1
      rw [if_neg (fun z => z.2 h3)] at h1
      rw [decide_eq_true (Int32.le_iff_toInt_le.mpr (by rw [nI_toInt (by omega)]; omega)), Bool.or_true]
    · rintro ⟨⟨h2, h1⟩, h3⟩
      refine ⟨?_, h2, h1⟩
      unfold tk at h3
      unfold pr
      rw [if_neg (fun z => z.2 h1)]
      rw [if_pos h1] at h3
      by_cases hz : I 2 o = 0
      · rw [hz, i0]; omega
      · rw [decide_eq_false hz, Bool.false_or] at h3
        have h4 := Int32.le_iff_toInt_le.mp (of_decide_eq_true h3)
        rw [nI_toInt (by omega)] at h4
        omega
  by_cases h : onS I 0 o = true
  · rw [if_pos h]
    by_cases h2 : tk I o (nI q) = true
    · rw [if_pos h2, if_pos (key.mpr ⟨h, h2⟩)]
    · rw [if_neg h2, if_neg (fun z => h2 (key.mp z).2)]
  · rw [if_neg h, if_neg (fun z => h (key.mp z).1)]
theorem nI_2k {q : Nat} (h : q ≤ 2000) : (2000 : Int32) - nI q = nI (2000 - q) := by
  refine Int32.toInt_inj.mp ?_
  rw [Int32.toInt_sub, nI_toInt (by omega), nI_toInt (by omega), show (2000 : Int32).toInt = 2000 by decide, Int.bmod_def]
  omega
set_option maxHeartbeats 4000000 in
set_option maxRecDepth 100000 in
theorem c_M_sumUp (l : Launch) (γ : mG) (M : mMap) (μ : RK) (σ : St) (ε : RE) (hR : RM γ M μ σ ε) (hn : sn σ ≤ 250) (hO : oOK (sI σ) (sn σ)) : Met l y_M_sumUp w_M_sumUp ({ frames := 1, cells := 0, slots := 0, locals := 21 } : Room) (mPc γ M [.ref (rx μ)]) (mQv γ (fun M' => ∃ wf of : Nat → Int64, RQ γ M M' μ σ (ε.1, wf, of, ε.2.2.2) ∧ ∀ q, q ≤ 2000 → wf q = WT (sI σ) (sn σ) q ∧ of q = OT (sI σ) (sn σ) q)) 0 0 (mA (gz γ)) := by
  refine m_enter (by decide) (Nat.le_of_ble_eq_true rfl) ?_
  intro p e s m below meth c ls S hr hlk hnm hl hw
  have hl : lv_has ls 3 [(0, .ref (rx μ))] := hl
  have hR := hR.q
  refine lv_iconst (v := 0) S.1 S.2.1 d_M_sumUp_0 (by decide) ?_
  refine lv_istore_n S.1 S.2.1 d_M_sumUp_1 rfl hl (by decide) rfl (fun ls hl => ?_)
  have hl : lv_has ls 3 [(1, .int 0), (0, .ref (rx μ))] := hl
  have loop3 : ∀ (d q : Nat) (wf of : Nat → Int64) (Mc : mMap) (H : Heap) (locs : List Loc) (ls : Array Slot), q + d = 2001 → 1 ≤ q → (∀ j, j ≤ 2000 → (of j = if j < q then OT (sI σ) (sn σ) j else oS (sI σ) j (sn σ)) ∧ (wf j = if 2000 < j + q then WT (sI σ) (sn σ) j else wS (sI σ) j (sn σ))) → RQ γ M Mc μ σ (ε.1, wf, of, ε.2.2.2) → lv_has ls 3 [(1, .int (nI q)), (0, .ref (rx μ))] → mW γ Mc s H locs → W p l e ({ frames := 1, cells := 0, slots := 0, locals := 21 } : Room) s m #[.ref (rx μ)] below meth c H locs 0 0 (MQ below (mQv γ (fun M' => ∃ wf of : Nat → Int64, RQ γ M M' μ σ (ε.1, wf, of, ε.2.2.2) ∧ ∀ q, q ≤ 2000 → wf q = WT (sI σ) (sn σ) q ∧ of q = OT (sI σ) (sn σ) q)) #[.ref (rx μ)] s 0 0 (mA (gz γ))) (F0 m 152 ls []) := by
    intro d
    induction d with
    | zero =>
      intro q wf of Mc H locs ls hi h1 hF hR hl hw
      refine lv_iload_n S.1 S.2.1 d_M_sumUp_152 rfl (lv_at hl 0 rfl) ?_
      refine lv_sipush (v := 2000) S.1 S.2.1 d_M_sumUp_153 (by decide) ?_
      refine lv_icmp_gt (tgt := 207) S.1 S.2.1 d_M_sumUp_156 rfl (fun _ => ?_) (fun h => absurd (show nI 2000 < nI q from nI_lt (by omega) (by omega)) h)
      exact m_vret S hlk hr hw (⟨wf, of, hR, fun j hj => ⟨(hF j hj).2.trans (if_pos (by omega)), (hF j hj).1.trans (if_pos (by omega))⟩⟩) (Nat.le_refl _) (Nat.le_refl _) d_M_sumUp_207
    | succ d ih =>
      intro q wf of Mc H locs ls hi h1 hF hR hl hw
      refine lv_iload_n S.1 S.2.1 d_M_sumUp_152 rfl (lv_at hl 0 rfl) ?_
      refine lv_sipush (v := 2000) S.1 S.2.1 d_M_sumUp_153 (by decide) ?_
      refine lv_icmp_gt (tgt := 207) S.1 S.2.1 d_M_sumUp_156 rfl (fun h => absurd h (show ¬ nI 2000 < nI q from nI_nlt (by omega) (by decide))) (fun _ => ?_)
      refine lv_aload_n S.1 S.2.1 d_M_sumUp_159 rfl (lv_at hl 1 rfl) ?_
      refine m_get S hw cl_M hR.obj 22 (by decide) g710 (fun _ h => h) rfl d_M_sumUp_160 ?_
      refine lv_iload_n S.1 S.2.1 d_M_sumUp_163 rfl (lv_at hl 0 rfl) ?_
      refine lv_dup2_11 S.1 S.2.1 d_M_sumUp_164 rfl rfl ?_
      refine m_rldO (o := q) S hw hR (by omega) d_M_sumUp_165 ?_
      refine lv_aload_n S.1 S.2.1 d_M_sumUp_166 rfl (lv_at hl 1 rfl) ?_
      refine m_get S hw cl_M hR.obj 22 (by decide) g710 (fun _ h => h) rfl d_M_sumUp_167 ?_
      refine lv_iload_n S.1 S.2.1 d_M_sumUp_170 rfl (lv_at hl 0 rfl) ?_
      refine lv_iconst (v := 1) S.1 S.2.1 d_M_sumUp_171 (by decide) ?_
      refine lv_isub S.1 S.2.1 d_M_sumUp_172 ?_
      refine W.eq (g2 := F0 m 173 ls [.int (nI (q - 1)), .ref (ra μ 14), .long (of q), .int (nI q), .ref (ra μ 14)]) (congrArg (fun z => F0 m 173 ls [.int z, .ref (ra μ 14), .long (of q), .int (nI q), .ref (ra μ 14)]) (nI_m1 (by omega))) ?_
      refine m_rldO (o := q - 1) S hw hR (by omega) d_M_sumUp_173 ?_
      refine lv_ladd S.1 S.2.1 d_M_sumUp_174 ?_
      refine m_rstO (o := q) (v := (of q) + (of (q - 1))) S hw hR (by omega) d_M_sumUp_175 (fun H locs N1 hR hw => ?_)
      have hR : RQ γ _ N1 μ σ (ε.1, wf, vp_updL of q ((of q) + (of (q - 1))), ε.2.2.2.1, ε.2.2.2.2.1, ε.2.2.2.2.2) := hR
      refine lv_aload_n S.1 S.2.1 d_M_sumUp_176 rfl (lv_at hl 1 rfl) ?_
      refine m_get S hw cl_M hR.obj 21 (by decide) g709 (fun _ h => h) rfl d_M_sumUp_177 ?_
      refine lv_sipush (v := 2000) S.1 S.2.1 d_M_sumUp_180 (by decide) ?_
      refine lv_iload_n S.1 S.2.1 d_M_sumUp_183 rfl (lv_at hl 0 rfl) ?_
      refine lv_isub S.1 S.2.1 d_M_sumUp_184 ?_
      refine W.eq (g2 := F0 m 185 ls [.int (nI (2000 - q)), .ref (ra μ 13)]) (congrArg (fun z => F0 m 185 ls [.int z, .ref (ra μ 13)]) (nI_2k (by omega))) ?_
      refine lv_dup2_11 S.1 S.2.1 d_M_sumUp_185 rfl rfl ?_
      refine m_rldW (o := 2000 - q) S hw hR (by omega) d_M_sumUp_186 ?_
      refine lv_aload_n S.1 S.2.1 d_M_sumUp_187 rfl (lv_at hl 1 rfl) ?_
      refine m_get S hw cl_M hR.obj 21 (by decide) g709 (fun _ h => h) rfl d_M_sumUp_188 ?_
      refine lv_sipush (v := 2000) S.1 S.2.1 d_M_sumUp_191 (by decide) ?_
      refine lv_iload_n S.1 S.2.1 d_M_sumUp_194 rfl (lv_at hl 0 rfl) ?_
      refine lv_isub S.1 S.2.1 d_M_sumUp_195 ?_
      refine lv_iconst (v := 1) S.1 S.2.1 d_M_sumUp_196 (by decide) ?_
      refine lv_iadd S.1 S.2.1 d_M_sumUp_197 ?_
      refine W.eq (g2 := F0 m 198 ls [.int (nI (2000 - q + 1)), .ref (ra μ 13), .long (wf (2000 - q)), .int (nI (2000 - q)), .ref (ra μ 13)]) (congrArg (fun z => F0 m 198 ls [.int z, .ref (ra μ 13), .long (wf (2000 - q)), .int (nI (2000 - q)), .ref (ra μ 13)]) (by rw [nI_2k (by omega)]; exact nI_1 _)) ?_
      refine m_rldW (o := 2000 - q + 1) S hw hR (by omega) d_M_sumUp_198 ?_
      refine lv_ladd S.1 S.2.1 d_M_sumUp_199 ?_
      refine m_rstW (o := 2000 - q) (v := (wf (2000 - q)) + (wf (2000 - q + 1))) S hw hR (by omega) d_M_sumUp_200 (fun H locs N2 hR hw => ?_)
      have hR : RQ γ _ N2 μ σ (ε.1, vp_updL wf (2000 - q) ((wf (2000 - q)) + (wf (2000 - q + 1))), vp_updL of q ((of q) + (of (q - 1))), ε.2.2.2.1, ε.2.2.2.2.1, ε.2.2.2.2.2) := hR
      refine lv_iinc (k := 0) (v := nI (q + 1)) S.1 S.2.1 d_M_sumUp_201 hl rfl (nI_1 q) (by decide) rfl (fun ls hl => ?_)
      have hl : lv_has ls 3 [(1, .int (nI (q + 1))), (0, .ref (rx μ))] := hl
      refine lv_goto (tgt := 152) S.1 S.2.1 d_M_sumUp_204 rfl ?_
      refine ih (q + 1) _ _ N2 H locs ls (by omega) (by omega) (fun j hj => ?_) hR hl hw
      have a := hF j hj
      have b1 := hF q (by omega)
      have b2 := hF (q - 1) (by omega)
      have b3 := hF (2000 - q) (by omega)
      have b4 := hF (2000 - q + 1) (by omega)
      constructor
      · by_cases e : j = q
        · subst e
          rw [uL_s, b1.1, b2.1, if_neg (Nat.lt_irrefl _), if_pos (by omega), if_pos (by omega)]
          have := OT_go (I := sI σ) (n := sn σ) (q := j - 1)
          rwa [show j - 1 + 1 = j by omega] at this
        · rw [uL_o e, a.1]
          by_cases e2 : j < q
          · rw [if_pos e2, if_pos (by omega)]
          · rw [if_neg e2, if_neg (by omega)]
      · by_cases e : j = 2000 - q
        · rw [e, uL_s, b3.2, b4.2, if_neg (by omega), if_pos (by omega), if_pos (by omega)]
          exact WT_go
        · rw [uL_o e, a.2]
          by_cases e2 : 2000 < j + q
          · rw [if_pos e2, if_pos (by omega)]
          · rw [if_neg e2, if_neg (by omega)]
  have loop2 : ∀ (d q : Nat) (wf of : Nat → Int64) (Mc : mMap) (H : Heap) (locs : List Loc) (ls : Array Slot), q + d = sn σ → (∀ j, j < 2002 → wf j = wS (sI σ) j q ∧ of j = oS (sI σ) j q) → RQ γ M Mc μ σ (ε.1, wf, of, ε.2.2.2) → lv_has ls 3 [(1, .int (nI q)), (0, .ref (rx μ))] → mW γ Mc s H locs → W p l e ({ frames := 1, cells := 0, slots := 0, locals := 21 } : Room) s m #[.ref (rx μ)] below meth c H locs 0 0 (MQ below (mQv γ (fun M' => ∃ wf of : Nat → Int64, RQ γ M M' μ σ (ε.1, wf, of, ε.2.2.2) ∧ ∀ q, q ≤ 2000 → wf q = WT (sI σ) (sn σ) q ∧ of q = OT (sI σ) (sn σ) q)) #[.ref (rx μ)] s 0 0 (mA (gz γ))) (F0 m 31 ls []) := by
    intro d
    induction d with
    | zero =>
      intro q wf of Mc H locs ls hi hF hR hl hw
      have hi2 : q = sn σ := by omega
      refine lv_iload_n S.1 S.2.1 d_M_sumUp_31 rfl (lv_at hl 0 rfl) ?_
      refine lv_aload_n S.1 S.2.1 d_M_sumUp_32 rfl (lv_at hl 1 rfl) ?_
      refine m_get S hw cl_M hR.obj 5 (by decide) g693 (fun _ h => h) rfl d_M_sumUp_33 ?_
      refine lv_icmp_ge (tgt := 150) S.1 S.2.1 d_M_sumUp_36 rfl (fun _ => ?_) (fun h => absurd (nI_le (by omega) (by omega)) h)
      refine lv_iconst (v := 1) S.1 S.2.1 d_M_sumUp_150 (by decide) ?_
      refine lv_istore_n S.1 S.2.1 d_M_sumUp_151 rfl hl (by decide) rfl (fun ls hl => ?_)
      have hl : lv_has ls 3 [(1, .int 1), (0, .ref (rx μ))] := hl
      have hl := lv_sub hl [0, 1] rfl
      refine loop3 2000 1 wf of Mc H locs ls rfl (Nat.le_refl _) (fun j hj => ?_) hR hl hw
      have a := hF j (by omega)
      rw [hi2] at a
      constructor
      · by_cases e : j < 1
        · rw [if_pos e, a.2, show j = 0 by omega]; exact OT_0
        · rw [if_neg e, a.2]
      · by_cases e : 2000 < j + 1
        · rw [if_pos e, a.1, show j = 2000 by omega]; exact WT_top (fun o ho => pr_le hO ho)
        · rw [if_neg e, a.1]
    | succ d ih =>
      intro q wf of Mc H locs ls hi hF hR hl hw
      have hx : q < sn σ := by omega
      have hpl := pr_le hO hx
      refine lv_iload_n S.1 S.2.1 d_M_sumUp_31 rfl (lv_at hl 0 rfl) ?_
      refine lv_aload_n S.1 S.2.1 d_M_sumUp_32 rfl (lv_at hl 1 rfl) ?_
      refine m_get S hw cl_M hR.obj 5 (by decide) g693 (fun _ h => h) rfl d_M_sumUp_33 ?_
      refine lv_icmp_ge (tgt := 150) S.1 S.2.1 d_M_sumUp_36 rfl (fun h => absurd h (nI_ge (by omega) (by omega))) (fun _ => ?_)
      refine lv_aload_n S.1 S.2.1 d_M_sumUp_39 rfl (lv_at hl 1 rfl) ?_
      refine m_get S hw cl_M hR.obj 8 (by decide) g696 (fun _ h => h) rfl d_M_sumUp_40 ?_
      refine lv_iload_n S.1 S.2.1 d_M_sumUp_43 rfl (lv_at hl 0 rfl) ?_
      refine m_rld (o := q) S hw hR 2 (by decide) (by omega) d_M_sumUp_44 ?_
      refine lv_if_ne (tgt := 63) S.1 S.2.1 d_M_sumUp_45 rfl (fun h45 => ?_) (fun h45 => ?_)
      · refine lv_aload_n S.1 S.2.1 d_M_sumUp_63 rfl (lv_at hl 1 rfl) ?_
        refine m_get S hw cl_M hR.obj 8 (by decide) g696 (fun _ h => h) rfl d_M_sumUp_64 ?_
        refine lv_iload_n S.1 S.2.1 d_M_sumUp_67 rfl (lv_at hl 0 rfl) ?_
        refine m_rld (o := q) S hw hR 2 (by decide) (by omega) d_M_sumUp_68 ?_
        refine W.eq (g2 := F0 m 69 ls [.int (nI (pr (sI σ) q))]) (congrArg (fun z => F0 m 69 ls [.int z]) (pr_n hO hx (fun z => h45 z.1))) ?_
        refine lv_istore_n S.1 S.2.1 d_M_sumUp_69 rfl hl (by decide) rfl (fun ls hl => ?_)
        have hl : lv_has ls 3 [(2, .int (nI (pr (sI σ) q))), (1, .int (nI q)), (0, .ref (rx μ))] := hl
        refine lv_aload_n S.1 S.2.1 d_M_sumUp_70 rfl (lv_at hl 2 rfl) ?_
        refine m_get S hw cl_M hR.obj 21 (by decide) g709 (fun _ h => h) rfl d_M_sumUp_71 ?_
        refine lv_iload_n S.1 S.2.1 d_M_sumUp_74 rfl (lv_at hl 0 rfl) ?_
        refine lv_dup2_11 S.1 S.2.1 d_M_sumUp_75 rfl rfl ?_
        refine m_rldW (o := pr (sI σ) q) S hw hR (by omega) d_M_sumUp_76 ?_
        refine lv_aload_n S.1 S.2.1 d_M_sumUp_77 rfl (lv_at hl 2 rfl) ?_
        refine lv_iload_n S.1 S.2.1 d_M_sumUp_78 rfl (lv_at hl 1 rfl) ?_
        refine m_ci hw (va_runV (As := [.int (nI q)]) (rest := [.long (wf (pr (sI σ) q)), .int (nI (pr (sI σ) q)), .ref (ra μ 13)]) S (c_M_rests l γ Mc μ σ (ε.1, wf, of, ε.2.2.2.1, ε.2.2.2.2.1, ε.2.2.2.2.2) hR.1 hn q hx) (m_cwV 1 S g793 g795 g26 g48 g796 rfl rfl ⟨by decide +kernel, by decide +kernel, by decide +kernel⟩ ⟨(Nat.le_of_ble_eq_true rfl), (Nat.le_of_ble_eq_true rfl)⟩) (hw.preV hR.obj cl_M.1) rfl rfl hl.1 rfl (lv_room (Nat.le_of_ble_eq_true rfl)) d_M_sumUp_79 ⟨(Nat.zero_le _), (Nat.zero_le _)⟩) (fun r1 M1 H locs hp hw => ?_)
        obtain ⟨rfl, hM1⟩ := hp
        rw [hM1] at hw
        refine lv_if_eq (tgt := 104) S.1 S.2.1 d_M_sumUp_82 rfl (fun h82 => ?_) (fun h82 => ?_)
        · refine lv_lconst (v := 0) S.1 S.2.1 d_M_sumUp_104 (by decide) ?_
          refine lv_ladd S.1 S.2.1 d_M_sumUp_105 ?_
          refine m_rstW (o := pr (sI σ) q) (v := (wf (pr (sI σ) q)) + 0) S hw hR (by omega) d_M_sumUp_106 (fun H locs N3 hR hw => ?_)
          have hR : RQ γ _ N3 μ σ (ε.1, vp_updL wf (pr (sI σ) q) ((wf (pr (sI σ) q)) + 0), of, ε.2.2.2.1, ε.2.2.2.2.1, ε.2.2.2.2.2) := hR
          refine lv_aload_n S.1 S.2.1 d_M_sumUp_107 rfl (lv_at hl 2 rfl) ?_
          refine m_get S hw cl_M hR.obj 22 (by decide) g710 (fun _ h => h) rfl d_M_sumUp_108 ?_
          refine lv_iload_n S.1 S.2.1 d_M_sumUp_111 rfl (lv_at hl 0 rfl) ?_
          refine lv_dup2_11 S.1 S.2.1 d_M_sumUp_112 rfl rfl ?_
          refine m_rldO (o := pr (sI σ) q) S hw hR (by omega) d_M_sumUp_113 ?_
          refine lv_aload_n S.1 S.2.1 d_M_sumUp_114 rfl (lv_at hl 2 rfl) ?_
          refine lv_iload_n S.1 S.2.1 d_M_sumUp_115 rfl (lv_at hl 1 rfl) ?_
          refine m_ci hw (va_runV (As := [.int (nI q)]) (rest := [.long (of (pr (sI σ) q)), .int (nI (pr (sI σ) q)), .ref (ra μ 14)]) S (c_M_rests l γ N3 μ σ (ε.1, vp_updL wf (pr (sI σ) q) ((wf (pr (sI σ) q)) + 0), of, ε.2.2.2.1, ε.2.2.2.2.1, ε.2.2.2.2.2) hR.1 hn q hx) (m_cwV 1 S g793 g795 g26 g48 g796 rfl rfl ⟨by decide +kernel, by decide +kernel, by decide +kernel⟩ ⟨(Nat.le_of_ble_eq_true rfl), (Nat.le_of_ble_eq_true rfl)⟩) (hw.preV hR.obj cl_M.1) rfl rfl hl.1 rfl (lv_room (Nat.le_of_ble_eq_true rfl)) d_M_sumUp_116 ⟨(Nat.zero_le _), (Nat.zero_le _)⟩) (fun r1 M1 H locs hp hw => ?_)
          obtain ⟨rfl, hM1⟩ := hp
          rw [hM1] at hw
          refine lv_if_eq (tgt := 141) S.1 S.2.1 d_M_sumUp_119 rfl (fun h119 => ?_) (fun h119 => ?_)
          · refine lv_lconst (v := 0) S.1 S.2.1 d_M_sumUp_141 (by decide) ?_
            refine lv_ladd S.1 S.2.1 d_M_sumUp_142 ?_
            refine m_rstO (o := pr (sI σ) q) (v := (of (pr (sI σ) q)) + 0) S hw hR (by omega) d_M_sumUp_143 (fun H locs N4 hR hw => ?_)
            have hR : RQ γ _ N4 μ σ (ε.1, vp_updL wf (pr (sI σ) q) ((wf (pr (sI σ) q)) + 0), vp_updL of (pr (sI σ) q) ((of (pr (sI σ) q)) + 0), ε.2.2.2.1, ε.2.2.2.2.1, ε.2.2.2.2.2) := hR
            refine lv_iinc (k := 1) (v := nI (q + 1)) S.1 S.2.1 d_M_sumUp_144 hl rfl (nI_1 q) (by decide) rfl (fun ls hl => ?_)
            have hl : lv_has ls 3 [(1, .int (nI (q + 1))), (2, .int (nI (pr (sI σ) q))), (0, .ref (rx μ))] := hl
            refine lv_goto (tgt := 31) S.1 S.2.1 d_M_sumUp_147 rfl ?_
            have hl := lv_sub hl [0, 2] rfl
            refine ih (q + 1) _ _ N4 H locs ls (by omega) (fun j hj => ?_) hR hl hw
            have a := hF j hj
            have b := hF (pr (sI σ) q) (by omega)
            rw [wS_s, oS_s]
            constructor
            · by_cases e : j = pr (sI σ) q
              · rw [e, uL_s, b.1, if_neg (fun z => by rw [b2i_0.mp h82] at z; cases z.2.1)]
              · rw [uL_o e, a.1, if_neg (fun z => e z.1.symm), Int64.add_zero]
            · by_cases e : j = pr (sI σ) q
              · rw [e, uL_s, b.2, if_neg (fun z => by rw [b2i_0.mp h119] at z; cases z.2.1)]
              · rw [uL_o e, a.2, if_neg (fun z => e z.1.symm), Int64.add_zero]
          · refine lv_aload_n S.1 S.2.1 d_M_sumUp_122 rfl (lv_at hl 2 rfl) ?_
            refine m_get S hw cl_M hR.obj 7 (by decide) g695 (fun _ h => h) rfl d_M_sumUp_123 ?_
            refine lv_iload_n S.1 S.2.1 d_M_sumUp_126 rfl (lv_at hl 1 rfl) ?_
            refine m_rldz (o := q) S hw hR (by omega) d_M_sumUp_127 ?_
            refine lv_if_ne (tgt := 141) S.1 S.2.1 d_M_sumUp_128 rfl (fun h128 => ?_) (fun h128 => ?_)
            · refine lv_lconst (v := 0) S.1 S.2.1 d_M_sumUp_141 (by decide) ?_
              refine lv_ladd S.1 S.2.1 d_M_sumUp_142 ?_
              refine m_rstO (o := pr (sI σ) q) (v := (of (pr (sI σ) q)) + 0) S hw hR (by omega) d_M_sumUp_143 (fun H locs N5 hR hw => ?_)
              have hR : RQ γ _ N5 μ σ (ε.1, vp_updL wf (pr (sI σ) q) ((wf (pr (sI σ) q)) + 0), vp_updL of (pr (sI σ) q) ((of (pr (sI σ) q)) + 0), ε.2.2.2.1, ε.2.2.2.2.1, ε.2.2.2.2.2) := hR
              refine lv_iinc (k := 1) (v := nI (q + 1)) S.1 S.2.1 d_M_sumUp_144 hl rfl (nI_1 q) (by decide) rfl (fun ls hl => ?_)
              have hl : lv_has ls 3 [(1, .int (nI (q + 1))), (2, .int (nI (pr (sI σ) q))), (0, .ref (rx μ))] := hl
              refine lv_goto (tgt := 31) S.1 S.2.1 d_M_sumUp_147 rfl ?_
              have hl := lv_sub hl [0, 2] rfl
              refine ih (q + 1) _ _ N5 H locs ls (by omega) (fun j hj => ?_) hR hl hw
              have a := hF j hj
              have b := hF (pr (sI σ) q) (by omega)
              rw [wS_s, oS_s]
              constructor
              · by_cases e : j = pr (sI σ) q
                · rw [e, uL_s, b.1, if_neg (fun z => by rw [b2i_0.mp h82] at z; cases z.2.1)]
                · rw [uL_o e, a.1, if_neg (fun z => e z.1.symm), Int64.add_zero]
              · by_cases e : j = pr (sI σ) q
                · rw [e, uL_s, b.2, if_neg (fun z => h128 z.2.2)]
                · rw [uL_o e, a.2, if_neg (fun z => e z.1.symm), Int64.add_zero]
            · refine lv_aload_n S.1 S.2.1 d_M_sumUp_131 rfl (lv_at hl 2 rfl) ?_
              refine m_get S hw cl_M hR.obj 9 (by decide) g697 (fun _ h => h) rfl d_M_sumUp_132 ?_
              refine lv_iload_n S.1 S.2.1 d_M_sumUp_135 rfl (lv_at hl 1 rfl) ?_
              refine m_rld (o := q) S hw hR 3 (by decide) (by omega) d_M_sumUp_136 ?_
              refine lv_i2l S.1 S.2.1 d_M_sumUp_137 rfl ?_
              refine lv_goto (tgt := 142) S.1 S.2.1 d_M_sumUp_138 rfl ?_
              refine lv_ladd S.1 S.2.1 d_M_sumUp_142 ?_
              refine m_rstO (o := pr (sI σ) q) (v := (of (pr (sI σ) q)) + (((sI σ) 3 q).toInt64)) S hw hR (by omega) d_M_sumUp_143 (fun H locs N6 hR hw => ?_)
              have hR : RQ γ _ N6 μ σ (ε.1, vp_updL wf (pr (sI σ) q) ((wf (pr (sI σ) q)) + 0), vp_updL of (pr (sI σ) q) ((of (pr (sI σ) q)) + (((sI σ) 3 q).toInt64)), ε.2.2.2.1, ε.2.2.2.2.1, ε.2.2.2.2.2) := hR
              refine lv_iinc (k := 1) (v := nI (q + 1)) S.1 S.2.1 d_M_sumUp_144 hl rfl (nI_1 q) (by decide) rfl (fun ls hl => ?_)
              have hl : lv_has ls 3 [(1, .int (nI (q + 1))), (2, .int (nI (pr (sI σ) q))), (0, .ref (rx μ))] := hl
              refine lv_goto (tgt := 31) S.1 S.2.1 d_M_sumUp_147 rfl ?_
              have hl := lv_sub hl [0, 2] rfl
              refine ih (q + 1) _ _ N6 H locs ls (by omega) (fun j hj => ?_) hR hl hw
              have a := hF j hj
              have b := hF (pr (sI σ) q) (by omega)
              rw [wS_s, oS_s]
              constructor
              · by_cases e : j = pr (sI σ) q
                · rw [e, uL_s, b.1, if_neg (fun z => by rw [b2i_0.mp h82] at z; cases z.2.1)]
                · rw [uL_o e, a.1, if_neg (fun z => e z.1.symm), Int64.add_zero]
              · by_cases e : j = pr (sI σ) q
                · rw [e, uL_s, b.2, if_pos ⟨rfl, b2i_n0.mp h119, h128⟩]
                · rw [uL_o e, a.2, if_neg (fun z => e z.1.symm), Int64.add_zero]
        · refine lv_aload_n S.1 S.2.1 d_M_sumUp_85 rfl (lv_at hl 2 rfl) ?_
          refine m_get S hw cl_M hR.obj 7 (by decide) g695 (fun _ h => h) rfl d_M_sumUp_86 ?_
          refine lv_iload_n S.1 S.2.1 d_M_sumUp_89 rfl (lv_at hl 1 rfl) ?_
          refine m_rldz (o := q) S hw hR (by omega) d_M_sumUp_90 ?_
          refine lv_if_eq (tgt := 104) S.1 S.2.1 d_M_sumUp_91 rfl (fun h91 => ?_) (fun h91 => ?_)
          · refine lv_lconst (v := 0) S.1 S.2.1 d_M_sumUp_104 (by decide) ?_
            refine lv_ladd S.1 S.2.1 d_M_sumUp_105 ?_
            refine m_rstW (o := pr (sI σ) q) (v := (wf (pr (sI σ) q)) + 0) S hw hR (by omega) d_M_sumUp_106 (fun H locs N7 hR hw => ?_)
            have hR : RQ γ _ N7 μ σ (ε.1, vp_updL wf (pr (sI σ) q) ((wf (pr (sI σ) q)) + 0), of, ε.2.2.2.1, ε.2.2.2.2.1, ε.2.2.2.2.2) := hR
            refine lv_aload_n S.1 S.2.1 d_M_sumUp_107 rfl (lv_at hl 2 rfl) ?_
            refine m_get S hw cl_M hR.obj 22 (by decide) g710 (fun _ h => h) rfl d_M_sumUp_108 ?_
            refine lv_iload_n S.1 S.2.1 d_M_sumUp_111 rfl (lv_at hl 0 rfl) ?_
            refine lv_dup2_11 S.1 S.2.1 d_M_sumUp_112 rfl rfl ?_
            refine m_rldO (o := pr (sI σ) q) S hw hR (by omega) d_M_sumUp_113 ?_
            refine lv_aload_n S.1 S.2.1 d_M_sumUp_114 rfl (lv_at hl 2 rfl) ?_
            refine lv_iload_n S.1 S.2.1 d_M_sumUp_115 rfl (lv_at hl 1 rfl) ?_
            refine m_ci hw (va_runV (As := [.int (nI q)]) (rest := [.long (of (pr (sI σ) q)), .int (nI (pr (sI σ) q)), .ref (ra μ 14)]) S (c_M_rests l γ N7 μ σ (ε.1, vp_updL wf (pr (sI σ) q) ((wf (pr (sI σ) q)) + 0), of, ε.2.2.2.1, ε.2.2.2.2.1, ε.2.2.2.2.2) hR.1 hn q hx) (m_cwV 1 S g793 g795 g26 g48 g796 rfl rfl ⟨by decide +kernel, by decide +kernel, by decide +kernel⟩ ⟨(Nat.le_of_ble_eq_true rfl), (Nat.le_of_ble_eq_true rfl)⟩) (hw.preV hR.obj cl_M.1) rfl rfl hl.1 rfl (lv_room (Nat.le_of_ble_eq_true rfl)) d_M_sumUp_116 ⟨(Nat.zero_le _), (Nat.zero_le _)⟩) (fun r1 M1 H locs hp hw => ?_)
            obtain ⟨rfl, hM1⟩ := hp
            rw [hM1] at hw
            refine lv_if_eq (tgt := 141) S.1 S.2.1 d_M_sumUp_119 rfl (fun h119 => ?_) (fun h119 => ?_)
            · refine lv_lconst (v := 0) S.1 S.2.1 d_M_sumUp_141 (by decide) ?_
              refine lv_ladd S.1 S.2.1 d_M_sumUp_142 ?_
              refine m_rstO (o := pr (sI σ) q) (v := (of (pr (sI σ) q)) + 0) S hw hR (by omega) d_M_sumUp_143 (fun H locs N8 hR hw => ?_)
              have hR : RQ γ _ N8 μ σ (ε.1, vp_updL wf (pr (sI σ) q) ((wf (pr (sI σ) q)) + 0), vp_updL of (pr (sI σ) q) ((of (pr (sI σ) q)) + 0), ε.2.2.2.1, ε.2.2.2.2.1, ε.2.2.2.2.2) := hR
              refine lv_iinc (k := 1) (v := nI (q + 1)) S.1 S.2.1 d_M_sumUp_144 hl rfl (nI_1 q) (by decide) rfl (fun ls hl => ?_)
              have hl : lv_has ls 3 [(1, .int (nI (q + 1))), (2, .int (nI (pr (sI σ) q))), (0, .ref (rx μ))] := hl
              refine lv_goto (tgt := 31) S.1 S.2.1 d_M_sumUp_147 rfl ?_
              have hl := lv_sub hl [0, 2] rfl
              refine ih (q + 1) _ _ N8 H locs ls (by omega) (fun j hj => ?_) hR hl hw
              have a := hF j hj
              have b := hF (pr (sI σ) q) (by omega)
              rw [wS_s, oS_s]
              constructor
              · by_cases e : j = pr (sI σ) q
                · rw [e, uL_s, b.1, if_neg (fun z => z.2.2 h91)]
                · rw [uL_o e, a.1, if_neg (fun z => e z.1.symm), Int64.add_zero]
              · by_cases e : j = pr (sI σ) q
                · rw [e, uL_s, b.2, if_neg (fun z => by rw [b2i_0.mp h119] at z; cases z.2.1)]
                · rw [uL_o e, a.2, if_neg (fun z => e z.1.symm), Int64.add_zero]
            · refine lv_aload_n S.1 S.2.1 d_M_sumUp_122 rfl (lv_at hl 2 rfl) ?_
              refine m_get S hw cl_M hR.obj 7 (by decide) g695 (fun _ h => h) rfl d_M_sumUp_123 ?_
              refine lv_iload_n S.1 S.2.1 d_M_sumUp_126 rfl (lv_at hl 1 rfl) ?_
              refine m_rldz (o := q) S hw hR (by omega) d_M_sumUp_127 ?_
              refine lv_if_ne (tgt := 141) S.1 S.2.1 d_M_sumUp_128 rfl (fun h128 => ?_) (fun h128 => ?_)
              · refine lv_lconst (v := 0) S.1 S.2.1 d_M_sumUp_141 (by decide) ?_
                refine lv_ladd S.1 S.2.1 d_M_sumUp_142 ?_
                refine m_rstO (o := pr (sI σ) q) (v := (of (pr (sI σ) q)) + 0) S hw hR (by omega) d_M_sumUp_143 (fun H locs N9 hR hw => ?_)
                have hR : RQ γ _ N9 μ σ (ε.1, vp_updL wf (pr (sI σ) q) ((wf (pr (sI σ) q)) + 0), vp_updL of (pr (sI σ) q) ((of (pr (sI σ) q)) + 0), ε.2.2.2.1, ε.2.2.2.2.1, ε.2.2.2.2.2) := hR
                refine lv_iinc (k := 1) (v := nI (q + 1)) S.1 S.2.1 d_M_sumUp_144 hl rfl (nI_1 q) (by decide) rfl (fun ls hl => ?_)
                have hl : lv_has ls 3 [(1, .int (nI (q + 1))), (2, .int (nI (pr (sI σ) q))), (0, .ref (rx μ))] := hl
                refine lv_goto (tgt := 31) S.1 S.2.1 d_M_sumUp_147 rfl ?_
                have hl := lv_sub hl [0, 2] rfl
                refine ih (q + 1) _ _ N9 H locs ls (by omega) (fun j hj => ?_) hR hl hw
                have a := hF j hj
                have b := hF (pr (sI σ) q) (by omega)
                rw [wS_s, oS_s]
                constructor
                · by_cases e : j = pr (sI σ) q
                  · rw [e, uL_s, b.1, if_neg (fun z => z.2.2 h91)]
                  · rw [uL_o e, a.1, if_neg (fun z => e z.1.symm), Int64.add_zero]
                · by_cases e : j = pr (sI σ) q
                  · rw [e, uL_s, b.2, if_neg (fun z => h128 z.2.2)]
                  · rw [uL_o e, a.2, if_neg (fun z => e z.1.symm), Int64.add_zero]
              · refine lv_aload_n S.1 S.2.1 d_M_sumUp_131 rfl (lv_at hl 2 rfl) ?_
                refine m_get S hw cl_M hR.obj 9 (by decide) g697 (fun _ h => h) rfl d_M_sumUp_132 ?_
                refine lv_iload_n S.1 S.2.1 d_M_sumUp_135 rfl (lv_at hl 1 rfl) ?_
                refine m_rld (o := q) S hw hR 3 (by decide) (by omega) d_M_sumUp_136 ?_
                refine lv_i2l S.1 S.2.1 d_M_sumUp_137 rfl ?_
                refine lv_goto (tgt := 142) S.1 S.2.1 d_M_sumUp_138 rfl ?_
                refine lv_ladd S.1 S.2.1 d_M_sumUp_142 ?_
                refine m_rstO (o := pr (sI σ) q) (v := (of (pr (sI σ) q)) + (((sI σ) 3 q).toInt64)) S hw hR (by omega) d_M_sumUp_143 (fun H locs N10 hR hw => ?_)
                have hR : RQ γ _ N10 μ σ (ε.1, vp_updL wf (pr (sI σ) q) ((wf (pr (sI σ) q)) + 0), vp_updL of (pr (sI σ) q) ((of (pr (sI σ) q)) + (((sI σ) 3 q).toInt64)), ε.2.2.2.1, ε.2.2.2.2.1, ε.2.2.2.2.2) := hR
                refine lv_iinc (k := 1) (v := nI (q + 1)) S.1 S.2.1 d_M_sumUp_144 hl rfl (nI_1 q) (by decide) rfl (fun ls hl => ?_)
                have hl : lv_has ls 3 [(1, .int (nI (q + 1))), (2, .int (nI (pr (sI σ) q))), (0, .ref (rx μ))] := hl
                refine lv_goto (tgt := 31) S.1 S.2.1 d_M_sumUp_147 rfl ?_
                have hl := lv_sub hl [0, 2] rfl
                refine ih (q + 1) _ _ N10 H locs ls (by omega) (fun j hj => ?_) hR hl hw
                have a := hF j hj
                have b := hF (pr (sI σ) q) (by omega)
                rw [wS_s, oS_s]
                constructor
                · by_cases e : j = pr (sI σ) q
                  · rw [e, uL_s, b.1, if_neg (fun z => z.2.2 h91)]
                  · rw [uL_o e, a.1, if_neg (fun z => e z.1.symm), Int64.add_zero]
                · by_cases e : j = pr (sI σ) q
                  · rw [e, uL_s, b.2, if_pos ⟨rfl, b2i_n0.mp h119, h128⟩]
                  · rw [uL_o e, a.2, if_neg (fun z => e z.1.symm), Int64.add_zero]
          · refine lv_aload_n S.1 S.2.1 d_M_sumUp_94 rfl (lv_at hl 2 rfl) ?_
            refine m_get S hw cl_M hR.obj 9 (by decide) g697 (fun _ h => h) rfl d_M_sumUp_95 ?_
            refine lv_iload_n S.1 S.2.1 d_M_sumUp_98 rfl (lv_at hl 1 rfl) ?_
            refine m_rld (o := q) S hw hR 3 (by decide) (by omega) d_M_sumUp_99 ?_
            refine lv_i2l S.1 S.2.1 d_M_sumUp_100 rfl ?_
            refine lv_goto (tgt := 105) S.1 S.2.1 d_M_sumUp_101 rfl ?_
            refine lv_ladd S.1 S.2.1 d_M_sumUp_105 ?_
            refine m_rstW (o := pr (sI σ) q) (v := (wf (pr (sI σ) q)) + (((sI σ) 3 q).toInt64)) S hw hR (by omega) d_M_sumUp_106 (fun H locs N11 hR hw => ?_)
            have hR : RQ γ _ N11 μ σ (ε.1, vp_updL wf (pr (sI σ) q) ((wf (pr (sI σ) q)) + (((sI σ) 3 q).toInt64)), of, ε.2.2.2.1, ε.2.2.2.2.1, ε.2.2.2.2.2) := hR
            refine lv_aload_n S.1 S.2.1 d_M_sumUp_107 rfl (lv_at hl 2 rfl) ?_
            refine m_get S hw cl_M hR.obj 22 (by decide) g710 (fun _ h => h) rfl d_M_sumUp_108 ?_
            refine lv_iload_n S.1 S.2.1 d_M_sumUp_111 rfl (lv_at hl 0 rfl) ?_
            refine lv_dup2_11 S.1 S.2.1 d_M_sumUp_112 rfl rfl ?_
            refine m_rldO (o := pr (sI σ) q) S hw hR (by omega) d_M_sumUp_113 ?_
            refine lv_aload_n S.1 S.2.1 d_M_sumUp_114 rfl (lv_at hl 2 rfl) ?_
            refine lv_iload_n S.1 S.2.1 d_M_sumUp_115 rfl (lv_at hl 1 rfl) ?_
            refine m_ci hw (va_runV (As := [.int (nI q)]) (rest := [.long (of (pr (sI σ) q)), .int (nI (pr (sI σ) q)), .ref (ra μ 14)]) S (c_M_rests l γ N11 μ σ (ε.1, vp_updL wf (pr (sI σ) q) ((wf (pr (sI σ) q)) + (((sI σ) 3 q).toInt64)), of, ε.2.2.2.1, ε.2.2.2.2.1, ε.2.2.2.2.2) hR.1 hn q hx) (m_cwV 1 S g793 g795 g26 g48 g796 rfl rfl ⟨by decide +kernel, by decide +kernel, by decide +kernel⟩ ⟨(Nat.le_of_ble_eq_true rfl), (Nat.le_of_ble_eq_true rfl)⟩) (hw.preV hR.obj cl_M.1) rfl rfl hl.1 rfl (lv_room (Nat.le_of_ble_eq_true rfl)) d_M_sumUp_116 ⟨(Nat.zero_le _), (Nat.zero_le _)⟩) (fun r1 M1 H locs hp hw => ?_)
            obtain ⟨rfl, hM1⟩ := hp
            rw [hM1] at hw
            refine lv_if_eq (tgt := 141) S.1 S.2.1 d_M_sumUp_119 rfl (fun h119 => ?_) (fun h119 => ?_)
            · refine lv_lconst (v := 0) S.1 S.2.1 d_M_sumUp_141 (by decide) ?_
              refine lv_ladd S.1 S.2.1 d_M_sumUp_142 ?_
              refine m_rstO (o := pr (sI σ) q) (v := (of (pr (sI σ) q)) + 0) S hw hR (by omega) d_M_sumUp_143 (fun H locs N12 hR hw => ?_)
              have hR : RQ γ _ N12 μ σ (ε.1, vp_updL wf (pr (sI σ) q) ((wf (pr (sI σ) q)) + (((sI σ) 3 q).toInt64)), vp_updL of (pr (sI σ) q) ((of (pr (sI σ) q)) + 0), ε.2.2.2.1, ε.2.2.2.2.1, ε.2.2.2.2.2) := hR
              refine lv_iinc (k := 1) (v := nI (q + 1)) S.1 S.2.1 d_M_sumUp_144 hl rfl (nI_1 q) (by decide) rfl (fun ls hl => ?_)
              have hl : lv_has ls 3 [(1, .int (nI (q + 1))), (2, .int (nI (pr (sI σ) q))), (0, .ref (rx μ))] := hl
              refine lv_goto (tgt := 31) S.1 S.2.1 d_M_sumUp_147 rfl ?_
              have hl := lv_sub hl [0, 2] rfl
              refine ih (q + 1) _ _ N12 H locs ls (by omega) (fun j hj => ?_) hR hl hw
              have a := hF j hj
              have b := hF (pr (sI σ) q) (by omega)
              rw [wS_s, oS_s]
              constructor
              · by_cases e : j = pr (sI σ) q
                · rw [e, uL_s, b.1, if_pos ⟨rfl, b2i_n0.mp h82, h91⟩]
                · rw [uL_o e, a.1, if_neg (fun z => e z.1.symm), Int64.add_zero]
              · by_cases e : j = pr (sI σ) q
                · rw [e, uL_s, b.2, if_neg (fun z => by rw [b2i_0.mp h119] at z; cases z.2.1)]
                · rw [uL_o e, a.2, if_neg (fun z => e z.1.symm), Int64.add_zero]
            · refine lv_aload_n S.1 S.2.1 d_M_sumUp_122 rfl (lv_at hl 2 rfl) ?_
              refine m_get S hw cl_M hR.obj 7 (by decide) g695 (fun _ h => h) rfl d_M_sumUp_123 ?_
              refine lv_iload_n S.1 S.2.1 d_M_sumUp_126 rfl (lv_at hl 1 rfl) ?_
              refine m_rldz (o := q) S hw hR (by omega) d_M_sumUp_127 ?_
              refine lv_if_ne (tgt := 141) S.1 S.2.1 d_M_sumUp_128 rfl (fun h128 => ?_) (fun h128 => ?_)
              · refine lv_lconst (v := 0) S.1 S.2.1 d_M_sumUp_141 (by decide) ?_
                refine lv_ladd S.1 S.2.1 d_M_sumUp_142 ?_
                refine m_rstO (o := pr (sI σ) q) (v := (of (pr (sI σ) q)) + 0) S hw hR (by omega) d_M_sumUp_143 (fun H locs N13 hR hw => ?_)
                have hR : RQ γ _ N13 μ σ (ε.1, vp_updL wf (pr (sI σ) q) ((wf (pr (sI σ) q)) + (((sI σ) 3 q).toInt64)), vp_updL of (pr (sI σ) q) ((of (pr (sI σ) q)) + 0), ε.2.2.2.1, ε.2.2.2.2.1, ε.2.2.2.2.2) := hR
                refine lv_iinc (k := 1) (v := nI (q + 1)) S.1 S.2.1 d_M_sumUp_144 hl rfl (nI_1 q) (by decide) rfl (fun ls hl => ?_)
                have hl : lv_has ls 3 [(1, .int (nI (q + 1))), (2, .int (nI (pr (sI σ) q))), (0, .ref (rx μ))] := hl
                refine lv_goto (tgt := 31) S.1 S.2.1 d_M_sumUp_147 rfl ?_
                have hl := lv_sub hl [0, 2] rfl
                refine ih (q + 1) _ _ N13 H locs ls (by omega) (fun j hj => ?_) hR hl hw
                have a := hF j hj
                have b := hF (pr (sI σ) q) (by omega)
                rw [wS_s, oS_s]
                constructor
                · by_cases e : j = pr (sI σ) q
                  · rw [e, uL_s, b.1, if_pos ⟨rfl, b2i_n0.mp h82, h91⟩]
                  · rw [uL_o e, a.1, if_neg (fun z => e z.1.symm), Int64.add_zero]
                · by_cases e : j = pr (sI σ) q
                  · rw [e, uL_s, b.2, if_neg (fun z => h128 z.2.2)]
                  · rw [uL_o e, a.2, if_neg (fun z => e z.1.symm), Int64.add_zero]
              · refine lv_aload_n S.1 S.2.1 d_M_sumUp_131 rfl (lv_at hl 2 rfl) ?_
                refine m_get S hw cl_M hR.obj 9 (by decide) g697 (fun _ h => h) rfl d_M_sumUp_132 ?_
                refine lv_iload_n S.1 S.2.1 d_M_sumUp_135 rfl (lv_at hl 1 rfl) ?_
                refine m_rld (o := q) S hw hR 3 (by decide) (by omega) d_M_sumUp_136 ?_
                refine lv_i2l S.1 S.2.1 d_M_sumUp_137 rfl ?_
                refine lv_goto (tgt := 142) S.1 S.2.1 d_M_sumUp_138 rfl ?_
                refine lv_ladd S.1 S.2.1 d_M_sumUp_142 ?_
                refine m_rstO (o := pr (sI σ) q) (v := (of (pr (sI σ) q)) + (((sI σ) 3 q).toInt64)) S hw hR (by omega) d_M_sumUp_143 (fun H locs N14 hR hw => ?_)
                have hR : RQ γ _ N14 μ σ (ε.1, vp_updL wf (pr (sI σ) q) ((wf (pr (sI σ) q)) + (((sI σ) 3 q).toInt64)), vp_updL of (pr (sI σ) q) ((of (pr (sI σ) q)) + (((sI σ) 3 q).toInt64)), ε.2.2.2.1, ε.2.2.2.2.1, ε.2.2.2.2.2) := hR
                refine lv_iinc (k := 1) (v := nI (q + 1)) S.1 S.2.1 d_M_sumUp_144 hl rfl (nI_1 q) (by decide) rfl (fun ls hl => ?_)
                have hl : lv_has ls 3 [(1, .int (nI (q + 1))), (2, .int (nI (pr (sI σ) q))), (0, .ref (rx μ))] := hl
                refine lv_goto (tgt := 31) S.1 S.2.1 d_M_sumUp_147 rfl ?_
                have hl := lv_sub hl [0, 2] rfl
                refine ih (q + 1) _ _ N14 H locs ls (by omega) (fun j hj => ?_) hR hl hw
                have a := hF j hj
                have b := hF (pr (sI σ) q) (by omega)
                rw [wS_s, oS_s]
                constructor
                · by_cases e : j = pr (sI σ) q
                  · rw [e, uL_s, b.1, if_pos ⟨rfl, b2i_n0.mp h82, h91⟩]
                  · rw [uL_o e, a.1, if_neg (fun z => e z.1.symm), Int64.add_zero]
                · by_cases e : j = pr (sI σ) q
                  · rw [e, uL_s, b.2, if_pos ⟨rfl, b2i_n0.mp h119, h128⟩]
                  · rw [uL_o e, a.2, if_neg (fun z => e z.1.symm), Int64.add_zero]
      · refine lv_aload_n S.1 S.2.1 d_M_sumUp_48 rfl (lv_at hl 1 rfl) ?_
        refine m_get S hw cl_M hR.obj 7 (by decide) g695 (fun _ h => h) rfl d_M_sumUp_49 ?_
        refine lv_iload_n S.1 S.2.1 d_M_sumUp_52 rfl (lv_at hl 0 rfl) ?_
        refine m_rldz (o := q) S hw hR (by omega) d_M_sumUp_53 ?_
        refine lv_if_eq (tgt := 63) S.1 S.2.1 d_M_sumUp_54 rfl (fun h54 => ?_) (fun h54 => ?_)
        · refine lv_aload_n S.1 S.2.1 d_M_sumUp_63 rfl (lv_at hl 1 rfl) ?_
          refine m_get S hw cl_M hR.obj 8 (by decide) g696 (fun _ h => h) rfl d_M_sumUp_64 ?_
          refine lv_iload_n S.1 S.2.1 d_M_sumUp_67 rfl (lv_at hl 0 rfl) ?_
          refine m_rld (o := q) S hw hR 2 (by decide) (by omega) d_M_sumUp_68 ?_
          refine W.eq (g2 := F0 m 69 ls [.int (nI (pr (sI σ) q))]) (congrArg (fun z => F0 m 69 ls [.int z]) (pr_n hO hx (fun z => z.2 h54))) ?_
          refine lv_istore_n S.1 S.2.1 d_M_sumUp_69 rfl hl (by decide) rfl (fun ls hl => ?_)
          have hl : lv_has ls 3 [(2, .int (nI (pr (sI σ) q))), (1, .int (nI q)), (0, .ref (rx μ))] := hl
          refine lv_aload_n S.1 S.2.1 d_M_sumUp_70 rfl (lv_at hl 2 rfl) ?_
          refine m_get S hw cl_M hR.obj 21 (by decide) g709 (fun _ h => h) rfl d_M_sumUp_71 ?_
          refine lv_iload_n S.1 S.2.1 d_M_sumUp_74 rfl (lv_at hl 0 rfl) ?_
          refine lv_dup2_11 S.1 S.2.1 d_M_sumUp_75 rfl rfl ?_
          refine m_rldW (o := pr (sI σ) q) S hw hR (by omega) d_M_sumUp_76 ?_
          refine lv_aload_n S.1 S.2.1 d_M_sumUp_77 rfl (lv_at hl 2 rfl) ?_
          refine lv_iload_n S.1 S.2.1 d_M_sumUp_78 rfl (lv_at hl 1 rfl) ?_
          refine m_ci hw (va_runV (As := [.int (nI q)]) (rest := [.long (wf (pr (sI σ) q)), .int (nI (pr (sI σ) q)), .ref (ra μ 13)]) S (c_M_rests l γ Mc μ σ (ε.1, wf, of, ε.2.2.2.1, ε.2.2.2.2.1, ε.2.2.2.2.2) hR.1 hn q hx) (m_cwV 1 S g793 g795 g26 g48 g796 rfl rfl ⟨by decide +kernel, by decide +kernel, by decide +kernel⟩ ⟨(Nat.le_of_ble_eq_true rfl), (Nat.le_of_ble_eq_true rfl)⟩) (hw.preV hR.obj cl_M.1) rfl rfl hl.1 rfl (lv_room (Nat.le_of_ble_eq_true rfl)) d_M_sumUp_79 ⟨(Nat.zero_le _), (Nat.zero_le _)⟩) (fun r1 M1 H locs hp hw => ?_)
          obtain ⟨rfl, hM1⟩ := hp
          rw [hM1] at hw
          refine lv_if_eq (tgt := 104) S.1 S.2.1 d_M_sumUp_82 rfl (fun h82 => ?_) (fun h82 => ?_)
          · refine lv_lconst (v := 0) S.1 S.2.1 d_M_sumUp_104 (by decide) ?_
            refine lv_ladd S.1 S.2.1 d_M_sumUp_105 ?_
            refine m_rstW (o := pr (sI σ) q) (v := (wf (pr (sI σ) q)) + 0) S hw hR (by omega) d_M_sumUp_106 (fun H locs N15 hR hw => ?_)
            have hR : RQ γ _ N15 μ σ (ε.1, vp_updL wf (pr (sI σ) q) ((wf (pr (sI σ) q)) + 0), of, ε.2.2.2.1, ε.2.2.2.2.1, ε.2.2.2.2.2) := hR
            refine lv_aload_n S.1 S.2.1 d_M_sumUp_107 rfl (lv_at hl 2 rfl) ?_
            refine m_get S hw cl_M hR.obj 22 (by decide) g710 (fun _ h => h) rfl d_M_sumUp_108 ?_
            refine lv_iload_n S.1 S.2.1 d_M_sumUp_111 rfl (lv_at hl 0 rfl) ?_
            refine lv_dup2_11 S.1 S.2.1 d_M_sumUp_112 rfl rfl ?_
            refine m_rldO (o := pr (sI σ) q) S hw hR (by omega) d_M_sumUp_113 ?_
            refine lv_aload_n S.1 S.2.1 d_M_sumUp_114 rfl (lv_at hl 2 rfl) ?_
            refine lv_iload_n S.1 S.2.1 d_M_sumUp_115 rfl (lv_at hl 1 rfl) ?_
            refine m_ci hw (va_runV (As := [.int (nI q)]) (rest := [.long (of (pr (sI σ) q)), .int (nI (pr (sI σ) q)), .ref (ra μ 14)]) S (c_M_rests l γ N15 μ σ (ε.1, vp_updL wf (pr (sI σ) q) ((wf (pr (sI σ) q)) + 0), of, ε.2.2.2.1, ε.2.2.2.2.1, ε.2.2.2.2.2) hR.1 hn q hx) (m_cwV 1 S g793 g795 g26 g48 g796 rfl rfl ⟨by decide +kernel, by decide +kernel, by decide +kernel⟩ ⟨(Nat.le_of_ble_eq_true rfl), (Nat.le_of_ble_eq_true rfl)⟩) (hw.preV hR.obj cl_M.1) rfl rfl hl.1 rfl (lv_room (Nat.le_of_ble_eq_true rfl)) d_M_sumUp_116 ⟨(Nat.zero_le _), (Nat.zero_le _)⟩) (fun r1 M1 H locs hp hw => ?_)
            obtain ⟨rfl, hM1⟩ := hp
            rw [hM1] at hw
            refine lv_if_eq (tgt := 141) S.1 S.2.1 d_M_sumUp_119 rfl (fun h119 => ?_) (fun h119 => ?_)
            · refine lv_lconst (v := 0) S.1 S.2.1 d_M_sumUp_141 (by decide) ?_
              refine lv_ladd S.1 S.2.1 d_M_sumUp_142 ?_
              refine m_rstO (o := pr (sI σ) q) (v := (of (pr (sI σ) q)) + 0) S hw hR (by omega) d_M_sumUp_143 (fun H locs N16 hR hw => ?_)
              have hR : RQ γ _ N16 μ σ (ε.1, vp_updL wf (pr (sI σ) q) ((wf (pr (sI σ) q)) + 0), vp_updL of (pr (sI σ) q) ((of (pr (sI σ) q)) + 0), ε.2.2.2.1, ε.2.2.2.2.1, ε.2.2.2.2.2) := hR
              refine lv_iinc (k := 1) (v := nI (q + 1)) S.1 S.2.1 d_M_sumUp_144 hl rfl (nI_1 q) (by decide) rfl (fun ls hl => ?_)
              have hl : lv_has ls 3 [(1, .int (nI (q + 1))), (2, .int (nI (pr (sI σ) q))), (0, .ref (rx μ))] := hl
              refine lv_goto (tgt := 31) S.1 S.2.1 d_M_sumUp_147 rfl ?_
              have hl := lv_sub hl [0, 2] rfl
              refine ih (q + 1) _ _ N16 H locs ls (by omega) (fun j hj => ?_) hR hl hw
              have a := hF j hj
              have b := hF (pr (sI σ) q) (by omega)
              rw [wS_s, oS_s]
              constructor
              · by_cases e : j = pr (sI σ) q
                · rw [e, uL_s, b.1, if_neg (fun z => by rw [b2i_0.mp h82] at z; cases z.2.1)]
                · rw [uL_o e, a.1, if_neg (fun z => e z.1.symm), Int64.add_zero]
              · by_cases e : j = pr (sI σ) q
                · rw [e, uL_s, b.2, if_neg (fun z => by rw [b2i_0.mp h119] at z; cases z.2.1)]
                · rw [uL_o e, a.2, if_neg (fun z => e z.1.symm), Int64.add_zero]
            · refine lv_aload_n S.1 S.2.1 d_M_sumUp_122 rfl (lv_at hl 2 rfl) ?_
              refine m_get S hw cl_M hR.obj 7 (by decide) g695 (fun _ h => h) rfl d_M_sumUp_123 ?_
              refine lv_iload_n S.1 S.2.1 d_M_sumUp_126 rfl (lv_at hl 1 rfl) ?_
              refine m_rldz (o := q) S hw hR (by omega) d_M_sumUp_127 ?_
              refine lv_if_ne (tgt := 141) S.1 S.2.1 d_M_sumUp_128 rfl (fun h128 => ?_) (fun h128 => ?_)
              · refine lv_lconst (v := 0) S.1 S.2.1 d_M_sumUp_141 (by decide) ?_
                refine lv_ladd S.1 S.2.1 d_M_sumUp_142 ?_
                refine m_rstO (o := pr (sI σ) q) (v := (of (pr (sI σ) q)) + 0) S hw hR (by omega) d_M_sumUp_143 (fun H locs N17 hR hw => ?_)
                have hR : RQ γ _ N17 μ σ (ε.1, vp_updL wf (pr (sI σ) q) ((wf (pr (sI σ) q)) + 0), vp_updL of (pr (sI σ) q) ((of (pr (sI σ) q)) + 0), ε.2.2.2.1, ε.2.2.2.2.1, ε.2.2.2.2.2) := hR
                refine lv_iinc (k := 1) (v := nI (q + 1)) S.1 S.2.1 d_M_sumUp_144 hl rfl (nI_1 q) (by decide) rfl (fun ls hl => ?_)
                have hl : lv_has ls 3 [(1, .int (nI (q + 1))), (2, .int (nI (pr (sI σ) q))), (0, .ref (rx μ))] := hl
                refine lv_goto (tgt := 31) S.1 S.2.1 d_M_sumUp_147 rfl ?_
                have hl := lv_sub hl [0, 2] rfl
                refine ih (q + 1) _ _ N17 H locs ls (by omega) (fun j hj => ?_) hR hl hw
                have a := hF j hj
                have b := hF (pr (sI σ) q) (by omega)
                rw [wS_s, oS_s]
                constructor
                · by_cases e : j = pr (sI σ) q
                  · rw [e, uL_s, b.1, if_neg (fun z => by rw [b2i_0.mp h82] at z; cases z.2.1)]
                  · rw [uL_o e, a.1, if_neg (fun z => e z.1.symm), Int64.add_zero]
                · by_cases e : j = pr (sI σ) q
                  · rw [e, uL_s, b.2, if_neg (fun z => h128 z.2.2)]
                  · rw [uL_o e, a.2, if_neg (fun z => e z.1.symm), Int64.add_zero]
              · refine lv_aload_n S.1 S.2.1 d_M_sumUp_131 rfl (lv_at hl 2 rfl) ?_
                refine m_get S hw cl_M hR.obj 9 (by decide) g697 (fun _ h => h) rfl d_M_sumUp_132 ?_
                refine lv_iload_n S.1 S.2.1 d_M_sumUp_135 rfl (lv_at hl 1 rfl) ?_
                refine m_rld (o := q) S hw hR 3 (by decide) (by omega) d_M_sumUp_136 ?_
                refine lv_i2l S.1 S.2.1 d_M_sumUp_137 rfl ?_
                refine lv_goto (tgt := 142) S.1 S.2.1 d_M_sumUp_138 rfl ?_
                refine lv_ladd S.1 S.2.1 d_M_sumUp_142 ?_
                refine m_rstO (o := pr (sI σ) q) (v := (of (pr (sI σ) q)) + (((sI σ) 3 q).toInt64)) S hw hR (by omega) d_M_sumUp_143 (fun H locs N18 hR hw => ?_)
                have hR : RQ γ _ N18 μ σ (ε.1, vp_updL wf (pr (sI σ) q) ((wf (pr (sI σ) q)) + 0), vp_updL of (pr (sI σ) q) ((of (pr (sI σ) q)) + (((sI σ) 3 q).toInt64)), ε.2.2.2.1, ε.2.2.2.2.1, ε.2.2.2.2.2) := hR
                refine lv_iinc (k := 1) (v := nI (q + 1)) S.1 S.2.1 d_M_sumUp_144 hl rfl (nI_1 q) (by decide) rfl (fun ls hl => ?_)
                have hl : lv_has ls 3 [(1, .int (nI (q + 1))), (2, .int (nI (pr (sI σ) q))), (0, .ref (rx μ))] := hl
                refine lv_goto (tgt := 31) S.1 S.2.1 d_M_sumUp_147 rfl ?_
                have hl := lv_sub hl [0, 2] rfl
                refine ih (q + 1) _ _ N18 H locs ls (by omega) (fun j hj => ?_) hR hl hw
                have a := hF j hj
                have b := hF (pr (sI σ) q) (by omega)
                rw [wS_s, oS_s]
                constructor
                · by_cases e : j = pr (sI σ) q
                  · rw [e, uL_s, b.1, if_neg (fun z => by rw [b2i_0.mp h82] at z; cases z.2.1)]
                  · rw [uL_o e, a.1, if_neg (fun z => e z.1.symm), Int64.add_zero]
                · by_cases e : j = pr (sI σ) q
                  · rw [e, uL_s, b.2, if_pos ⟨rfl, b2i_n0.mp h119, h128⟩]
                  · rw [uL_o e, a.2, if_neg (fun z => e z.1.symm), Int64.add_zero]
          · refine lv_aload_n S.1 S.2.1 d_M_sumUp_85 rfl (lv_at hl 2 rfl) ?_
            refine m_get S hw cl_M hR.obj 7 (by decide) g695 (fun _ h => h) rfl d_M_sumUp_86 ?_
            refine lv_iload_n S.1 S.2.1 d_M_sumUp_89 rfl (lv_at hl 1 rfl) ?_
            refine m_rldz (o := q) S hw hR (by omega) d_M_sumUp_90 ?_
            refine lv_if_eq (tgt := 104) S.1 S.2.1 d_M_sumUp_91 rfl (fun h91 => ?_) (fun h91 => ?_)
            · refine lv_lconst (v := 0) S.1 S.2.1 d_M_sumUp_104 (by decide) ?_
              refine lv_ladd S.1 S.2.1 d_M_sumUp_105 ?_
              refine m_rstW (o := pr (sI σ) q) (v := (wf (pr (sI σ) q)) + 0) S hw hR (by omega) d_M_sumUp_106 (fun H locs N19 hR hw => ?_)
              have hR : RQ γ _ N19 μ σ (ε.1, vp_updL wf (pr (sI σ) q) ((wf (pr (sI σ) q)) + 0), of, ε.2.2.2.1, ε.2.2.2.2.1, ε.2.2.2.2.2) := hR
              refine lv_aload_n S.1 S.2.1 d_M_sumUp_107 rfl (lv_at hl 2 rfl) ?_
              refine m_get S hw cl_M hR.obj 22 (by decide) g710 (fun _ h => h) rfl d_M_sumUp_108 ?_
              refine lv_iload_n S.1 S.2.1 d_M_sumUp_111 rfl (lv_at hl 0 rfl) ?_
              refine lv_dup2_11 S.1 S.2.1 d_M_sumUp_112 rfl rfl ?_
              refine m_rldO (o := pr (sI σ) q) S hw hR (by omega) d_M_sumUp_113 ?_
              refine lv_aload_n S.1 S.2.1 d_M_sumUp_114 rfl (lv_at hl 2 rfl) ?_
              refine lv_iload_n S.1 S.2.1 d_M_sumUp_115 rfl (lv_at hl 1 rfl) ?_
              refine m_ci hw (va_runV (As := [.int (nI q)]) (rest := [.long (of (pr (sI σ) q)), .int (nI (pr (sI σ) q)), .ref (ra μ 14)]) S (c_M_rests l γ N19 μ σ (ε.1, vp_updL wf (pr (sI σ) q) ((wf (pr (sI σ) q)) + 0), of, ε.2.2.2.1, ε.2.2.2.2.1, ε.2.2.2.2.2) hR.1 hn q hx) (m_cwV 1 S g793 g795 g26 g48 g796 rfl rfl ⟨by decide +kernel, by decide +kernel, by decide +kernel⟩ ⟨(Nat.le_of_ble_eq_true rfl), (Nat.le_of_ble_eq_true rfl)⟩) (hw.preV hR.obj cl_M.1) rfl rfl hl.1 rfl (lv_room (Nat.le_of_ble_eq_true rfl)) d_M_sumUp_116 ⟨(Nat.zero_le _), (Nat.zero_le _)⟩) (fun r1 M1 H locs hp hw => ?_)
              obtain ⟨rfl, hM1⟩ := hp
              rw [hM1] at hw
              refine lv_if_eq (tgt := 141) S.1 S.2.1 d_M_sumUp_119 rfl (fun h119 => ?_) (fun h119 => ?_)
              · refine lv_lconst (v := 0) S.1 S.2.1 d_M_sumUp_141 (by decide) ?_
                refine lv_ladd S.1 S.2.1 d_M_sumUp_142 ?_
                refine m_rstO (o := pr (sI σ) q) (v := (of (pr (sI σ) q)) + 0) S hw hR (by omega) d_M_sumUp_143 (fun H locs N20 hR hw => ?_)
                have hR : RQ γ _ N20 μ σ (ε.1, vp_updL wf (pr (sI σ) q) ((wf (pr (sI σ) q)) + 0), vp_updL of (pr (sI σ) q) ((of (pr (sI σ) q)) + 0), ε.2.2.2.1, ε.2.2.2.2.1, ε.2.2.2.2.2) := hR
                refine lv_iinc (k := 1) (v := nI (q + 1)) S.1 S.2.1 d_M_sumUp_144 hl rfl (nI_1 q) (by decide) rfl (fun ls hl => ?_)
                have hl : lv_has ls 3 [(1, .int (nI (q + 1))), (2, .int (nI (pr (sI σ) q))), (0, .ref (rx μ))] := hl
                refine lv_goto (tgt := 31) S.1 S.2.1 d_M_sumUp_147 rfl ?_
                have hl := lv_sub hl [0, 2] rfl
                refine ih (q + 1) _ _ N20 H locs ls (by omega) (fun j hj => ?_) hR hl hw
                have a := hF j hj
                have b := hF (pr (sI σ) q) (by omega)
                rw [wS_s, oS_s]
                constructor
                · by_cases e : j = pr (sI σ) q
                  · rw [e, uL_s, b.1, if_neg (fun z => z.2.2 h91)]
                  · rw [uL_o e, a.1, if_neg (fun z => e z.1.symm), Int64.add_zero]
                · by_cases e : j = pr (sI σ) q
                  · rw [e, uL_s, b.2, if_neg (fun z => by rw [b2i_0.mp h119] at z; cases z.2.1)]
                  · rw [uL_o e, a.2, if_neg (fun z => e z.1.symm), Int64.add_zero]
              · refine lv_aload_n S.1 S.2.1 d_M_sumUp_122 rfl (lv_at hl 2 rfl) ?_
                refine m_get S hw cl_M hR.obj 7 (by decide) g695 (fun _ h => h) rfl d_M_sumUp_123 ?_
                refine lv_iload_n S.1 S.2.1 d_M_sumUp_126 rfl (lv_at hl 1 rfl) ?_
                refine m_rldz (o := q) S hw hR (by omega) d_M_sumUp_127 ?_
                refine lv_if_ne (tgt := 141) S.1 S.2.1 d_M_sumUp_128 rfl (fun h128 => ?_) (fun h128 => ?_)
                · refine lv_lconst (v := 0) S.1 S.2.1 d_M_sumUp_141 (by decide) ?_
                  refine lv_ladd S.1 S.2.1 d_M_sumUp_142 ?_
                  refine m_rstO (o := pr (sI σ) q) (v := (of (pr (sI σ) q)) + 0) S hw hR (by omega) d_M_sumUp_143 (fun H locs N21 hR hw => ?_)
                  have hR : RQ γ _ N21 μ σ (ε.1, vp_updL wf (pr (sI σ) q) ((wf (pr (sI σ) q)) + 0), vp_updL of (pr (sI σ) q) ((of (pr (sI σ) q)) + 0), ε.2.2.2.1, ε.2.2.2.2.1, ε.2.2.2.2.2) := hR
                  refine lv_iinc (k := 1) (v := nI (q + 1)) S.1 S.2.1 d_M_sumUp_144 hl rfl (nI_1 q) (by decide) rfl (fun ls hl => ?_)
                  have hl : lv_has ls 3 [(1, .int (nI (q + 1))), (2, .int (nI (pr (sI σ) q))), (0, .ref (rx μ))] := hl
                  refine lv_goto (tgt := 31) S.1 S.2.1 d_M_sumUp_147 rfl ?_
                  have hl := lv_sub hl [0, 2] rfl
                  refine ih (q + 1) _ _ N21 H locs ls (by omega) (fun j hj => ?_) hR hl hw
                  have a := hF j hj
                  have b := hF (pr (sI σ) q) (by omega)
                  rw [wS_s, oS_s]
                  constructor
                  · by_cases e : j = pr (sI σ) q
                    · rw [e, uL_s, b.1, if_neg (fun z => z.2.2 h91)]
                    · rw [uL_o e, a.1, if_neg (fun z => e z.1.symm), Int64.add_zero]
                  · by_cases e : j = pr (sI σ) q
                    · rw [e, uL_s, b.2, if_neg (fun z => h128 z.2.2)]
                    · rw [uL_o e, a.2, if_neg (fun z => e z.1.symm), Int64.add_zero]
                · refine lv_aload_n S.1 S.2.1 d_M_sumUp_131 rfl (lv_at hl 2 rfl) ?_
                  refine m_get S hw cl_M hR.obj 9 (by decide) g697 (fun _ h => h) rfl d_M_sumUp_132 ?_
                  refine lv_iload_n S.1 S.2.1 d_M_sumUp_135 rfl (lv_at hl 1 rfl) ?_
                  refine m_rld (o := q) S hw hR 3 (by decide) (by omega) d_M_sumUp_136 ?_
                  refine lv_i2l S.1 S.2.1 d_M_sumUp_137 rfl ?_
                  refine lv_goto (tgt := 142) S.1 S.2.1 d_M_sumUp_138 rfl ?_
                  refine lv_ladd S.1 S.2.1 d_M_sumUp_142 ?_
                  refine m_rstO (o := pr (sI σ) q) (v := (of (pr (sI σ) q)) + (((sI σ) 3 q).toInt64)) S hw hR (by omega) d_M_sumUp_143 (fun H locs N22 hR hw => ?_)
                  have hR : RQ γ _ N22 μ σ (ε.1, vp_updL wf (pr (sI σ) q) ((wf (pr (sI σ) q)) + 0), vp_updL of (pr (sI σ) q) ((of (pr (sI σ) q)) + (((sI σ) 3 q).toInt64)), ε.2.2.2.1, ε.2.2.2.2.1, ε.2.2.2.2.2) := hR
                  refine lv_iinc (k := 1) (v := nI (q + 1)) S.1 S.2.1 d_M_sumUp_144 hl rfl (nI_1 q) (by decide) rfl (fun ls hl => ?_)
                  have hl : lv_has ls 3 [(1, .int (nI (q + 1))), (2, .int (nI (pr (sI σ) q))), (0, .ref (rx μ))] := hl
                  refine lv_goto (tgt := 31) S.1 S.2.1 d_M_sumUp_147 rfl ?_
                  have hl := lv_sub hl [0, 2] rfl
                  refine ih (q + 1) _ _ N22 H locs ls (by omega) (fun j hj => ?_) hR hl hw
                  have a := hF j hj
                  have b := hF (pr (sI σ) q) (by omega)
                  rw [wS_s, oS_s]
                  constructor
                  · by_cases e : j = pr (sI σ) q
                    · rw [e, uL_s, b.1, if_neg (fun z => z.2.2 h91)]
                    · rw [uL_o e, a.1, if_neg (fun z => e z.1.symm), Int64.add_zero]
                  · by_cases e : j = pr (sI σ) q
                    · rw [e, uL_s, b.2, if_pos ⟨rfl, b2i_n0.mp h119, h128⟩]
                    · rw [uL_o e, a.2, if_neg (fun z => e z.1.symm), Int64.add_zero]
            · refine lv_aload_n S.1 S.2.1 d_M_sumUp_94 rfl (lv_at hl 2 rfl) ?_
              refine m_get S hw cl_M hR.obj 9 (by decide) g697 (fun _ h => h) rfl d_M_sumUp_95 ?_
              refine lv_iload_n S.1 S.2.1 d_M_sumUp_98 rfl (lv_at hl 1 rfl) ?_
              refine m_rld (o := q) S hw hR 3 (by decide) (by omega) d_M_sumUp_99 ?_
              refine lv_i2l S.1 S.2.1 d_M_sumUp_100 rfl ?_
              refine lv_goto (tgt := 105) S.1 S.2.1 d_M_sumUp_101 rfl ?_
              refine lv_ladd S.1 S.2.1 d_M_sumUp_105 ?_
              refine m_rstW (o := pr (sI σ) q) (v := (wf (pr (sI σ) q)) + (((sI σ) 3 q).toInt64)) S hw hR (by omega) d_M_sumUp_106 (fun H locs N23 hR hw => ?_)
              have hR : RQ γ _ N23 μ σ (ε.1, vp_updL wf (pr (sI σ) q) ((wf (pr (sI σ) q)) + (((sI σ) 3 q).toInt64)), of, ε.2.2.2.1, ε.2.2.2.2.1, ε.2.2.2.2.2) := hR
              refine lv_aload_n S.1 S.2.1 d_M_sumUp_107 rfl (lv_at hl 2 rfl) ?_
              refine m_get S hw cl_M hR.obj 22 (by decide) g710 (fun _ h => h) rfl d_M_sumUp_108 ?_
              refine lv_iload_n S.1 S.2.1 d_M_sumUp_111 rfl (lv_at hl 0 rfl) ?_
              refine lv_dup2_11 S.1 S.2.1 d_M_sumUp_112 rfl rfl ?_
              refine m_rldO (o := pr (sI σ) q) S hw hR (by omega) d_M_sumUp_113 ?_
              refine lv_aload_n S.1 S.2.1 d_M_sumUp_114 rfl (lv_at hl 2 rfl) ?_
              refine lv_iload_n S.1 S.2.1 d_M_sumUp_115 rfl (lv_at hl 1 rfl) ?_
              refine m_ci hw (va_runV (As := [.int (nI q)]) (rest := [.long (of (pr (sI σ) q)), .int (nI (pr (sI σ) q)), .ref (ra μ 14)]) S (c_M_rests l γ N23 μ σ (ε.1, vp_updL wf (pr (sI σ) q) ((wf (pr (sI σ) q)) + (((sI σ) 3 q).toInt64)), of, ε.2.2.2.1, ε.2.2.2.2.1, ε.2.2.2.2.2) hR.1 hn q hx) (m_cwV 1 S g793 g795 g26 g48 g796 rfl rfl ⟨by decide +kernel, by decide +kernel, by decide +kernel⟩ ⟨(Nat.le_of_ble_eq_true rfl), (Nat.le_of_ble_eq_true rfl)⟩) (hw.preV hR.obj cl_M.1) rfl rfl hl.1 rfl (lv_room (Nat.le_of_ble_eq_true rfl)) d_M_sumUp_116 ⟨(Nat.zero_le _), (Nat.zero_le _)⟩) (fun r1 M1 H locs hp hw => ?_)
              obtain ⟨rfl, hM1⟩ := hp
              rw [hM1] at hw
              refine lv_if_eq (tgt := 141) S.1 S.2.1 d_M_sumUp_119 rfl (fun h119 => ?_) (fun h119 => ?_)
              · refine lv_lconst (v := 0) S.1 S.2.1 d_M_sumUp_141 (by decide) ?_
                refine lv_ladd S.1 S.2.1 d_M_sumUp_142 ?_
                refine m_rstO (o := pr (sI σ) q) (v := (of (pr (sI σ) q)) + 0) S hw hR (by omega) d_M_sumUp_143 (fun H locs N24 hR hw => ?_)
                have hR : RQ γ _ N24 μ σ (ε.1, vp_updL wf (pr (sI σ) q) ((wf (pr (sI σ) q)) + (((sI σ) 3 q).toInt64)), vp_updL of (pr (sI σ) q) ((of (pr (sI σ) q)) + 0), ε.2.2.2.1, ε.2.2.2.2.1, ε.2.2.2.2.2) := hR
                refine lv_iinc (k := 1) (v := nI (q + 1)) S.1 S.2.1 d_M_sumUp_144 hl rfl (nI_1 q) (by decide) rfl (fun ls hl => ?_)
                have hl : lv_has ls 3 [(1, .int (nI (q + 1))), (2, .int (nI (pr (sI σ) q))), (0, .ref (rx μ))] := hl
                refine lv_goto (tgt := 31) S.1 S.2.1 d_M_sumUp_147 rfl ?_
                have hl := lv_sub hl [0, 2] rfl
                refine ih (q + 1) _ _ N24 H locs ls (by omega) (fun j hj => ?_) hR hl hw
                have a := hF j hj
                have b := hF (pr (sI σ) q) (by omega)
                rw [wS_s, oS_s]
                constructor
                · by_cases e : j = pr (sI σ) q
                  · rw [e, uL_s, b.1, if_pos ⟨rfl, b2i_n0.mp h82, h91⟩]
                  · rw [uL_o e, a.1, if_neg (fun z => e z.1.symm), Int64.add_zero]
                · by_cases e : j = pr (sI σ) q
                  · rw [e, uL_s, b.2, if_neg (fun z => by rw [b2i_0.mp h119] at z; cases z.2.1)]
                  · rw [uL_o e, a.2, if_neg (fun z => e z.1.symm), Int64.add_zero]
              · refine lv_aload_n S.1 S.2.1 d_M_sumUp_122 rfl (lv_at hl 2 rfl) ?_
                refine m_get S hw cl_M hR.obj 7 (by decide) g695 (fun _ h => h) rfl d_M_sumUp_123 ?_
                refine lv_iload_n S.1 S.2.1 d_M_sumUp_126 rfl (lv_at hl 1 rfl) ?_
                refine m_rldz (o := q) S hw hR (by omega) d_M_sumUp_127 ?_
                refine lv_if_ne (tgt := 141) S.1 S.2.1 d_M_sumUp_128 rfl (fun h128 => ?_) (fun h128 => ?_)
                · refine lv_lconst (v := 0) S.1 S.2.1 d_M_sumUp_141 (by decide) ?_
                  refine lv_ladd S.1 S.2.1 d_M_sumUp_142 ?_
                  refine m_rstO (o := pr (sI σ) q) (v := (of (pr (sI σ) q)) + 0) S hw hR (by omega) d_M_sumUp_143 (fun H locs N25 hR hw => ?_)
                  have hR : RQ γ _ N25 μ σ (ε.1, vp_updL wf (pr (sI σ) q) ((wf (pr (sI σ) q)) + (((sI σ) 3 q).toInt64)), vp_updL of (pr (sI σ) q) ((of (pr (sI σ) q)) + 0), ε.2.2.2.1, ε.2.2.2.2.1, ε.2.2.2.2.2) := hR
                  refine lv_iinc (k := 1) (v := nI (q + 1)) S.1 S.2.1 d_M_sumUp_144 hl rfl (nI_1 q) (by decide) rfl (fun ls hl => ?_)
                  have hl : lv_has ls 3 [(1, .int (nI (q + 1))), (2, .int (nI (pr (sI σ) q))), (0, .ref (rx μ))] := hl
                  refine lv_goto (tgt := 31) S.1 S.2.1 d_M_sumUp_147 rfl ?_
                  have hl := lv_sub hl [0, 2] rfl
                  refine ih (q + 1) _ _ N25 H locs ls (by omega) (fun j hj => ?_) hR hl hw
                  have a := hF j hj
                  have b := hF (pr (sI σ) q) (by omega)
                  rw [wS_s, oS_s]
                  constructor
                  · by_cases e : j = pr (sI σ) q
                    · rw [e, uL_s, b.1, if_pos ⟨rfl, b2i_n0.mp h82, h91⟩]
                    · rw [uL_o e, a.1, if_neg (fun z => e z.1.symm), Int64.add_zero]
                  · by_cases e : j = pr (sI σ) q
                    · rw [e, uL_s, b.2, if_neg (fun z => h128 z.2.2)]
                    · rw [uL_o e, a.2, if_neg (fun z => e z.1.symm), Int64.add_zero]
                · refine lv_aload_n S.1 S.2.1 d_M_sumUp_131 rfl (lv_at hl 2 rfl) ?_
                  refine m_get S hw cl_M hR.obj 9 (by decide) g697 (fun _ h => h) rfl d_M_sumUp_132 ?_
                  refine lv_iload_n S.1 S.2.1 d_M_sumUp_135 rfl (lv_at hl 1 rfl) ?_
                  refine m_rld (o := q) S hw hR 3 (by decide) (by omega) d_M_sumUp_136 ?_
                  refine lv_i2l S.1 S.2.1 d_M_sumUp_137 rfl ?_
                  refine lv_goto (tgt := 142) S.1 S.2.1 d_M_sumUp_138 rfl ?_
                  refine lv_ladd S.1 S.2.1 d_M_sumUp_142 ?_
                  refine m_rstO (o := pr (sI σ) q) (v := (of (pr (sI σ) q)) + (((sI σ) 3 q).toInt64)) S hw hR (by omega) d_M_sumUp_143 (fun H locs N26 hR hw => ?_)
                  have hR : RQ γ _ N26 μ σ (ε.1, vp_updL wf (pr (sI σ) q) ((wf (pr (sI σ) q)) + (((sI σ) 3 q).toInt64)), vp_updL of (pr (sI σ) q) ((of (pr (sI σ) q)) + (((sI σ) 3 q).toInt64)), ε.2.2.2.1, ε.2.2.2.2.1, ε.2.2.2.2.2) := hR
                  refine lv_iinc (k := 1) (v := nI (q + 1)) S.1 S.2.1 d_M_sumUp_144 hl rfl (nI_1 q) (by decide) rfl (fun ls hl => ?_)
                  have hl : lv_has ls 3 [(1, .int (nI (q + 1))), (2, .int (nI (pr (sI σ) q))), (0, .ref (rx μ))] := hl
                  refine lv_goto (tgt := 31) S.1 S.2.1 d_M_sumUp_147 rfl ?_
                  have hl := lv_sub hl [0, 2] rfl
                  refine ih (q + 1) _ _ N26 H locs ls (by omega) (fun j hj => ?_) hR hl hw
                  have a := hF j hj
                  have b := hF (pr (sI σ) q) (by omega)
                  rw [wS_s, oS_s]
                  constructor
                  · by_cases e : j = pr (sI σ) q
                    · rw [e, uL_s, b.1, if_pos ⟨rfl, b2i_n0.mp h82, h91⟩]
                    · rw [uL_o e, a.1, if_neg (fun z => e z.1.symm), Int64.add_zero]
                  · by_cases e : j = pr (sI σ) q
                    · rw [e, uL_s, b.2, if_pos ⟨rfl, b2i_n0.mp h119, h128⟩]
                    · rw [uL_o e, a.2, if_neg (fun z => e z.1.symm), Int64.add_zero]
        · refine lv_sipush (v := 2000) S.1 S.2.1 d_M_sumUp_57 (by decide) ?_
          refine lv_goto (tgt := 69) S.1 S.2.1 d_M_sumUp_60 rfl ?_
          refine W.eq (g2 := F0 m 69 ls [.int (nI (pr (sI σ) q))]) (congrArg (fun z => F0 m 69 ls [.int z]) (pr_m h45 h54)) ?_
          refine lv_istore_n S.1 S.2.1 d_M_sumUp_69 rfl hl (by decide) rfl (fun ls hl => ?_)
          have hl : lv_has ls 3 [(2, .int (nI (pr (sI σ) q))), (1, .int (nI q)), (0, .ref (rx μ))] := hl
          refine lv_aload_n S.1 S.2.1 d_M_sumUp_70 rfl (lv_at hl 2 rfl) ?_
          refine m_get S hw cl_M hR.obj 21 (by decide) g709 (fun _ h => h) rfl d_M_sumUp_71 ?_
          refine lv_iload_n S.1 S.2.1 d_M_sumUp_74 rfl (lv_at hl 0 rfl) ?_
          refine lv_dup2_11 S.1 S.2.1 d_M_sumUp_75 rfl rfl ?_
          refine m_rldW (o := pr (sI σ) q) S hw hR (by omega) d_M_sumUp_76 ?_
          refine lv_aload_n S.1 S.2.1 d_M_sumUp_77 rfl (lv_at hl 2 rfl) ?_
          refine lv_iload_n S.1 S.2.1 d_M_sumUp_78 rfl (lv_at hl 1 rfl) ?_
          refine m_ci hw (va_runV (As := [.int (nI q)]) (rest := [.long (wf (pr (sI σ) q)), .int (nI (pr (sI σ) q)), .ref (ra μ 13)]) S (c_M_rests l γ Mc μ σ (ε.1, wf, of, ε.2.2.2.1, ε.2.2.2.2.1, ε.2.2.2.2.2) hR.1 hn q hx) (m_cwV 1 S g793 g795 g26 g48 g796 rfl rfl ⟨by decide +kernel, by decide +kernel, by decide +kernel⟩ ⟨(Nat.le_of_ble_eq_true rfl), (Nat.le_of_ble_eq_true rfl)⟩) (hw.preV hR.obj cl_M.1) rfl rfl hl.1 rfl (lv_room (Nat.le_of_ble_eq_true rfl)) d_M_sumUp_79 ⟨(Nat.zero_le _), (Nat.zero_le _)⟩) (fun r1 M1 H locs hp hw => ?_)
          obtain ⟨rfl, hM1⟩ := hp
          rw [hM1] at hw
          refine lv_if_eq (tgt := 104) S.1 S.2.1 d_M_sumUp_82 rfl (fun h82 => ?_) (fun h82 => ?_)
          · refine lv_lconst (v := 0) S.1 S.2.1 d_M_sumUp_104 (by decide) ?_
            refine lv_ladd S.1 S.2.1 d_M_sumUp_105 ?_
            refine m_rstW (o := pr (sI σ) q) (v := (wf (pr (sI σ) q)) + 0) S hw hR (by omega) d_M_sumUp_106 (fun H locs N27 hR hw => ?_)
            have hR : RQ γ _ N27 μ σ (ε.1, vp_updL wf (pr (sI σ) q) ((wf (pr (sI σ) q)) + 0), of, ε.2.2.2.1, ε.2.2.2.2.1, ε.2.2.2.2.2) := hR
            refine lv_aload_n S.1 S.2.1 d_M_sumUp_107 rfl (lv_at hl 2 rfl) ?_
            refine m_get S hw cl_M hR.obj 22 (by decide) g710 (fun _ h => h) rfl d_M_sumUp_108 ?_
            refine lv_iload_n S.1 S.2.1 d_M_sumUp_111 rfl (lv_at hl 0 rfl) ?_
            refine lv_dup2_11 S.1 S.2.1 d_M_sumUp_112 rfl rfl ?_
            refine m_rldO (o := pr (sI σ) q) S hw hR (by omega) d_M_sumUp_113 ?_
            refine lv_aload_n S.1 S.2.1 d_M_sumUp_114 rfl (lv_at hl 2 rfl) ?_
            refine lv_iload_n S.1 S.2.1 d_M_sumUp_115 rfl (lv_at hl 1 rfl) ?_
            refine m_ci hw (va_runV (As := [.int (nI q)]) (rest := [.long (of (pr (sI σ) q)), .int (nI (pr (sI σ) q)), .ref (ra μ 14)]) S (c_M_rests l γ N27 μ σ (ε.1, vp_updL wf (pr (sI σ) q) ((wf (pr (sI σ) q)) + 0), of, ε.2.2.2.1, ε.2.2.2.2.1, ε.2.2.2.2.2) hR.1 hn q hx) (m_cwV 1 S g793 g795 g26 g48 g796 rfl rfl ⟨by decide +kernel, by decide +kernel, by decide +kernel⟩ ⟨(Nat.le_of_ble_eq_true rfl), (Nat.le_of_ble_eq_true rfl)⟩) (hw.preV hR.obj cl_M.1) rfl rfl hl.1 rfl (lv_room (Nat.le_of_ble_eq_true rfl)) d_M_sumUp_116 ⟨(Nat.zero_le _), (Nat.zero_le _)⟩) (fun r1 M1 H locs hp hw => ?_)
            obtain ⟨rfl, hM1⟩ := hp
            rw [hM1] at hw
            refine lv_if_eq (tgt := 141) S.1 S.2.1 d_M_sumUp_119 rfl (fun h119 => ?_) (fun h119 => ?_)
            · refine lv_lconst (v := 0) S.1 S.2.1 d_M_sumUp_141 (by decide) ?_
              refine lv_ladd S.1 S.2.1 d_M_sumUp_142 ?_
              refine m_rstO (o := pr (sI σ) q) (v := (of (pr (sI σ) q)) + 0) S hw hR (by omega) d_M_sumUp_143 (fun H locs N28 hR hw => ?_)
              have hR : RQ γ _ N28 μ σ (ε.1, vp_updL wf (pr (sI σ) q) ((wf (pr (sI σ) q)) + 0), vp_updL of (pr (sI σ) q) ((of (pr (sI σ) q)) + 0), ε.2.2.2.1, ε.2.2.2.2.1, ε.2.2.2.2.2) := hR
              refine lv_iinc (k := 1) (v := nI (q + 1)) S.1 S.2.1 d_M_sumUp_144 hl rfl (nI_1 q) (by decide) rfl (fun ls hl => ?_)
              have hl : lv_has ls 3 [(1, .int (nI (q + 1))), (2, .int (nI (pr (sI σ) q))), (0, .ref (rx μ))] := hl
              refine lv_goto (tgt := 31) S.1 S.2.1 d_M_sumUp_147 rfl ?_
              have hl := lv_sub hl [0, 2] rfl
              refine ih (q + 1) _ _ N28 H locs ls (by omega) (fun j hj => ?_) hR hl hw
              have a := hF j hj
              have b := hF (pr (sI σ) q) (by omega)
              rw [wS_s, oS_s]
              constructor
              · by_cases e : j = pr (sI σ) q
                · rw [e, uL_s, b.1, if_neg (fun z => by rw [b2i_0.mp h82] at z; cases z.2.1)]
                · rw [uL_o e, a.1, if_neg (fun z => e z.1.symm), Int64.add_zero]
              · by_cases e : j = pr (sI σ) q
                · rw [e, uL_s, b.2, if_neg (fun z => by rw [b2i_0.mp h119] at z; cases z.2.1)]
                · rw [uL_o e, a.2, if_neg (fun z => e z.1.symm), Int64.add_zero]
            · refine lv_aload_n S.1 S.2.1 d_M_sumUp_122 rfl (lv_at hl 2 rfl) ?_
              refine m_get S hw cl_M hR.obj 7 (by decide) g695 (fun _ h => h) rfl d_M_sumUp_123 ?_
              refine lv_iload_n S.1 S.2.1 d_M_sumUp_126 rfl (lv_at hl 1 rfl) ?_
              refine m_rldz (o := q) S hw hR (by omega) d_M_sumUp_127 ?_
              refine lv_if_ne (tgt := 141) S.1 S.2.1 d_M_sumUp_128 rfl (fun h128 => ?_) (fun h128 => ?_)
              · refine lv_lconst (v := 0) S.1 S.2.1 d_M_sumUp_141 (by decide) ?_
                refine lv_ladd S.1 S.2.1 d_M_sumUp_142 ?_
                refine m_rstO (o := pr (sI σ) q) (v := (of (pr (sI σ) q)) + 0) S hw hR (by omega) d_M_sumUp_143 (fun H locs N29 hR hw => ?_)
                have hR : RQ γ _ N29 μ σ (ε.1, vp_updL wf (pr (sI σ) q) ((wf (pr (sI σ) q)) + 0), vp_updL of (pr (sI σ) q) ((of (pr (sI σ) q)) + 0), ε.2.2.2.1, ε.2.2.2.2.1, ε.2.2.2.2.2) := hR
                refine lv_iinc (k := 1) (v := nI (q + 1)) S.1 S.2.1 d_M_sumUp_144 hl rfl (nI_1 q) (by decide) rfl (fun ls hl => ?_)
                have hl : lv_has ls 3 [(1, .int (nI (q + 1))), (2, .int (nI (pr (sI σ) q))), (0, .ref (rx μ))] := hl
                refine lv_goto (tgt := 31) S.1 S.2.1 d_M_sumUp_147 rfl ?_
                have hl := lv_sub hl [0, 2] rfl
                refine ih (q + 1) _ _ N29 H locs ls (by omega) (fun j hj => ?_) hR hl hw
                have a := hF j hj
                have b := hF (pr (sI σ) q) (by omega)
                rw [wS_s, oS_s]
                constructor
                · by_cases e : j = pr (sI σ) q
                  · rw [e, uL_s, b.1, if_neg (fun z => by rw [b2i_0.mp h82] at z; cases z.2.1)]
                  · rw [uL_o e, a.1, if_neg (fun z => e z.1.symm), Int64.add_zero]
                · by_cases e : j = pr (sI σ) q
                  · rw [e, uL_s, b.2, if_neg (fun z => h128 z.2.2)]
                  · rw [uL_o e, a.2, if_neg (fun z => e z.1.symm), Int64.add_zero]
              · refine lv_aload_n S.1 S.2.1 d_M_sumUp_131 rfl (lv_at hl 2 rfl) ?_
                refine m_get S hw cl_M hR.obj 9 (by decide) g697 (fun _ h => h) rfl d_M_sumUp_132 ?_
                refine lv_iload_n S.1 S.2.1 d_M_sumUp_135 rfl (lv_at hl 1 rfl) ?_
                refine m_rld (o := q) S hw hR 3 (by decide) (by omega) d_M_sumUp_136 ?_
                refine lv_i2l S.1 S.2.1 d_M_sumUp_137 rfl ?_
                refine lv_goto (tgt := 142) S.1 S.2.1 d_M_sumUp_138 rfl ?_
                refine lv_ladd S.1 S.2.1 d_M_sumUp_142 ?_
                refine m_rstO (o := pr (sI σ) q) (v := (of (pr (sI σ) q)) + (((sI σ) 3 q).toInt64)) S hw hR (by omega) d_M_sumUp_143 (fun H locs N30 hR hw => ?_)
                have hR : RQ γ _ N30 μ σ (ε.1, vp_updL wf (pr (sI σ) q) ((wf (pr (sI σ) q)) + 0), vp_updL of (pr (sI σ) q) ((of (pr (sI σ) q)) + (((sI σ) 3 q).toInt64)), ε.2.2.2.1, ε.2.2.2.2.1, ε.2.2.2.2.2) := hR
                refine lv_iinc (k := 1) (v := nI (q + 1)) S.1 S.2.1 d_M_sumUp_144 hl rfl (nI_1 q) (by decide) rfl (fun ls hl => ?_)
                have hl : lv_has ls 3 [(1, .int (nI (q + 1))), (2, .int (nI (pr (sI σ) q))), (0, .ref (rx μ))] := hl
                refine lv_goto (tgt := 31) S.1 S.2.1 d_M_sumUp_147 rfl ?_
                have hl := lv_sub hl [0, 2] rfl
                refine ih (q + 1) _ _ N30 H locs ls (by omega) (fun j hj => ?_) hR hl hw
                have a := hF j hj
                have b := hF (pr (sI σ) q) (by omega)
                rw [wS_s, oS_s]
                constructor
                · by_cases e : j = pr (sI σ) q
                  · rw [e, uL_s, b.1, if_neg (fun z => by rw [b2i_0.mp h82] at z; cases z.2.1)]
                  · rw [uL_o e, a.1, if_neg (fun z => e z.1.symm), Int64.add_zero]
                · by_cases e : j = pr (sI σ) q
                  · rw [e, uL_s, b.2, if_pos ⟨rfl, b2i_n0.mp h119, h128⟩]
                  · rw [uL_o e, a.2, if_neg (fun z => e z.1.symm), Int64.add_zero]
          · refine lv_aload_n S.1 S.2.1 d_M_sumUp_85 rfl (lv_at hl 2 rfl) ?_
            refine m_get S hw cl_M hR.obj 7 (by decide) g695 (fun _ h => h) rfl d_M_sumUp_86 ?_
            refine lv_iload_n S.1 S.2.1 d_M_sumUp_89 rfl (lv_at hl 1 rfl) ?_
            refine m_rldz (o := q) S hw hR (by omega) d_M_sumUp_90 ?_
            refine lv_if_eq (tgt := 104) S.1 S.2.1 d_M_sumUp_91 rfl (fun h91 => ?_) (fun h91 => ?_)
            · refine lv_lconst (v := 0) S.1 S.2.1 d_M_sumUp_104 (by decide) ?_
              refine lv_ladd S.1 S.2.1 d_M_sumUp_105 ?_
              refine m_rstW (o := pr (sI σ) q) (v := (wf (pr (sI σ) q)) + 0) S hw hR (by omega) d_M_sumUp_106 (fun H locs N31 hR hw => ?_)
              have hR : RQ γ _ N31 μ σ (ε.1, vp_updL wf (pr (sI σ) q) ((wf (pr (sI σ) q)) + 0), of, ε.2.2.2.1, ε.2.2.2.2.1, ε.2.2.2.2.2) := hR
              refine lv_aload_n S.1 S.2.1 d_M_sumUp_107 rfl (lv_at hl 2 rfl) ?_
              refine m_get S hw cl_M hR.obj 22 (by decide) g710 (fun _ h => h) rfl d_M_sumUp_108 ?_
              refine lv_iload_n S.1 S.2.1 d_M_sumUp_111 rfl (lv_at hl 0 rfl) ?_
              refine lv_dup2_11 S.1 S.2.1 d_M_sumUp_112 rfl rfl ?_
              refine m_rldO (o := pr (sI σ) q) S hw hR (by omega) d_M_sumUp_113 ?_
              refine lv_aload_n S.1 S.2.1 d_M_sumUp_114 rfl (lv_at hl 2 rfl) ?_
              refine lv_iload_n S.1 S.2.1 d_M_sumUp_115 rfl (lv_at hl 1 rfl) ?_
              refine m_ci hw (va_runV (As := [.int (nI q)]) (rest := [.long (of (pr (sI σ) q)), .int (nI (pr (sI σ) q)), .ref (ra μ 14)]) S (c_M_rests l γ N31 μ σ (ε.1, vp_updL wf (pr (sI σ) q) ((wf (pr (sI σ) q)) + 0), of, ε.2.2.2.1, ε.2.2.2.2.1, ε.2.2.2.2.2) hR.1 hn q hx) (m_cwV 1 S g793 g795 g26 g48 g796 rfl rfl ⟨by decide +kernel, by decide +kernel, by decide +kernel⟩ ⟨(Nat.le_of_ble_eq_true rfl), (Nat.le_of_ble_eq_true rfl)⟩) (hw.preV hR.obj cl_M.1) rfl rfl hl.1 rfl (lv_room (Nat.le_of_ble_eq_true rfl)) d_M_sumUp_116 ⟨(Nat.zero_le _), (Nat.zero_le _)⟩) (fun r1 M1 H locs hp hw => ?_)
              obtain ⟨rfl, hM1⟩ := hp
              rw [hM1] at hw
              refine lv_if_eq (tgt := 141) S.1 S.2.1 d_M_sumUp_119 rfl (fun h119 => ?_) (fun h119 => ?_)
              · refine lv_lconst (v := 0) S.1 S.2.1 d_M_sumUp_141 (by decide) ?_
                refine lv_ladd S.1 S.2.1 d_M_sumUp_142 ?_
                refine m_rstO (o := pr (sI σ) q) (v := (of (pr (sI σ) q)) + 0) S hw hR (by omega) d_M_sumUp_143 (fun H locs N32 hR hw => ?_)
                have hR : RQ γ _ N32 μ σ (ε.1, vp_updL wf (pr (sI σ) q) ((wf (pr (sI σ) q)) + 0), vp_updL of (pr (sI σ) q) ((of (pr (sI σ) q)) + 0), ε.2.2.2.1, ε.2.2.2.2.1, ε.2.2.2.2.2) := hR
                refine lv_iinc (k := 1) (v := nI (q + 1)) S.1 S.2.1 d_M_sumUp_144 hl rfl (nI_1 q) (by decide) rfl (fun ls hl => ?_)
                have hl : lv_has ls 3 [(1, .int (nI (q + 1))), (2, .int (nI (pr (sI σ) q))), (0, .ref (rx μ))] := hl
                refine lv_goto (tgt := 31) S.1 S.2.1 d_M_sumUp_147 rfl ?_
                have hl := lv_sub hl [0, 2] rfl
                refine ih (q + 1) _ _ N32 H locs ls (by omega) (fun j hj => ?_) hR hl hw
                have a := hF j hj
                have b := hF (pr (sI σ) q) (by omega)
                rw [wS_s, oS_s]
                constructor
                · by_cases e : j = pr (sI σ) q
                  · rw [e, uL_s, b.1, if_neg (fun z => z.2.2 h91)]
                  · rw [uL_o e, a.1, if_neg (fun z => e z.1.symm), Int64.add_zero]
                · by_cases e : j = pr (sI σ) q
                  · rw [e, uL_s, b.2, if_neg (fun z => by rw [b2i_0.mp h119] at z; cases z.2.1)]
                  · rw [uL_o e, a.2, if_neg (fun z => e z.1.symm), Int64.add_zero]
              · refine lv_aload_n S.1 S.2.1 d_M_sumUp_122 rfl (lv_at hl 2 rfl) ?_
                refine m_get S hw cl_M hR.obj 7 (by decide) g695 (fun _ h => h) rfl d_M_sumUp_123 ?_
                refine lv_iload_n S.1 S.2.1 d_M_sumUp_126 rfl (lv_at hl 1 rfl) ?_
                refine m_rldz (o := q) S hw hR (by omega) d_M_sumUp_127 ?_
                refine lv_if_ne (tgt := 141) S.1 S.2.1 d_M_sumUp_128 rfl (fun h128 => ?_) (fun h128 => ?_)
                · refine lv_lconst (v := 0) S.1 S.2.1 d_M_sumUp_141 (by decide) ?_
                  refine lv_ladd S.1 S.2.1 d_M_sumUp_142 ?_
                  refine m_rstO (o := pr (sI σ) q) (v := (of (pr (sI σ) q)) + 0) S hw hR (by omega) d_M_sumUp_143 (fun H locs N33 hR hw => ?_)
                  have hR : RQ γ _ N33 μ σ (ε.1, vp_updL wf (pr (sI σ) q) ((wf (pr (sI σ) q)) + 0), vp_updL of (pr (sI σ) q) ((of (pr (sI σ) q)) + 0), ε.2.2.2.1, ε.2.2.2.2.1, ε.2.2.2.2.2) := hR
                  refine lv_iinc (k := 1) (v := nI (q + 1)) S.1 S.2.1 d_M_sumUp_144 hl rfl (nI_1 q) (by decide) rfl (fun ls hl => ?_)
                  have hl : lv_has ls 3 [(1, .int (nI (q + 1))), (2, .int (nI (pr (sI σ) q))), (0, .ref (rx μ))] := hl
                  refine lv_goto (tgt := 31) S.1 S.2.1 d_M_sumUp_147 rfl ?_
                  have hl := lv_sub hl [0, 2] rfl
                  refine ih (q + 1) _ _ N33 H locs ls (by omega) (fun j hj => ?_) hR hl hw
                  have a := hF j hj
                  have b := hF (pr (sI σ) q) (by omega)
                  rw [wS_s, oS_s]
                  constructor
                  · by_cases e : j = pr (sI σ) q
                    · rw [e, uL_s, b.1, if_neg (fun z => z.2.2 h91)]
                    · rw [uL_o e, a.1, if_neg (fun z => e z.1.symm), Int64.add_zero]
                  · by_cases e : j = pr (sI σ) q
                    · rw [e, uL_s, b.2, if_neg (fun z => h128 z.2.2)]
                    · rw [uL_o e, a.2, if_neg (fun z => e z.1.symm), Int64.add_zero]
                · refine lv_aload_n S.1 S.2.1 d_M_sumUp_131 rfl (lv_at hl 2 rfl) ?_
                  refine m_get S hw cl_M hR.obj 9 (by decide) g697 (fun _ h => h) rfl d_M_sumUp_132 ?_
                  refine lv_iload_n S.1 S.2.1 d_M_sumUp_135 rfl (lv_at hl 1 rfl) ?_
                  refine m_rld (o := q) S hw hR 3 (by decide) (by omega) d_M_sumUp_136 ?_
                  refine lv_i2l S.1 S.2.1 d_M_sumUp_137 rfl ?_
                  refine lv_goto (tgt := 142) S.1 S.2.1 d_M_sumUp_138 rfl ?_
                  refine lv_ladd S.1 S.2.1 d_M_sumUp_142 ?_
                  refine m_rstO (o := pr (sI σ) q) (v := (of (pr (sI σ) q)) + (((sI σ) 3 q).toInt64)) S hw hR (by omega) d_M_sumUp_143 (fun H locs N34 hR hw => ?_)
                  have hR : RQ γ _ N34 μ σ (ε.1, vp_updL wf (pr (sI σ) q) ((wf (pr (sI σ) q)) + 0), vp_updL of (pr (sI σ) q) ((of (pr (sI σ) q)) + (((sI σ) 3 q).toInt64)), ε.2.2.2.1, ε.2.2.2.2.1, ε.2.2.2.2.2) := hR
                  refine lv_iinc (k := 1) (v := nI (q + 1)) S.1 S.2.1 d_M_sumUp_144 hl rfl (nI_1 q) (by decide) rfl (fun ls hl => ?_)
                  have hl : lv_has ls 3 [(1, .int (nI (q + 1))), (2, .int (nI (pr (sI σ) q))), (0, .ref (rx μ))] := hl
                  refine lv_goto (tgt := 31) S.1 S.2.1 d_M_sumUp_147 rfl ?_
                  have hl := lv_sub hl [0, 2] rfl
                  refine ih (q + 1) _ _ N34 H locs ls (by omega) (fun j hj => ?_) hR hl hw
                  have a := hF j hj
                  have b := hF (pr (sI σ) q) (by omega)
                  rw [wS_s, oS_s]
                  constructor
                  · by_cases e : j = pr (sI σ) q
                    · rw [e, uL_s, b.1, if_neg (fun z => z.2.2 h91)]
                    · rw [uL_o e, a.1, if_neg (fun z => e z.1.symm), Int64.add_zero]
                  · by_cases e : j = pr (sI σ) q
                    · rw [e, uL_s, b.2, if_pos ⟨rfl, b2i_n0.mp h119, h128⟩]
                    · rw [uL_o e, a.2, if_neg (fun z => e z.1.symm), Int64.add_zero]
            · refine lv_aload_n S.1 S.2.1 d_M_sumUp_94 rfl (lv_at hl 2 rfl) ?_
              refine m_get S hw cl_M hR.obj 9 (by decide) g697 (fun _ h => h) rfl d_M_sumUp_95 ?_
              refine lv_iload_n S.1 S.2.1 d_M_sumUp_98 rfl (lv_at hl 1 rfl) ?_
              refine m_rld (o := q) S hw hR 3 (by decide) (by omega) d_M_sumUp_99 ?_
              refine lv_i2l S.1 S.2.1 d_M_sumUp_100 rfl ?_
              refine lv_goto (tgt := 105) S.1 S.2.1 d_M_sumUp_101 rfl ?_
              refine lv_ladd S.1 S.2.1 d_M_sumUp_105 ?_
              refine m_rstW (o := pr (sI σ) q) (v := (wf (pr (sI σ) q)) + (((sI σ) 3 q).toInt64)) S hw hR (by omega) d_M_sumUp_106 (fun H locs N35 hR hw => ?_)
              have hR : RQ γ _ N35 μ σ (ε.1, vp_updL wf (pr (sI σ) q) ((wf (pr (sI σ) q)) + (((sI σ) 3 q).toInt64)), of, ε.2.2.2.1, ε.2.2.2.2.1, ε.2.2.2.2.2) := hR
              refine lv_aload_n S.1 S.2.1 d_M_sumUp_107 rfl (lv_at hl 2 rfl) ?_
              refine m_get S hw cl_M hR.obj 22 (by decide) g710 (fun _ h => h) rfl d_M_sumUp_108 ?_
              refine lv_iload_n S.1 S.2.1 d_M_sumUp_111 rfl (lv_at hl 0 rfl) ?_
              refine lv_dup2_11 S.1 S.2.1 d_M_sumUp_112 rfl rfl ?_
              refine m_rldO (o := pr (sI σ) q) S hw hR (by omega) d_M_sumUp_113 ?_
              refine lv_aload_n S.1 S.2.1 d_M_sumUp_114 rfl (lv_at hl 2 rfl) ?_
              refine lv_iload_n S.1 S.2.1 d_M_sumUp_115 rfl (lv_at hl 1 rfl) ?_
              refine m_ci hw (va_runV (As := [.int (nI q)]) (rest := [.long (of (pr (sI σ) q)), .int (nI (pr (sI σ) q)), .ref (ra μ 14)]) S (c_M_rests l γ N35 μ σ (ε.1, vp_updL wf (pr (sI σ) q) ((wf (pr (sI σ) q)) + (((sI σ) 3 q).toInt64)), of, ε.2.2.2.1, ε.2.2.2.2.1, ε.2.2.2.2.2) hR.1 hn q hx) (m_cwV 1 S g793 g795 g26 g48 g796 rfl rfl ⟨by decide +kernel, by decide +kernel, by decide +kernel⟩ ⟨(Nat.le_of_ble_eq_true rfl), (Nat.le_of_ble_eq_true rfl)⟩) (hw.preV hR.obj cl_M.1) rfl rfl hl.1 rfl (lv_room (Nat.le_of_ble_eq_true rfl)) d_M_sumUp_116 ⟨(Nat.zero_le _), (Nat.zero_le _)⟩) (fun r1 M1 H locs hp hw => ?_)
              obtain ⟨rfl, hM1⟩ := hp
              rw [hM1] at hw
              refine lv_if_eq (tgt := 141) S.1 S.2.1 d_M_sumUp_119 rfl (fun h119 => ?_) (fun h119 => ?_)
              · refine lv_lconst (v := 0) S.1 S.2.1 d_M_sumUp_141 (by decide) ?_
                refine lv_ladd S.1 S.2.1 d_M_sumUp_142 ?_
                refine m_rstO (o := pr (sI σ) q) (v := (of (pr (sI σ) q)) + 0) S hw hR (by omega) d_M_sumUp_143 (fun H locs N36 hR hw => ?_)
                have hR : RQ γ _ N36 μ σ (ε.1, vp_updL wf (pr (sI σ) q) ((wf (pr (sI σ) q)) + (((sI σ) 3 q).toInt64)), vp_updL of (pr (sI σ) q) ((of (pr (sI σ) q)) + 0), ε.2.2.2.1, ε.2.2.2.2.1, ε.2.2.2.2.2) := hR
                refine lv_iinc (k := 1) (v := nI (q + 1)) S.1 S.2.1 d_M_sumUp_144 hl rfl (nI_1 q) (by decide) rfl (fun ls hl => ?_)
                have hl : lv_has ls 3 [(1, .int (nI (q + 1))), (2, .int (nI (pr (sI σ) q))), (0, .ref (rx μ))] := hl
                refine lv_goto (tgt := 31) S.1 S.2.1 d_M_sumUp_147 rfl ?_
                have hl := lv_sub hl [0, 2] rfl
                refine ih (q + 1) _ _ N36 H locs ls (by omega) (fun j hj => ?_) hR hl hw
                have a := hF j hj
                have b := hF (pr (sI σ) q) (by omega)
                rw [wS_s, oS_s]
                constructor
                · by_cases e : j = pr (sI σ) q
                  · rw [e, uL_s, b.1, if_pos ⟨rfl, b2i_n0.mp h82, h91⟩]
                  · rw [uL_o e, a.1, if_neg (fun z => e z.1.symm), Int64.add_zero]
                · by_cases e : j = pr (sI σ) q
                  · rw [e, uL_s, b.2, if_neg (fun z => by rw [b2i_0.mp h119] at z; cases z.2.1)]
                  · rw [uL_o e, a.2, if_neg (fun z => e z.1.symm), Int64.add_zero]
              · refine lv_aload_n S.1 S.2.1 d_M_sumUp_122 rfl (lv_at hl 2 rfl) ?_
                refine m_get S hw cl_M hR.obj 7 (by decide) g695 (fun _ h => h) rfl d_M_sumUp_123 ?_
                refine lv_iload_n S.1 S.2.1 d_M_sumUp_126 rfl (lv_at hl 1 rfl) ?_
                refine m_rldz (o := q) S hw hR (by omega) d_M_sumUp_127 ?_
                refine lv_if_ne (tgt := 141) S.1 S.2.1 d_M_sumUp_128 rfl (fun h128 => ?_) (fun h128 => ?_)
                · refine lv_lconst (v := 0) S.1 S.2.1 d_M_sumUp_141 (by decide) ?_
                  refine lv_ladd S.1 S.2.1 d_M_sumUp_142 ?_
                  refine m_rstO (o := pr (sI σ) q) (v := (of (pr (sI σ) q)) + 0) S hw hR (by omega) d_M_sumUp_143 (fun H locs N37 hR hw => ?_)
                  have hR : RQ γ _ N37 μ σ (ε.1, vp_updL wf (pr (sI σ) q) ((wf (pr (sI σ) q)) + (((sI σ) 3 q).toInt64)), vp_updL of (pr (sI σ) q) ((of (pr (sI σ) q)) + 0), ε.2.2.2.1, ε.2.2.2.2.1, ε.2.2.2.2.2) := hR
                  refine lv_iinc (k := 1) (v := nI (q + 1)) S.1 S.2.1 d_M_sumUp_144 hl rfl (nI_1 q) (by decide) rfl (fun ls hl => ?_)
                  have hl : lv_has ls 3 [(1, .int (nI (q + 1))), (2, .int (nI (pr (sI σ) q))), (0, .ref (rx μ))] := hl
                  refine lv_goto (tgt := 31) S.1 S.2.1 d_M_sumUp_147 rfl ?_
                  have hl := lv_sub hl [0, 2] rfl
                  refine ih (q + 1) _ _ N37 H locs ls (by omega) (fun j hj => ?_) hR hl hw
                  have a := hF j hj
                  have b := hF (pr (sI σ) q) (by omega)
                  rw [wS_s, oS_s]
                  constructor
                  · by_cases e : j = pr (sI σ) q
                    · rw [e, uL_s, b.1, if_pos ⟨rfl, b2i_n0.mp h82, h91⟩]
                    · rw [uL_o e, a.1, if_neg (fun z => e z.1.symm), Int64.add_zero]
                  · by_cases e : j = pr (sI σ) q
                    · rw [e, uL_s, b.2, if_neg (fun z => h128 z.2.2)]
                    · rw [uL_o e, a.2, if_neg (fun z => e z.1.symm), Int64.add_zero]
                · refine lv_aload_n S.1 S.2.1 d_M_sumUp_131 rfl (lv_at hl 2 rfl) ?_
                  refine m_get S hw cl_M hR.obj 9 (by decide) g697 (fun _ h => h) rfl d_M_sumUp_132 ?_
                  refine lv_iload_n S.1 S.2.1 d_M_sumUp_135 rfl (lv_at hl 1 rfl) ?_
                  refine m_rld (o := q) S hw hR 3 (by decide) (by omega) d_M_sumUp_136 ?_
                  refine lv_i2l S.1 S.2.1 d_M_sumUp_137 rfl ?_
                  refine lv_goto (tgt := 142) S.1 S.2.1 d_M_sumUp_138 rfl ?_
                  refine lv_ladd S.1 S.2.1 d_M_sumUp_142 ?_
                  refine m_rstO (o := pr (sI σ) q) (v := (of (pr (sI σ) q)) + (((sI σ) 3 q).toInt64)) S hw hR (by omega) d_M_sumUp_143 (fun H locs N38 hR hw => ?_)
                  have hR : RQ γ _ N38 μ σ (ε.1, vp_updL wf (pr (sI σ) q) ((wf (pr (sI σ) q)) + (((sI σ) 3 q).toInt64)), vp_updL of (pr (sI σ) q) ((of (pr (sI σ) q)) + (((sI σ) 3 q).toInt64)), ε.2.2.2.1, ε.2.2.2.2.1, ε.2.2.2.2.2) := hR
                  refine lv_iinc (k := 1) (v := nI (q + 1)) S.1 S.2.1 d_M_sumUp_144 hl rfl (nI_1 q) (by decide) rfl (fun ls hl => ?_)
                  have hl : lv_has ls 3 [(1, .int (nI (q + 1))), (2, .int (nI (pr (sI σ) q))), (0, .ref (rx μ))] := hl
                  refine lv_goto (tgt := 31) S.1 S.2.1 d_M_sumUp_147 rfl ?_
                  have hl := lv_sub hl [0, 2] rfl
                  refine ih (q + 1) _ _ N38 H locs ls (by omega) (fun j hj => ?_) hR hl hw
                  have a := hF j hj
                  have b := hF (pr (sI σ) q) (by omega)
                  rw [wS_s, oS_s]
                  constructor
                  · by_cases e : j = pr (sI σ) q
                    · rw [e, uL_s, b.1, if_pos ⟨rfl, b2i_n0.mp h82, h91⟩]
                    · rw [uL_o e, a.1, if_neg (fun z => e z.1.symm), Int64.add_zero]
                  · by_cases e : j = pr (sI σ) q
                    · rw [e, uL_s, b.2, if_pos ⟨rfl, b2i_n0.mp h119, h128⟩]
                    · rw [uL_o e, a.2, if_neg (fun z => e z.1.symm), Int64.add_zero]
  have loop1 : ∀ (d q : Nat) (wf of : Nat → Int64) (Mc : mMap) (H : Heap) (locs : List Loc) (ls : Array Slot), q + d = 2002 → (∀ j, j < q → wf j = 0 ∧ of j = 0) → RQ γ M Mc μ σ (ε.1, wf, of, ε.2.2.2) → lv_has ls 3 [(1, .int (nI q)), (0, .ref (rx μ))] → mW γ Mc s H locs → W p l e ({ frames := 1, cells := 0, slots := 0, locals := 21 } : Room) s m #[.ref (rx μ)] below meth c H locs 0 0 (MQ below (mQv γ (fun M' => ∃ wf of : Nat → Int64, RQ γ M M' μ σ (ε.1, wf, of, ε.2.2.2) ∧ ∀ q, q ≤ 2000 → wf q = WT (sI σ) (sn σ) q ∧ of q = OT (sI σ) (sn σ) q)) #[.ref (rx μ)] s 0 0 (mA (gz γ))) (F0 m 2 ls []) := by
    intro d
    induction d with
    | zero =>
      intro q wf of Mc H locs ls hi hF hR hl hw
      refine lv_iload_n S.1 S.2.1 d_M_sumUp_2 rfl (lv_at hl 0 rfl) ?_
      refine lv_sipush (v := 2002) S.1 S.2.1 d_M_sumUp_3 (by decide) ?_
      refine lv_icmp_ge (tgt := 29) S.1 S.2.1 d_M_sumUp_6 rfl (fun _ => ?_) (fun h => absurd (show nI 2002 ≤ nI q from nI_le (by omega) (by omega)) h)
      refine lv_iconst (v := 0) S.1 S.2.1 d_M_sumUp_29 (by decide) ?_
      refine lv_istore_n S.1 S.2.1 d_M_sumUp_30 rfl hl (by decide) rfl (fun ls hl => ?_)
      have hl : lv_has ls 3 [(1, .int 0), (0, .ref (rx μ))] := hl
      have hl := lv_sub hl [0, 1] rfl
      exact loop2 (sn σ) 0 wf of Mc H locs ls (Nat.zero_add _) (fun j hj => hF j (by omega)) hR hl hw
    | succ d ih =>
      intro q wf of Mc H locs ls hi hF hR hl hw
      refine lv_iload_n S.1 S.2.1 d_M_sumUp_2 rfl (lv_at hl 0 rfl) ?_
      refine lv_sipush (v := 2002) S.1 S.2.1 d_M_sumUp_3 (by decide) ?_
      refine lv_icmp_ge (tgt := 29) S.1 S.2.1 d_M_sumUp_6 rfl (fun h => absurd h (show ¬ nI 2002 ≤ nI q from nI_ge (by omega) (by decide))) (fun _ => ?_)
      refine lv_aload_n S.1 S.2.1 d_M_sumUp_9 rfl (lv_at hl 1 rfl) ?_
      refine m_get S hw cl_M hR.obj 21 (by decide) g709 (fun _ h => h) rfl d_M_sumUp_10 ?_
      refine lv_iload_n S.1 S.2.1 d_M_sumUp_13 rfl (lv_at hl 0 rfl) ?_
      refine lv_lconst (v := 0) S.1 S.2.1 d_M_sumUp_14 (by decide) ?_
      refine m_rstW (o := q) (v := 0) S hw hR (by omega) d_M_sumUp_15 (fun H locs N39 hR hw => ?_)
      have hR : RQ γ _ N39 μ σ (ε.1, vp_updL wf q 0, of, ε.2.2.2.1, ε.2.2.2.2.1, ε.2.2.2.2.2) := hR
      refine lv_aload_n S.1 S.2.1 d_M_sumUp_16 rfl (lv_at hl 1 rfl) ?_
      refine m_get S hw cl_M hR.obj 22 (by decide) g710 (fun _ h => h) rfl d_M_sumUp_17 ?_
      refine lv_iload_n S.1 S.2.1 d_M_sumUp_20 rfl (lv_at hl 0 rfl) ?_
      refine lv_lconst (v := 0) S.1 S.2.1 d_M_sumUp_21 (by decide) ?_
      refine m_rstO (o := q) (v := 0) S hw hR (by omega) d_M_sumUp_22 (fun H locs N40 hR hw => ?_)
      have hR : RQ γ _ N40 μ σ (ε.1, vp_updL wf q 0, vp_updL of q 0, ε.2.2.2.1, ε.2.2.2.2.1, ε.2.2.2.2.2) := hR
      refine lv_iinc (k := 0) (v := nI (q + 1)) S.1 S.2.1 d_M_sumUp_23 hl rfl (nI_1 q) (by decide) rfl (fun ls hl => ?_)
      have hl : lv_has ls 3 [(1, .int (nI (q + 1))), (0, .ref (rx μ))] := hl
      refine lv_goto (tgt := 2) S.1 S.2.1 d_M_sumUp_26 rfl ?_
      refine ih (q + 1) _ _ N40 H locs ls (by omega) (fun j hj => ?_) hR hl hw
      by_cases e : j = q
      · subst e; exact ⟨uL_s, uL_s⟩
      · rw [uL_o e, uL_o e]; exact hF j (by omega)
  have hl := lv_sub hl [0, 1] rfl
  exact loop1 2002 0 ε.2.1 ε.2.2.1 _ _ _ ls rfl (fun j hj => absurd hj (Nat.not_lt_zero _)) hR hl hw
