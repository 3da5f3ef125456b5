/-! The reference: its cells hold the numbers σ, and ε: its code, its two sums, its best -/
abbrev RK : Type := Nat × (Nat → Nat)
abbrev rx (μ : RK) : Nat := μ.1
abbrev ra (μ : RK) : Nat → Nat := μ.2
abbrev RE : Type := Int32 × (Nat → Int64) × (Nat → Int64) × AU
def rmc (μ : RK) (σ : St) (ε : RE) : List Value := [.int ε.1, .int (sph σ), .int (srf σ), .int (sbd σ), .int (srk σ), .int (nI (sn σ)), .ref (ra μ 0), .ref (ra μ 1), .ref (ra μ 2), .ref (ra μ 3), .ref (ra μ 4), .ref (ra μ 5), .ref (ra μ 6), .ref (ra μ 7), .ref (ra μ 8), .int (nI (stn σ)), .ref (ra μ 9), .ref (ra μ 10), .ref (ra μ 11), .ref (ra μ 12), .long (sal σ), .ref (ra μ 13), .ref (ra μ 14), .int ε.2.2.2.1, .long ε.2.2.2.2.1, .long ε.2.2.2.2.2]
def rcell (γ : mG) (σ : St) (ε : RE) (j : Nat) : va_E := if j < 9 then .inl (gA γ (if j = 1 then 1 else 0), 250, .inl (sI σ j)) else if j < 13 then .inl (gA γ 0, 30000, .inl (sT σ (j - 9))) else .inl (gA γ 2, 2002, .inr (.inl (if j = 13 then ε.2.1 else ε.2.2.1)))
def RM (γ : mG) (M : mMap) (μ : RK) (σ : St) (ε : RE) : Prop := M (rx μ) = some (.inr (7, rmc μ σ ε)) ∧ (∀ j, j < 15 → M (ra μ j) = some (rcell γ σ ε j)) ∧ ∀ i j, i < 15 → j < 15 → ra μ i = ra μ j → i = j
def frR (μ : RK) (M M' : mMap) : Prop := ∀ q, q ≠ rx μ → (∀ j, j < 15 → q ≠ ra μ j) → M' q = M q
theorem frR.rf {μ : RK} {M : mMap} : frR μ M M := fun _ _ _ => rfl
theorem frR.tr {μ : RK} {M M1 M2 : mMap} (h1 : frR μ M M1) (h2 : frR μ M1 M2) : frR μ M M2 := fun q a b => (h2 q a b).trans (h1 q a b)
def RQ (γ : mG) (M0 M : mMap) (μ : RK) (σ : St) (ε : RE) : Prop := RM γ M μ σ ε ∧ frR μ M0 M
theorem rcell_ne {γ : mG} {σ : St} {ε : RE} {j c : Nat} {fs : List Value} : rcell γ σ ε j ≠ .inr (c, fs) := by
  intro h
  unfold rcell at h
  split at h
  · cases h
  · split at h <;> cases h
section RMS
variable {γ : mG} {M0 M : mMap} {μ : RK} {σ σ' : St} {ε ε' : RE}
theorem RM.q (h : RM γ M μ σ ε) : RQ γ M M μ σ ε := ⟨h, frR.rf⟩
theorem RQ.obj (h : RQ γ M0 M μ σ ε) : M (rx μ) = some (.inr (7, rmc μ σ ε)) := h.1.1
theorem RQ.tr {M1 : mMap} (h : RQ γ M1 M μ σ' ε') (h0 : RQ γ M0 M1 μ σ ε) : RQ γ M0 M μ σ' ε' := ⟨h.1, h0.2.tr h.2⟩
theorem RQ.arr (h : RQ γ M0 M μ σ ε) {j : Nat} (hj : j < 15) {e : va_E} (he : e = rcell γ σ' ε' j) (ho : ∀ i, i < 15 → i ≠ j → rcell γ σ' ε' i = rcell γ σ ε i) (hb : rmc μ σ' ε' = rmc μ σ ε) : RQ γ M0 (mU M (ra μ j) e) μ σ' ε' := by
  obtain ⟨⟨h1, h2, h3⟩, h4⟩ := h
  subst he
  refine ⟨⟨?_, fun i hi => ?_, h3⟩, fun q a b => ?_⟩
  · rw [hb]; exact mU_to (m_kind h1 (h2 j hj) (Ne.symm rcell_ne)) h1
  · by_cases e : i = j
    · subst e; exact mU_eq _ _ _
    · rw [ho i hi e]; exact mU_to (fun z => e (h3 i j hi hj z)) (h2 i hi)
  · exact (mU_ne (b j hj)).trans (h4 q a b)
theorem RQ.put (h : RQ γ M0 M μ σ ε) {e : va_E} (he : e = .inr (7, rmc μ σ' ε')) (ho : ∀ i, i < 15 → rcell γ σ' ε' i = rcell γ σ ε i) : RQ γ M0 (mU M (rx μ) e) μ σ' ε' := by
  obtain ⟨⟨h1, h2, h3⟩, h4⟩ := h
  subst he
  refine ⟨⟨mU_eq _ _ _, fun i hi => ?_, h3⟩, fun q a b => ?_⟩
  · rw [ho i hi]; exact mU_to (m_kind (h2 i hi) h1 rcell_ne) (h2 i hi)
  · exact (mU_ne a).trans (h4 q a b)
theorem rcell_col {f : Nat} (hf : f < 9) : rcell γ σ ε f = .inl (gA γ (if f = 1 then 1 else 0), 250, .inl (sI σ f)) := if_pos hf
theorem RQ.col (h : RQ γ M0 M μ σ ε) {f : Nat} (hf : f < 9) (o : Nat) (v : Int32) {k : Nat} (hk : k = if f = 1 then 1 else 0) : RQ γ M0 (mU M (ra μ f) (.inl (gA γ k, 250, .inl (upd (sI σ f) o v)))) μ ((sn σ, s1 (sI σ) f o v), σ.2) ε := by
  refine h.arr (by omega) ?_ (fun i hi hne => ?_) rfl
  · rw [rcell_col hf, hk]; show _ = Sum.inl (_, _, Sum.inl (s1 (sI σ) f o v f)); rw [s1_c]
  · unfold rcell
    by_cases h9 : i < 9
    · rw [if_pos h9, if_pos h9]
      show Sum.inl (_, _, Sum.inl (s1 (sI σ) f o v i)) = _
      rw [s1_f hne]
    · rw [if_neg h9, if_neg h9]
theorem RQ.trd (h : RQ γ M0 M μ σ ε) {f : Nat} (hf : f < 4) (o : Nat) (v : Int32) : RQ γ M0 (mU M (ra μ (9 + f)) (.inl (gA γ 0, 30000, .inl (upd (sT σ f) o v)))) μ (σ.1, σ.2.1, stn σ, s1 (sT σ) f o v, sal σ) ε := by
  refine h.arr (by omega) ?_ (fun i hi hne => ?_) rfl
  · unfold rcell; rw [if_neg (by omega), if_pos (by omega), show 9 + f - 9 = f by omega]; show _ = Sum.inl (_, _, Sum.inl (s1 (sT σ) f o v f)); rw [s1_c]
  · unfold rcell
    by_cases h9 : i < 9
    · rw [if_pos h9, if_pos h9]
    · rw [if_neg h9, if_neg h9]
      by_cases h13 : i < 13
      · rw [if_pos h13, if_pos h13]
        show Sum.inl (_, _, Sum.inl (s1 (sT σ) f o v (i - 9))) = _
        rw [s1_f (by omega)]
      · rw [if_neg h13, if_neg h13]
theorem RQ.wan (h : RQ γ M0 M μ σ ε) {f : Nat → Int64} : RQ γ M0 (mU M (ra μ 13) (.inl (gA γ 2, 2002, .inr (.inl f)))) μ σ (ε.1, f, ε.2.2) := by
  refine h.arr (by omega) rfl (fun i hi hne => ?_) rfl
  unfold rcell
  by_cases h9 : i < 9
  · rw [if_pos h9, if_pos h9]
  · rw [if_neg h9, if_neg h9]
    by_cases h13 : i < 13
    · rw [if_pos h13, if_pos h13]
    · rw [if_neg h13, if_neg h13, if_neg hne, if_neg hne]
theorem RQ.off (h : RQ γ M0 M μ σ ε) {f : Nat → Int64} : RQ γ M0 (mU M (ra μ 14) (.inl (gA γ 2, 2002, .inr (.inl f)))) μ σ (ε.1, ε.2.1, f, ε.2.2.2) := by
  refine h.arr (by omega) rfl (fun i hi hne => ?_) rfl
  unfold rcell
  by_cases h9 : i < 9
  · rw [if_pos h9, if_pos h9]
  · rw [if_neg h9, if_neg h9]
    by_cases h13 : i < 13
    · rw [if_pos h13, if_pos h13]
    · rw [if_neg h13, if_neg h13]
      by_cases h3 : i = 13
      · rw [if_pos h3, if_pos h3]
      · exact absurd (show i = 14 by omega) hne
end RMS
section RROWS
variable {p : Program} {l : Launch} {e : Env} {R : Room} {s : State} {m : MethodId} {args : Array Value} {below : List Frame} {meth : Method} {c : Code} {H : Heap} {locs : List Loc} {cells slots : Nat} {Q : State → Prop}
variable {cc : ByteArray} {pc nL o : Nat} {ls : Array Slot} {rest : List Value} {γ : mG} {M0 M : mMap} {c0 : Cond} {own : String} {μ : RK} {σ : St} {ε : RE}
theorem m_rld (S : CallFix p m c cc nL s args (c0 :: GG) own) (hw : mW γ M s H locs) (hR : RQ γ M0 M μ σ ε) (f : Nat) (hf : f < 9 ∧ f ≠ 1) (ho : o < 250) (hdg : decode cc pc = .ok (.iaload, 1))
    (kk : W p l e R s m args below meth c H locs cells slots Q (F0 m (pc + 1) ls (.int (sI σ f o) :: rest))) : W p l e R s m args below meth c H locs cells slots Q (F0 m pc ls (.int (nI o) :: .ref (ra μ f) :: rest)) := by
  have h := hR.1.2.1 f (by omega)
  rw [rcell_col hf.1, if_neg hf.2] at h
  refine m_iald S hw h (vp_in_nI ho (by omega)) hdg ?_
  rw [nI_clamp (by omega)]
  exact kk
theorem m_rldz (S : CallFix p m c cc nL s args (c0 :: GG) own) (hw : mW γ M s H locs) (hR : RQ γ M0 M μ σ ε) (ho : o < 250) (hdg : decode cc pc = .ok (.baload, 1))
    (kk : W p l e R s m args below meth c H locs cells slots Q (F0 m (pc + 1) ls (.int (sI σ 1 o) :: rest))) : W p l e R s m args below meth c H locs cells slots Q (F0 m pc ls (.int (nI o) :: .ref (ra μ 1) :: rest)) := by
  have h := hR.1.2.1 1 (by omega)
  rw [rcell_col (by omega), if_pos rfl] at h
  refine m_zald S hw h (vp_in_nI ho (by omega)) hdg ?_
  rw [nI_clamp (by omega)]
  exact kk
theorem m_rldT (S : CallFix p m c cc nL s args (c0 :: GG) own) (hw : mW γ M s H locs) (hR : RQ γ M0 M μ σ ε) (f : Nat) (hf : f < 4) (ho : o < 30000) (hdg : decode cc pc = .ok (.iaload, 1))
    (kk : W p l e R s m args below meth c H locs cells slots Q (F0 m (pc + 1) ls (.int (sT σ f o) :: rest))) : W p l e R s m args below meth c H locs cells slots Q (F0 m pc ls (.int (nI o) :: .ref (ra μ (9 + f)) :: rest)) := by
  have h := hR.1.2.1 (9 + f) (by omega)
  unfold rcell at h
  rw [if_neg (by omega), if_pos (by omega), show 9 + f - 9 = f by omega] at h
  refine m_iald S hw h (vp_in_nI ho (by omega)) hdg ?_
  rw [nI_clamp (by omega)]
  exact kk
theorem m_rldW (S : CallFix p m c cc nL s args (c0 :: GG) own) (hw : mW γ M s H locs) (hR : RQ γ M0 M μ σ ε) (ho : o < 2002) (hdg : decode cc pc = .ok (.laload, 1))
    (kk : W p l e R s m args below meth c H locs cells slots Q (F0 m (pc + 1) ls (.long (ε.2.1 o) :: rest))) : W p l e R s m args below meth c H locs cells slots Q (F0 m pc ls (.int (nI o) :: .ref (ra μ 13) :: rest)) := by
  refine m_lald (f := ε.2.1) S hw (hR.1.2.1 13 (by omega)) (vp_in_nI ho (by omega)) hdg ?_
  rw [nI_clamp (by omega)]
  exact kk
theorem m_rldO (S : CallFix p m c cc nL s args (c0 :: GG) own) (hw : mW γ M s H locs) (hR : RQ γ M0 M μ σ ε) (ho : o < 2002) (hdg : decode cc pc = .ok (.laload, 1))
    (kk : W p l e R s m args below meth c H locs cells slots Q (F0 m (pc + 1) ls (.long (ε.2.2.1 o) :: rest))) : W p l e R s m args below meth c H locs cells slots Q (F0 m pc ls (.int (nI o) :: .ref (ra μ 14) :: rest)) := by
  refine m_lald (f := ε.2.2.1) S hw (hR.1.2.1 14 (by omega)) (vp_in_nI ho (by omega)) hdg ?_
  rw [nI_clamp (by omega)]
  exact kk
theorem m_rst {v : Int32} (S : CallFix p m c cc nL s args (c0 :: GG) own) (hw : mW γ M s H locs) (hR : RQ γ M0 M μ σ ε) (f : Nat) (hf : f < 9 ∧ f ≠ 1) (ho : o < 250) (hdg : decode cc pc = .ok (.iastore, 1))
    (kk : ∀ (H : Heap) (locs : List Loc) (M : mMap), RQ γ M0 M μ ((sn σ, s1 (sI σ) f o v), σ.2) ε → mW γ M s H locs → W p l e R s m args below meth c H locs cells slots Q (F0 m (pc + 1) ls rest)) : W p l e R s m args below meth c H locs cells slots Q (F0 m pc ls (.int v :: .int (nI o) :: .ref (ra μ f) :: rest)) := by
  have h := hR.1.2.1 f (by omega)
  rw [rcell_col hf.1, if_neg hf.2] at h
  refine m_iast S hw h (vp_in_nI ho (by omega)) hdg (fun H1 l1 hw1 => ?_)
  rw [nI_clamp (by omega)] at hw1
  exact kk H1 l1 _ (hR.col hf.1 o v (if_neg hf.2).symm) hw1
theorem m_rstz {v : Int32} (S : CallFix p m c cc nL s args (c0 :: GG) own) (hw : mW γ M s H locs) (hR : RQ γ M0 M μ σ ε) (hv : v = 0 ∨ v = 1) (ho : o < 250) (hdg : decode cc pc = .ok (.bastore, 1))
    (kk : ∀ (H : Heap) (locs : List Loc) (M : mMap), RQ γ M0 M μ ((sn σ, s1 (sI σ) 1 o v), σ.2) ε → mW γ M s H locs → W p l e R s m args below meth c H locs cells slots Q (F0 m (pc + 1) ls rest)) : W p l e R s m args below meth c H locs cells slots Q (F0 m pc ls (.int v :: .int (nI o) :: .ref (ra μ 1) :: rest)) := by
  have h := hR.1.2.1 1 (by omega)
  rw [rcell_col (by omega), if_pos rfl] at h
  refine m_zast S hw h (vp_in_nI ho (by omega)) hdg (fun H1 l1 hw1 => ?_)
  rw [nI_clamp (by omega), show vp_nar .boolean v = v by rcases hv with e | e <;> subst e <;> rfl] at hw1
  exact kk H1 l1 _ (hR.col (f := 1) (by omega) o v rfl) hw1
theorem m_rstT {v : Int32} (S : CallFix p m c cc nL s args (c0 :: GG) own) (hw : mW γ M s H locs) (hR : RQ γ M0 M μ σ ε) (f : Nat) (hf : f < 4) (ho : o < 30000) (hdg : decode cc pc = .ok (.iastore, 1))
    (kk : ∀ (H : Heap) (locs : List Loc) (M : mMap), RQ γ M0 M μ (σ.1, σ.2.1, stn σ, s1 (sT σ) f o v, sal σ) ε → mW γ M s H locs → W p l e R s m args below meth c H locs cells slots Q (F0 m (pc + 1) ls rest)) : W p l e R s m args below meth c H locs cells slots Q (F0 m pc ls (.int v :: .int (nI o) :: .ref (ra μ (9 + f)) :: rest)) := by
  have h := hR.1.2.1 (9 + f) (by omega)
  unfold rcell at h
  rw [if_neg (by omega), if_pos (by omega), show 9 + f - 9 = f by omega] at h
  refine m_iast S hw h (vp_in_nI ho (by omega)) hdg (fun H1 l1 hw1 => ?_)
  rw [nI_clamp (by omega)] at hw1
  exact kk H1 l1 _ (hR.trd hf o v) hw1
theorem m_rstW {v : Int64} (S : CallFix p m c cc nL s args (c0 :: GG) own) (hw : mW γ M s H locs) (hR : RQ γ M0 M μ σ ε) (ho : o < 2002) (hdg : decode cc pc = .ok (.lastore, 1))
    (kk : ∀ (H : Heap) (locs : List Loc) (M : mMap), RQ γ M0 M μ σ (ε.1, vp_updL ε.2.1 o v, ε.2.2) → mW γ M s H locs → W p l e R s m args below meth c H locs cells slots Q (F0 m (pc + 1) ls rest)) : W p l e R s m args below meth c H locs cells slots Q (F0 m pc ls (.long v :: .int (nI o) :: .ref (ra μ 13) :: rest)) := by
  refine m_last (f := ε.2.1) S hw (hR.1.2.1 13 (by omega)) (vp_in_nI ho (by omega)) hdg (fun H1 l1 hw1 => ?_)
  rw [nI_clamp (by omega)] at hw1
  exact kk H1 l1 _ hR.wan hw1
theorem m_rstO {v : Int64} (S : CallFix p m c cc nL s args (c0 :: GG) own) (hw : mW γ M s H locs) (hR : RQ γ M0 M μ σ ε) (ho : o < 2002) (hdg : decode cc pc = .ok (.lastore, 1))
    (kk : ∀ (H : Heap) (locs : List Loc) (M : mMap), RQ γ M0 M μ σ (ε.1, ε.2.1, vp_updL ε.2.2.1 o v, ε.2.2.2) → mW γ M s H locs → W p l e R s m args below meth c H locs cells slots Q (F0 m (pc + 1) ls rest)) : W p l e R s m args below meth c H locs cells slots Q (F0 m pc ls (.long v :: .int (nI o) :: .ref (ra μ 14) :: rest)) := by
  refine m_last (f := ε.2.2.1) S hw (hR.1.2.1 14 (by omega)) (vp_in_nI ho (by omega)) hdg (fun H1 l1 hw1 => ?_)
  rw [nI_clamp (by omega)] at hw1
  exact kk H1 l1 _ hR.off hw1
end RROWS
