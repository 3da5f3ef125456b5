/-! The reference made -/
def ε0 : RE := (0, fun _ => 0, fun _ => 0, (0, 0, 0))
def rA (ra : Nat → Nat) (j i : Nat) : Value := if i < j then .ref (ra i) else .null
def rini (ra : Nat → Nat) (j : Nat) : List Value := [.int 0, .int 0, .int 1000, .int 0, .int 0, .int 0, rA ra j 0, rA ra j 1, rA ra j 2, rA ra j 3, rA ra j 4, rA ra j 5, rA ra j 6, rA ra j 7, rA ra j 8, .int 0, rA ra j 9, rA ra j 10, rA ra j 11, rA ra j 12, .long 0, rA ra j 13, rA ra j 14, .int 0, .long 0, .long 0]
def MI (γ : mG) (M0 M : mMap) (a : Nat) (ra : Nat → Nat) (j : Nat) : Prop := M a = some (.inr (7, rini ra j)) ∧ (∀ i, i < j → M (ra i) = some (rcell γ σ0 ε0 i)) ∧ (∀ i k, i < j → k < j → ra i = ra k → i = k) ∧ ∀ q e, q ≠ a → M0 q = some e → M q = some e
theorem MI.step {γ : mG} {M0 M : mMap} {a j q : Nat} {ra : Nat → Nat} (h : MI γ M0 M a ra j) (hq : M q = none) {e : va_E} (he : e = rcell γ σ0 ε0 j) {fs : List Value} (hf : fs = rini (va_up ra j q) (j + 1)) : MI γ M0 (mU (mU M q e) a (.inr (7, fs))) a (va_up ra j q) (j + 1) := by
  obtain ⟨h1, h2, h3, h4⟩ := h
  subst he; subst hf
  have haq : a ≠ q := m_fne h1 hq
  have hv : ∀ i, i < j → va_up ra j q i = ra i := fun i hi => if_neg (by omega)
  have hvj : va_up ra j q j = q := if_pos rfl
  have hra : ∀ i, i < j → ra i ≠ q := fun i hi => m_fne (h2 i hi) hq
  refine ⟨mU_eq _ _ _, fun i hi => ?_, fun i k hi hk e => ?_, fun x ex hx hM => ?_⟩
  · by_cases e : i = j
    · subst e; rw [hvj]; exact mU_to haq.symm (mU_eq _ _ _)
    · rw [hv i (by omega)]
      exact mU_to (m_kind (h2 i (by omega)) h1 rcell_ne) (mU_to (hra i (by omega)) (h2 i (by omega)))
  · by_cases ei : i = j
    · by_cases ek : k = j
      · omega
      · subst ei; rw [hvj, hv k (by omega)] at e; exact absurd e.symm (hra k (by omega))
    · by_cases ek : k = j
      · subst ek; rw [hvj, hv i (by omega)] at e; exact absurd e (hra i (by omega))
      · rw [hv i (by omega), hv k (by omega)] at e; exact h3 i k (by omega) (by omega) e
  · have hMq := h4 x ex hx hM
    exact mU_to hx (mU_to (m_fne hMq hq) hMq)
theorem ini_i (N : Nat) : ∀ cA : ClassId, vp_cell cA (N, .inl (fun _ => 0)) = arrV cA N (fun _ => defaultValue (newarray.typeOf .int)) := fun _ => rfl
theorem ini_z (N : Nat) : ∀ cA : ClassId, vp_cell cA (N, .inl (fun _ => 0)) = arrV cA N (fun _ => defaultValue (newarray.typeOf .boolean)) := fun _ => rfl
theorem ini_l (N : Nat) : ∀ cA : ClassId, vp_cell cA (N, .inr (.inl (fun _ => 0))) = arrV cA N (fun _ => defaultValue (newarray.typeOf .long)) := fun _ => rfl
section RINI
variable {p : Program} {l : Launch} {e : Env} {R : Room} {s : State} {m : MethodId} {args : Array Value} {below : List Frame} {meth : Method} {c : Code} {H : Heap} {locs : List Loc} {cells slots : Nat} {Q : State → Prop}
variable {cc : ByteArray} {pc nL a j : Nat} {ls : Array Slot} {rest : List Value} {γ : mG} {M0 M : mMap} {c0 : Cond} {ra : Nat → Nat}
theorem m_rini (S : CallFix p m c cc nL s args (c0 :: GG) "CallBookModel") (hnm : meth.name = "<init>") (hw : mW γ M s H locs) (hM : MI γ M0 M a ra j) {atype : ArrayType} (harr : Cond.arrayClass (newarray.typeOf atype) ∈ GG) (t0 : Nat) {cT : ClassId} (ht : (mT γ)[t0]? = some (cT, newarray.typeOf atype)) {n : Int32} {N' : Nat} {a0 : vp_A} (ha : ∀ cA : ClassId, vp_cell cA a0 = arrV cA N' (fun _ => defaultValue (newarray.typeOf atype))) (hn : ¬ n < 0) (hN : n.toNatClampNeg = N') (hbytes : N' * componentBytes (newarray.typeOf atype) ≤ 536870912) (hcells : cells + 1 ≤ R.cells) (hslots : slots + N' ≤ R.slots)
    (hcell : (Sum.inl (cT, a0) : va_E) = rcell γ σ0 ε0 j) (k : Nat) (hk : k < 26) {index : Nat} (hl : Cond.fieldLink "CallBookModel" index (T_M k).1 (T_M k).2.1 (T_M k).2.2.1 ∈ GG) (hdc : (T_M k).1 = "CallBookModel") (hfin : (T_M k).2.2.2 = true) (hnr : ∀ q : Nat, narrow (t_M k) (.ref q) = .ref q) (hfit : ∀ q : Nat, fits (t_M k) (.ref q) = true) (hset : ∀ q, (rini ra j).set k (.ref q) = rini (va_up ra j q) (j + 1))
    (d1 : decode cc pc = .ok (.newarray atype, 2)) (d2 : decode cc (pc + 2) = .ok (.putfield index, 3))
    (kk : ∀ (H : Heap) (locs : List Loc) (M : mMap) (ra : Nat → Nat), MI γ M0 M a ra (j + 1) → mW γ M s H locs → W p l e R s m args below meth c H locs (cells + 1) (slots + N') Q (F0 m (pc + 5) ls rest)) : W p l e R s m args below meth c H locs cells slots Q (F0 m pc ls (.int n :: .ref a :: rest)) := by
  refine m_newa S hw harr t0 ht ha hn hN hbytes hcells hslots d1 (fun q H1 hq hz hw => ?_)
  have h1 := mU_to (m_fne hM.1 hq) (e := .inl (cT, a0)) hM.1
  exact m_putF S hw cl_M h1 k hk hl (fun _ h => h) hfin hnm hdc (hnr q) (hfit q) (by show k < 26; exact hk) d2 (fun H2 l2 hw => kk H2 l2 _ _ (hM.step hq hcell (hset q)) hw)
end RINI
set_option maxHeartbeats 4000000 in
set_option maxRecDepth 100000 in
theorem c_M_init (l : Launch) (γ : mG) (M : mMap) (a : Nat) (ha : M a = some (.inr (7, [.int 0, .int 0, .int 0, .int 0, .int 0, .int 0, .null, .null, .null, .null, .null, .null, .null, .null, .null, .int 0, .null, .null, .null, .null, .long 0, .null, .null, .int 0, .long 0, .long 0]))) : Met l y_M_init w_M_init ({ frames := 1, cells := 15, slots := 126254, locals := 20 } : Room) (mPc γ M [.ref a]) (mQv γ (fun M' => ∃ ra, RM γ M' (a, ra) σ0 ε0 ∧ ∀ q e, q ≠ a → M q = some e → M' q = some e)) 15 126254 (mA (gz γ)) := by
  refine m_enter (by decide) (Nat.le_of_ble_eq_true rfl) ?_
  intro p e s m below meth c ls S hr hlk hnm hl hw
  have hl : lv_has ls 1 [(0, .ref a)] := hl
  refine lv_aload_n S.1 S.2.1 d_M_init_0 rfl (lv_at hl 0 rfl) ?_
  refine W.objInit S.1 S.2.1 S.2.2.2.1 (S.2.2.2.2 _ (gc g687)) (S.2.2.2.2 _ (gc g68)) (S.2.2.2.2 _ (gc g69)) rfl (by rw [S.2.2.1]; exact hl.1) rfl d_M_init_1 (Nat.le_of_ble_eq_true rfl) (Nat.le_of_ble_eq_true rfl) ?_
  refine W.eq (g2 := F0 m 4 ls []) rfl ?_
  refine lv_aload_n S.1 S.2.1 d_M_init_4 rfl (lv_at hl 0 rfl) ?_
  refine lv_sipush (v := 1000) S.1 S.2.1 d_M_init_5 (by decide) ?_
  refine m_put S hw cl_M ha 2 (by decide) g690 (fun _ h => h) rfl rfl rfl (Nat.le_of_ble_eq_true rfl) d_M_init_8 (fun H locs hw => ?_)
  have hw : mW γ (mU M a (.inr (7, [.int 0, .int 0, .int 1000, .int 0, .int 0, .int 0, .null, .null, .null, .null, .null, .null, .null, .null, .null, .int 0, .null, .null, .null, .null, .long 0, .null, .null, .int 0, .long 0, .long 0]))) s H locs := hw
  have hM : MI γ M (mU M a (.inr (7, [.int 0, .int 0, .int 1000, .int 0, .int 0, .int 0, .null, .null, .null, .null, .null, .null, .null, .null, .null, .int 0, .null, .null, .null, .null, .long 0, .null, .null, .int 0, .long 0, .long 0]))) a (fun _ => 0) 0 := ⟨mU_eq _ _ _, fun i hi => absurd hi (Nat.not_lt_zero _), fun i k hi => absurd hi (Nat.not_lt_zero _), fun q e hq he => mU_to hq he⟩
  refine lv_aload_n S.1 S.2.1 d_M_init_11 rfl (lv_at hl 0 rfl) ?_
  refine lv_sipush (v := 250) S.1 S.2.1 d_M_init_12 (by decide) ?_
  refine m_rini (atype := .int) (a0 := (250, .inl (fun _ => 0))) (N' := 250) S hnm hw hM g767 0 rfl (ini_i 250) (by decide) (by decide) (by decide) (Nat.le_of_ble_eq_true rfl) (Nat.le_of_ble_eq_true rfl) rfl 6 (by decide) g694 rfl rfl (fun _ => rfl) (fun _ => rfl) (fun q => rfl) d_M_init_15 d_M_init_17 (fun H locs M0 ra hM hw => ?_)
  refine lv_aload_n S.1 S.2.1 d_M_init_20 rfl (lv_at hl 0 rfl) ?_
  refine lv_sipush (v := 250) S.1 S.2.1 d_M_init_21 (by decide) ?_
  refine m_rini (atype := .boolean) (a0 := (250, .inl (fun _ => 0))) (N' := 250) S hnm hw hM g768 1 rfl (ini_z 250) (by decide) (by decide) (by decide) (Nat.le_of_ble_eq_true rfl) (Nat.le_of_ble_eq_true rfl) rfl 7 (by decide) g695 rfl rfl (fun _ => rfl) (fun _ => rfl) (fun q => rfl) d_M_init_24 d_M_init_26 (fun H locs M1 ra hM hw => ?_)
  refine lv_aload_n S.1 S.2.1 d_M_init_29 rfl (lv_at hl 0 rfl) ?_
  refine lv_sipush (v := 250) S.1 S.2.1 d_M_init_30 (by decide) ?_
  refine m_rini (atype := .int) (a0 := (250, .inl (fun _ => 0))) (N' := 250) S hnm hw hM g767 0 rfl (ini_i 250) (by decide) (by decide) (by decide) (Nat.le_of_ble_eq_true rfl) (Nat.le_of_ble_eq_true rfl) rfl 8 (by decide) g696 rfl rfl (fun _ => rfl) (fun _ => rfl) (fun q => rfl) d_M_init_33 d_M_init_35 (fun H locs M2 ra hM hw => ?_)
  refine lv_aload_n S.1 S.2.1 d_M_init_38 rfl (lv_at hl 0 rfl) ?_
  refine lv_sipush (v := 250) S.1 S.2.1 d_M_init_39 (by decide) ?_
  refine m_rini (atype := .int) (a0 := (250, .inl (fun _ => 0))) (N' := 250) S hnm hw hM g767 0 rfl (ini_i 250) (by decide) (by decide) (by decide) (Nat.le_of_ble_eq_true rfl) (Nat.le_of_ble_eq_true rfl) rfl 9 (by decide) g697 rfl rfl (fun _ => rfl) (fun _ => rfl) (fun q => rfl) d_M_init_42 d_M_init_44 (fun H locs M3 ra hM hw => ?_)
  refine lv_aload_n S.1 S.2.1 d_M_init_47 rfl (lv_at hl 0 rfl) ?_
  refine lv_sipush (v := 250) S.1 S.2.1 d_M_init_48 (by decide) ?_
  refine m_rini (atype := .int) (a0 := (250, .inl (fun _ => 0))) (N' := 250) S hnm hw hM g767 0 rfl (ini_i 250) (by decide) (by decide) (by decide) (Nat.le_of_ble_eq_true rfl) (Nat.le_of_ble_eq_true rfl) rfl 10 (by decide) g698 rfl rfl (fun _ => rfl) (fun _ => rfl) (fun q => rfl) d_M_init_51 d_M_init_53 (fun H locs M4 ra hM hw => ?_)
  refine lv_aload_n S.1 S.2.1 d_M_init_56 rfl (lv_at hl 0 rfl) ?_
  refine lv_sipush (v := 250) S.1 S.2.1 d_M_init_57 (by decide) ?_
  refine m_rini (atype := .int) (a0 := (250, .inl (fun _ => 0))) (N' := 250) S hnm hw hM g767 0 rfl (ini_i 250) (by decide) (by decide) (by decide) (Nat.le_of_ble_eq_true rfl) (Nat.le_of_ble_eq_true rfl) rfl 11 (by decide) g699 rfl rfl (fun _ => rfl) (fun _ => rfl) (fun q => rfl) d_M_init_60 d_M_init_62 (fun H locs M5 ra hM hw => ?_)
  refine lv_aload_n S.1 S.2.1 d_M_init_65 rfl (lv_at hl 0 rfl) ?_
  refine lv_sipush (v := 250) S.1 S.2.1 d_M_init_66 (by decide) ?_
  refine m_rini (atype := .int) (a0 := (250, .inl (fun _ => 0))) (N' := 250) S hnm hw hM g767 0 rfl (ini_i 250) (by decide) (by decide) (by decide) (Nat.le_of_ble_eq_true rfl) (Nat.le_of_ble_eq_true rfl) rfl 12 (by decide) g700 rfl rfl (fun _ => rfl) (fun _ => rfl) (fun q => rfl) d_M_init_69 d_M_init_71 (fun H locs M6 ra hM hw => ?_)
  refine lv_aload_n S.1 S.2.1 d_M_init_74 rfl (lv_at hl 0 rfl) ?_
  refine lv_sipush (v := 250) S.1 S.2.1 d_M_init_75 (by decide) ?_
  refine m_rini (atype := .int) (a0 := (250, .inl (fun _ => 0))) (N' := 250) S hnm hw hM g767 0 rfl (ini_i 250) (by decide) (by decide) (by decide) (Nat.le_of_ble_eq_true rfl) (Nat.le_of_ble_eq_true rfl) rfl 13 (by decide) g701 rfl rfl (fun _ => rfl) (fun _ => rfl) (fun q => rfl) d_M_init_78 d_M_init_80 (fun H locs M7 ra hM hw => ?_)
  refine lv_aload_n S.1 S.2.1 d_M_init_83 rfl (lv_at hl 0 rfl) ?_
  refine lv_sipush (v := 250) S.1 S.2.1 d_M_init_84 (by decide) ?_
  refine m_rini (atype := .int) (a0 := (250, .inl (fun _ => 0))) (N' := 250) S hnm hw hM g767 0 rfl (ini_i 250) (by decide) (by decide) (by decide) (Nat.le_of_ble_eq_true rfl) (Nat.le_of_ble_eq_true rfl) rfl 14 (by decide) g702 rfl rfl (fun _ => rfl) (fun _ => rfl) (fun q => rfl) d_M_init_87 d_M_init_89 (fun H locs M8 ra hM hw => ?_)
  refine lv_aload_n S.1 S.2.1 d_M_init_92 rfl (lv_at hl 0 rfl) ?_
  refine lv_sipush (v := 30000) S.1 S.2.1 d_M_init_93 (by decide) ?_
  refine m_rini (atype := .int) (a0 := (30000, .inl (fun _ => 0))) (N' := 30000) S hnm hw hM g767 0 rfl (ini_i 30000) (by decide) (by decide) (by decide) (Nat.le_of_ble_eq_true rfl) (Nat.le_of_ble_eq_true rfl) rfl 16 (by decide) g704 rfl rfl (fun _ => rfl) (fun _ => rfl) (fun q => rfl) d_M_init_96 d_M_init_98 (fun H locs M9 ra hM hw => ?_)
  refine lv_aload_n S.1 S.2.1 d_M_init_101 rfl (lv_at hl 0 rfl) ?_
  refine lv_sipush (v := 30000) S.1 S.2.1 d_M_init_102 (by decide) ?_
  refine m_rini (atype := .int) (a0 := (30000, .inl (fun _ => 0))) (N' := 30000) S hnm hw hM g767 0 rfl (ini_i 30000) (by decide) (by decide) (by decide) (Nat.le_of_ble_eq_true rfl) (Nat.le_of_ble_eq_true rfl) rfl 17 (by decide) g705 rfl rfl (fun _ => rfl) (fun _ => rfl) (fun q => rfl) d_M_init_105 d_M_init_107 (fun H locs M10 ra hM hw => ?_)
  refine lv_aload_n S.1 S.2.1 d_M_init_110 rfl (lv_at hl 0 rfl) ?_
  refine lv_sipush (v := 30000) S.1 S.2.1 d_M_init_111 (by decide) ?_
  refine m_rini (atype := .int) (a0 := (30000, .inl (fun _ => 0))) (N' := 30000) S hnm hw hM g767 0 rfl (ini_i 30000) (by decide) (by decide) (by decide) (Nat.le_of_ble_eq_true rfl) (Nat.le_of_ble_eq_true rfl) rfl 18 (by decide) g706 rfl rfl (fun _ => rfl) (fun _ => rfl) (fun q => rfl) d_M_init_114 d_M_init_116 (fun H locs M11 ra hM hw => ?_)
  refine lv_aload_n S.1 S.2.1 d_M_init_119 rfl (lv_at hl 0 rfl) ?_
  refine lv_sipush (v := 30000) S.1 S.2.1 d_M_init_120 (by decide) ?_
  refine m_rini (atype := .int) (a0 := (30000, .inl (fun _ => 0))) (N' := 30000) S hnm hw hM g767 0 rfl (ini_i 30000) (by decide) (by decide) (by decide) (Nat.le_of_ble_eq_true rfl) (Nat.le_of_ble_eq_true rfl) rfl 19 (by decide) g707 rfl rfl (fun _ => rfl) (fun _ => rfl) (fun q => rfl) d_M_init_123 d_M_init_125 (fun H locs M12 ra hM hw => ?_)
  refine lv_aload_n S.1 S.2.1 d_M_init_128 rfl (lv_at hl 0 rfl) ?_
  refine lv_sipush (v := 2002) S.1 S.2.1 d_M_init_129 (by decide) ?_
  refine m_rini (atype := .long) (a0 := (2002, .inr (.inl (fun _ => 0)))) (N' := 2002) S hnm hw hM g769 2 rfl (ini_l 2002) (by decide) (by decide) (by decide) (Nat.le_of_ble_eq_true rfl) (Nat.le_of_ble_eq_true rfl) rfl 21 (by decide) g709 rfl rfl (fun _ => rfl) (fun _ => rfl) (fun q => rfl) d_M_init_132 d_M_init_134 (fun H locs M13 ra hM hw => ?_)
  refine lv_aload_n S.1 S.2.1 d_M_init_137 rfl (lv_at hl 0 rfl) ?_
  refine lv_sipush (v := 2002) S.1 S.2.1 d_M_init_138 (by decide) ?_
  refine m_rini (atype := .long) (a0 := (2002, .inr (.inl (fun _ => 0)))) (N' := 2002) S hnm hw hM g769 2 rfl (ini_l 2002) (by decide) (by decide) (by decide) (Nat.le_of_ble_eq_true rfl) (Nat.le_of_ble_eq_true rfl) rfl 22 (by decide) g710 rfl rfl (fun _ => rfl) (fun _ => rfl) (fun q => rfl) d_M_init_141 d_M_init_143 (fun H locs M14 ra hM hw => ?_)
  exact m_vret S hlk hr hw (⟨ra, ⟨hM.1, hM.2.1, fun i j hi hj => hM.2.2.1 i j hi hj⟩, hM.2.2.2⟩) (Nat.le_of_ble_eq_true rfl) (Nat.le_of_ble_eq_true rfl) d_M_init_146
