/-! The law's cases: place, amend; nothing called -/
theorem place_in {w p q k f : Int32} (h : (rg 0 9 w && rg 0 2000 p && rg 1 100000 q && rg 0 100000 k && fpk q k && rg 0 2 f && (decide (k = 0) || decide (f = 0))) = true) : rg 0 9 w = true ∧ rg 0 2000 p = true ∧ rg 1 100000 q = true ∧ rg 0 100000 k = true ∧ fpk q k = true ∧ rg 0 2 f = true ∧ (k = 0 ∨ f = 0) := by
  simp only [Bool.and_eq_true, Bool.or_eq_true, decide_eq_true_eq] at h
  obtain ⟨⟨⟨⟨⟨⟨h1, h2⟩, h3⟩, h4⟩, h5⟩, h6⟩, h7⟩ := h
  exact ⟨h1, h2, h3, h4, h5, h6, h7⟩
theorem amend_in {p q k : Int32} (h : (rg 0 2000 p && rg 1 100000 q && fpk q k) = true) : rg 0 2000 p = true ∧ rg 1 100000 q = true ∧ fpk q k = true := by
  simp only [Bool.and_eq_true] at h
  exact ⟨h.1.1, h.1.2, h.2⟩
set_option maxHeartbeats 4000000 in
set_option maxRecDepth 100000 in
theorem k_place {γ : mG} {p : Program} {l : Launch} {e : Env} {s : State} {m : MethodId} {below : List Frame} {meth : Method} {c : Code} {b n : Nat} {xs : Nat → Int32} {β : BK} {μ : RK} {a k t : Nat} {M : mMap} {H : Heap} {locs : List Loc} {ls : Array Slot} {cells slots : Nat} (hlT : xTr l) (C : LX γ p s m c b n xs) (hk : 7 * k + 7 ≤ n) (hLS : LSt γ M β μ a k t) (hc : cells ≤ 100 + kC t + 3 * k) (hs : slots ≤ 127000 + kS t + 756 * k) (hl : lv_has ls 8 [(4, .int (nI (7 * k))), (3, .ref a), (2, .ref (rx μ)), (1, .ref (bx β)), (0, .ref b)]) (hw : mW γ M s H locs) (kk : Kon γ p l e s m below meth c b β μ a k) : W p l e room_1 s m #[.ref b] below meth c H locs cells slots (lw_Z below #[.ref b] s) (F0 m 112 ls []) := by
  obtain ⟨S, hx, hX, hbz, hnn⟩ := C
  obtain ⟨oa, cp, L, σ, ε, f, hC, hR, ha, hI, hL, hcp, hcpl, rfl⟩ := hLS
  have hk1 : k + 1 ≤ 512 := by omega
  obtain ⟨hT0, hrk0⟩ := hI.t (by omega)
  have hI0 := hI.1
  have hn := hI0.1
  have hO := hI0.2.1
  by_cases hz : (xs (7 * k + 2)) = 0
  · by_cases hv : (rg 0 9 (xs (7 * k + 1)) && rg 0 2000 (xs (7 * k + 3)) && rg 1 100000 (xs (7 * k + 4)) && rg 0 100000 (xs (7 * k + 5)) && fpk (xs (7 * k + 4)) (xs (7 * k + 5)) && rg 0 2 (xs (7 * k + 6)) && (decide ((xs (7 * k + 5)) = 0) || decide ((xs (7 * k + 6)) = 0))) = false
    · have hrm := room_ok (k := k + 1) (c := cells + 1) (s := slots + 6) hT0 (by omega) (by omega) (by omega)
      refine lv_aload_n S.1 S.2.1 d_L_law_112 rfl (lv_at hl 3 rfl) ?_
      refine lv_aload_n S.1 S.2.1 d_L_law_113 rfl (lv_at hl 4 rfl) ?_
      refine lv_iload S.1 S.2.1 d_L_law_114 (lv_at hl 0 rfl) ?_
      refine lv_iconst (v := 1) S.1 S.2.1 d_L_law_116 (by decide) ?_
      refine lv_iadd S.1 S.2.1 d_L_law_117 ?_
      refine m_scr (j := 7 * k + 1) S hX hbz hnn hw (nI_p (a := 7 * k) (b := 1)) (by omega) d_L_law_118 ?_
      refine lv_aload_n S.1 S.2.1 d_L_law_119 rfl (lv_at hl 4 rfl) ?_
      refine lv_iload S.1 S.2.1 d_L_law_120 (lv_at hl 0 rfl) ?_
      refine lv_iconst (v := 2) S.1 S.2.1 d_L_law_122 (by decide) ?_
      refine lv_iadd S.1 S.2.1 d_L_law_123 ?_
      refine m_scr (j := 7 * k + 2) S hX hbz hnn hw (nI_p (a := 7 * k) (b := 2)) (by omega) d_L_law_124 ?_
      refine lv_if_eq (tgt := 132) S.1 S.2.1 d_L_law_125 rfl (fun _ => ?_) (fun h => absurd hz h)
      refine lv_iconst (v := 0) S.1 S.2.1 d_L_law_132 (by decide) ?_
      refine lv_aload_n S.1 S.2.1 d_L_law_133 rfl (lv_at hl 4 rfl) ?_
      refine lv_iload S.1 S.2.1 d_L_law_134 (lv_at hl 0 rfl) ?_
      refine lv_iconst (v := 3) S.1 S.2.1 d_L_law_136 (by decide) ?_
      refine lv_iadd S.1 S.2.1 d_L_law_137 ?_
      refine m_scr (j := 7 * k + 3) S hX hbz hnn hw (nI_p (a := 7 * k) (b := 3)) (by omega) d_L_law_138 ?_
      refine lv_aload_n S.1 S.2.1 d_L_law_139 rfl (lv_at hl 4 rfl) ?_
      refine lv_iload S.1 S.2.1 d_L_law_140 (lv_at hl 0 rfl) ?_
      refine lv_iconst (v := 4) S.1 S.2.1 d_L_law_142 (by decide) ?_
      refine lv_iadd S.1 S.2.1 d_L_law_143 ?_
      refine m_scr (j := 7 * k + 4) S hX hbz hnn hw (nI_p (a := 7 * k) (b := 4)) (by omega) d_L_law_144 ?_
      refine lv_aload_n S.1 S.2.1 d_L_law_145 rfl (lv_at hl 4 rfl) ?_
      refine lv_iload S.1 S.2.1 d_L_law_146 (lv_at hl 0 rfl) ?_
      refine lv_iconst (v := 5) S.1 S.2.1 d_L_law_148 (by decide) ?_
      refine lv_iadd S.1 S.2.1 d_L_law_149 ?_
      refine m_scr (j := 7 * k + 5) S hX hbz hnn hw (nI_p (a := 7 * k) (b := 5)) (by omega) d_L_law_150 ?_
      refine lv_aload_n S.1 S.2.1 d_L_law_151 rfl (lv_at hl 4 rfl) ?_
      refine lv_iload S.1 S.2.1 d_L_law_152 (lv_at hl 0 rfl) ?_
      refine lv_bipush (v := 6) S.1 S.2.1 d_L_law_154 (by decide) ?_
      refine lv_iadd S.1 S.2.1 d_L_law_156 ?_
      refine m_scr (j := 7 * k + 6) S hX hbz hnn hw (nI_p (a := 7 * k) (b := 6)) (by omega) d_L_law_157 ?_
      refine lv_aload_n S.1 S.2.1 d_L_law_158 rfl (lv_at hl 1 rfl) ?_
      refine m_ci hw (m_runSW (n := 8) (As := [.ref (bx β), .int (xs (7 * k + 1)), .int 0, .int (xs (7 * k + 3)), .int (xs (7 * k + 4)), .int (xs (7 * k + 5)), .int (xs (7 * k + 6)), .ref a]) (rest := []) S (h_placeA l hlT γ M β oa cp L σ hC a (xs (7 * k + 1)) 0 (xs (7 * k + 3)) (xs (7 * k + 4)) (xs (7 * k + 5)) (xs (7 * k + 6)) hv) g274 g275 g40 g276 rfl rfl ⟨by decide +kernel, by decide +kernel, by decide +kernel⟩ ⟨(Nat.le_of_ble_eq_true rfl), (Nat.le_of_ble_eq_true rfl)⟩ (hw.preXS hx) rfl hl.1 (lv_room (Nat.le_of_ble_eq_true rfl)) d_L_law_159 ⟨hrm.1, hrm.2⟩ rfl) (fun r1 M1 H locs hp hw => ?_)
      obtain ⟨rfl, hM1⟩ := hp
      rw [hM1] at hw
      refine lv_istore S.1 S.2.1 d_L_law_162 hl (by decide) rfl (fun ls hl => ?_)
      have hl : lv_has ls 8 [(5, .int 1), (4, .int (nI (7 * k))), (3, .ref a), (2, .ref (rx μ)), (1, .ref (bx β)), (0, .ref b)] := hl
      refine lv_aload_n S.1 S.2.1 d_L_law_164 rfl (lv_at hl 3 rfl) ?_
      refine lv_aload_n S.1 S.2.1 d_L_law_165 rfl (lv_at hl 5 rfl) ?_
      refine lv_iload S.1 S.2.1 d_L_law_166 (lv_at hl 1 rfl) ?_
      refine lv_iconst (v := 1) S.1 S.2.1 d_L_law_168 (by decide) ?_
      refine lv_iadd S.1 S.2.1 d_L_law_169 ?_
      refine m_scr (j := 7 * k + 1) S hX hbz hnn hw (nI_p (a := 7 * k) (b := 1)) (by omega) d_L_law_170 ?_
      refine lv_aload_n S.1 S.2.1 d_L_law_171 rfl (lv_at hl 5 rfl) ?_
      refine lv_iload S.1 S.2.1 d_L_law_172 (lv_at hl 1 rfl) ?_
      refine lv_iconst (v := 2) S.1 S.2.1 d_L_law_174 (by decide) ?_
      refine lv_iadd S.1 S.2.1 d_L_law_175 ?_
      refine m_scr (j := 7 * k + 2) S hX hbz hnn hw (nI_p (a := 7 * k) (b := 2)) (by omega) d_L_law_176 ?_
      refine lv_if_eq (tgt := 184) S.1 S.2.1 d_L_law_177 rfl (fun _ => ?_) (fun h => absurd hz h)
      refine lv_iconst (v := 0) S.1 S.2.1 d_L_law_184 (by decide) ?_
      refine lv_aload_n S.1 S.2.1 d_L_law_185 rfl (lv_at hl 5 rfl) ?_
      refine lv_iload S.1 S.2.1 d_L_law_186 (lv_at hl 1 rfl) ?_
      refine lv_iconst (v := 3) S.1 S.2.1 d_L_law_188 (by decide) ?_
      refine lv_iadd S.1 S.2.1 d_L_law_189 ?_
      refine m_scr (j := 7 * k + 3) S hX hbz hnn hw (nI_p (a := 7 * k) (b := 3)) (by omega) d_L_law_190 ?_
      refine lv_aload_n S.1 S.2.1 d_L_law_191 rfl (lv_at hl 5 rfl) ?_
      refine lv_iload S.1 S.2.1 d_L_law_192 (lv_at hl 1 rfl) ?_
      refine lv_iconst (v := 4) S.1 S.2.1 d_L_law_194 (by decide) ?_
      refine lv_iadd S.1 S.2.1 d_L_law_195 ?_
      refine m_scr (j := 7 * k + 4) S hX hbz hnn hw (nI_p (a := 7 * k) (b := 4)) (by omega) d_L_law_196 ?_
      refine lv_aload_n S.1 S.2.1 d_L_law_197 rfl (lv_at hl 5 rfl) ?_
      refine lv_iload S.1 S.2.1 d_L_law_198 (lv_at hl 1 rfl) ?_
      refine lv_iconst (v := 5) S.1 S.2.1 d_L_law_200 (by decide) ?_
      refine lv_iadd S.1 S.2.1 d_L_law_201 ?_
      refine m_scr (j := 7 * k + 5) S hX hbz hnn hw (nI_p (a := 7 * k) (b := 5)) (by omega) d_L_law_202 ?_
      refine lv_aload_n S.1 S.2.1 d_L_law_203 rfl (lv_at hl 5 rfl) ?_
      refine lv_iload S.1 S.2.1 d_L_law_204 (lv_at hl 1 rfl) ?_
      refine lv_bipush (v := 6) S.1 S.2.1 d_L_law_206 (by decide) ?_
      refine lv_iadd S.1 S.2.1 d_L_law_208 ?_
      refine m_scr (j := 7 * k + 6) S hX hbz hnn hw (nI_p (a := 7 * k) (b := 6)) (by omega) d_L_law_209 ?_
      refine m_ci hw (va_runV (As := [.int (xs (7 * k + 1)), .int 0, .int (xs (7 * k + 3)), .int (xs (7 * k + 4)), .int (xs (7 * k + 5)), .int (xs (7 * k + 6))]) (rest := []) S (c_M_placeA l γ M μ σ ε hR (xs (7 * k + 1)) 0 (xs (7 * k + 3)) (xs (7 * k + 4)) (xs (7 * k + 5)) (xs (7 * k + 6)) hv) (m_cwV 6 S g774 g775 g776 g48 g777 rfl rfl ⟨by decide +kernel, by decide +kernel, by decide +kernel⟩ ⟨(Nat.le_of_ble_eq_true rfl), (Nat.le_of_ble_eq_true rfl)⟩) (hw.preV hR.1 cl_M.1) rfl rfl hl.1 rfl (lv_room (Nat.le_of_ble_eq_true rfl)) d_L_law_210 ⟨hrm.1, hrm.2⟩) (fun r2 M2 H locs hp hw => ?_)
      have hLS' := LSt.of (k := k + 1) hC hR ha hp hI.up hL hcp hcpl
      have hR2 := hp.1
      refine lv_istore S.1 S.2.1 d_L_law_213 hl (by decide) rfl (fun ls hl => ?_)
      have hl : lv_has ls 8 [(6, .int r2), (5, .int 1), (4, .int (nI (7 * k))), (3, .ref a), (2, .ref (rx μ)), (1, .ref (bx β)), (0, .ref b)] := hl
      refine lv_aload_n S.1 S.2.1 d_L_law_215 rfl (lv_at hl 4 rfl) ?_
      refine m_ci hw (va_runV (As := []) (rest := []) S (c_M_thrown l γ M2 μ σ (1, ε.2) hR2 ) (m_cwV 0 S g770 g771 g772 g48 g773 rfl rfl ⟨by decide +kernel, by decide +kernel, by decide +kernel⟩ ⟨(Nat.le_of_ble_eq_true rfl), (Nat.le_of_ble_eq_true rfl)⟩) (hw.preV hR2.1 cl_M.1) rfl rfl hl.1 rfl (lv_room (Nat.le_of_ble_eq_true rfl)) d_L_law_216 ⟨hrm.1, hrm.2⟩) (fun r3 M3 H locs hp hw => ?_)
      obtain ⟨rfl, hM3⟩ := hp
      rw [hM3] at hw
      refine lv_iload S.1 S.2.1 d_L_law_219 (lv_at hl 1 rfl) ?_
      refine lv_icmp_eq (tgt := 226) S.1 S.2.1 d_L_law_221 rfl (fun _ => ?_) (fun h => absurd (show (1 : Int32) = 1 from rfl) h)
      refine lv_iload S.1 S.2.1 d_L_law_226 (lv_at hl 1 rfl) ?_
      refine lv_if_ne (tgt := 243) S.1 S.2.1 d_L_law_228 rfl (fun _ => ?_) (fun h => absurd h (show ¬ (1 : Int32) = 0 by decide))
      refine lv_goto (tgt := 932) S.1 S.2.1 d_L_law_243 rfl ?_
      have hl := lv_sub hl [2, 3, 4, 5, 6] rfl
      exact kk M2 (stn σ) H locs ls _ _ hLS' (by omega) (by omega) hl hw
    · obtain ⟨hv1, hv2, hv3, hv4, hv5, hv6, hv7⟩ := place_in ((Bool.not_eq_false _).mp hv)
      by_cases hs9 : 250 ≤ sn σ ∨ sph σ = 2 ∨ ¬ (xs (7 * k + 6)) = 0 ∧ ¬ sph σ = 1
      · have hrm := room_ok (k := k + 1) (c := cells + 1) (s := slots + 6) hT0 (by omega) (by omega) (by omega)
        refine lv_aload_n S.1 S.2.1 d_L_law_112 rfl (lv_at hl 3 rfl) ?_
        refine lv_aload_n S.1 S.2.1 d_L_law_113 rfl (lv_at hl 4 rfl) ?_
        refine lv_iload S.1 S.2.1 d_L_law_114 (lv_at hl 0 rfl) ?_
        refine lv_iconst (v := 1) S.1 S.2.1 d_L_law_116 (by decide) ?_
        refine lv_iadd S.1 S.2.1 d_L_law_117 ?_
        refine m_scr (j := 7 * k + 1) S hX hbz hnn hw (nI_p (a := 7 * k) (b := 1)) (by omega) d_L_law_118 ?_
        refine lv_aload_n S.1 S.2.1 d_L_law_119 rfl (lv_at hl 4 rfl) ?_
        refine lv_iload S.1 S.2.1 d_L_law_120 (lv_at hl 0 rfl) ?_
        refine lv_iconst (v := 2) S.1 S.2.1 d_L_law_122 (by decide) ?_
        refine lv_iadd S.1 S.2.1 d_L_law_123 ?_
        refine m_scr (j := 7 * k + 2) S hX hbz hnn hw (nI_p (a := 7 * k) (b := 2)) (by omega) d_L_law_124 ?_
        refine lv_if_eq (tgt := 132) S.1 S.2.1 d_L_law_125 rfl (fun _ => ?_) (fun h => absurd hz h)
        refine lv_iconst (v := 0) S.1 S.2.1 d_L_law_132 (by decide) ?_
        refine lv_aload_n S.1 S.2.1 d_L_law_133 rfl (lv_at hl 4 rfl) ?_
        refine lv_iload S.1 S.2.1 d_L_law_134 (lv_at hl 0 rfl) ?_
        refine lv_iconst (v := 3) S.1 S.2.1 d_L_law_136 (by decide) ?_
        refine lv_iadd S.1 S.2.1 d_L_law_137 ?_
        refine m_scr (j := 7 * k + 3) S hX hbz hnn hw (nI_p (a := 7 * k) (b := 3)) (by omega) d_L_law_138 ?_
        refine lv_aload_n S.1 S.2.1 d_L_law_139 rfl (lv_at hl 4 rfl) ?_
        refine lv_iload S.1 S.2.1 d_L_law_140 (lv_at hl 0 rfl) ?_
        refine lv_iconst (v := 4) S.1 S.2.1 d_L_law_142 (by decide) ?_
        refine lv_iadd S.1 S.2.1 d_L_law_143 ?_
        refine m_scr (j := 7 * k + 4) S hX hbz hnn hw (nI_p (a := 7 * k) (b := 4)) (by omega) d_L_law_144 ?_
        refine lv_aload_n S.1 S.2.1 d_L_law_145 rfl (lv_at hl 4 rfl) ?_
        refine lv_iload S.1 S.2.1 d_L_law_146 (lv_at hl 0 rfl) ?_
        refine lv_iconst (v := 5) S.1 S.2.1 d_L_law_148 (by decide) ?_
        refine lv_iadd S.1 S.2.1 d_L_law_149 ?_
        refine m_scr (j := 7 * k + 5) S hX hbz hnn hw (nI_p (a := 7 * k) (b := 5)) (by omega) d_L_law_150 ?_
        refine lv_aload_n S.1 S.2.1 d_L_law_151 rfl (lv_at hl 4 rfl) ?_
        refine lv_iload S.1 S.2.1 d_L_law_152 (lv_at hl 0 rfl) ?_
        refine lv_bipush (v := 6) S.1 S.2.1 d_L_law_154 (by decide) ?_
        refine lv_iadd S.1 S.2.1 d_L_law_156 ?_
        refine m_scr (j := 7 * k + 6) S hX hbz hnn hw (nI_p (a := 7 * k) (b := 6)) (by omega) d_L_law_157 ?_
        refine lv_aload_n S.1 S.2.1 d_L_law_158 rfl (lv_at hl 1 rfl) ?_
        refine m_ci hw (m_runSW (n := 8) (As := [.ref (bx β), .int (xs (7 * k + 1)), .int 0, .int (xs (7 * k + 3)), .int (xs (7 * k + 4)), .int (xs (7 * k + 5)), .int (xs (7 * k + 6)), .ref a]) (rest := []) S (h_placeS l hlT γ M β oa cp L σ hC a hn (xs (7 * k + 1)) 0 (xs (7 * k + 3)) (xs (7 * k + 4)) (xs (7 * k + 5)) (xs (7 * k + 6)) hv1 hv2 hv3 hv4 hv5 hv6 hv7 hs9) g274 g275 g40 g276 rfl rfl ⟨by decide +kernel, by decide +kernel, by decide +kernel⟩ ⟨(Nat.le_of_ble_eq_true rfl), (Nat.le_of_ble_eq_true rfl)⟩ (hw.preXS hx) rfl hl.1 (lv_room (Nat.le_of_ble_eq_true rfl)) d_L_law_159 ⟨hrm.1, hrm.2⟩ rfl) (fun r1 M1 H locs hp hw => ?_)
        obtain ⟨rfl, hM1⟩ := hp
        rw [hM1] at hw
        refine lv_istore S.1 S.2.1 d_L_law_162 hl (by decide) rfl (fun ls hl => ?_)
        have hl : lv_has ls 8 [(5, .int 2), (4, .int (nI (7 * k))), (3, .ref a), (2, .ref (rx μ)), (1, .ref (bx β)), (0, .ref b)] := hl
        refine lv_aload_n S.1 S.2.1 d_L_law_164 rfl (lv_at hl 3 rfl) ?_
        refine lv_aload_n S.1 S.2.1 d_L_law_165 rfl (lv_at hl 5 rfl) ?_
        refine lv_iload S.1 S.2.1 d_L_law_166 (lv_at hl 1 rfl) ?_
        refine lv_iconst (v := 1) S.1 S.2.1 d_L_law_168 (by decide) ?_
        refine lv_iadd S.1 S.2.1 d_L_law_169 ?_
        refine m_scr (j := 7 * k + 1) S hX hbz hnn hw (nI_p (a := 7 * k) (b := 1)) (by omega) d_L_law_170 ?_
        refine lv_aload_n S.1 S.2.1 d_L_law_171 rfl (lv_at hl 5 rfl) ?_
        refine lv_iload S.1 S.2.1 d_L_law_172 (lv_at hl 1 rfl) ?_
        refine lv_iconst (v := 2) S.1 S.2.1 d_L_law_174 (by decide) ?_
        refine lv_iadd S.1 S.2.1 d_L_law_175 ?_
        refine m_scr (j := 7 * k + 2) S hX hbz hnn hw (nI_p (a := 7 * k) (b := 2)) (by omega) d_L_law_176 ?_
        refine lv_if_eq (tgt := 184) S.1 S.2.1 d_L_law_177 rfl (fun _ => ?_) (fun h => absurd hz h)
        refine lv_iconst (v := 0) S.1 S.2.1 d_L_law_184 (by decide) ?_
        refine lv_aload_n S.1 S.2.1 d_L_law_185 rfl (lv_at hl 5 rfl) ?_
        refine lv_iload S.1 S.2.1 d_L_law_186 (lv_at hl 1 rfl) ?_
        refine lv_iconst (v := 3) S.1 S.2.1 d_L_law_188 (by decide) ?_
        refine lv_iadd S.1 S.2.1 d_L_law_189 ?_
        refine m_scr (j := 7 * k + 3) S hX hbz hnn hw (nI_p (a := 7 * k) (b := 3)) (by omega) d_L_law_190 ?_
        refine lv_aload_n S.1 S.2.1 d_L_law_191 rfl (lv_at hl 5 rfl) ?_
        refine lv_iload S.1 S.2.1 d_L_law_192 (lv_at hl 1 rfl) ?_
        refine lv_iconst (v := 4) S.1 S.2.1 d_L_law_194 (by decide) ?_
        refine lv_iadd S.1 S.2.1 d_L_law_195 ?_
        refine m_scr (j := 7 * k + 4) S hX hbz hnn hw (nI_p (a := 7 * k) (b := 4)) (by omega) d_L_law_196 ?_
        refine lv_aload_n S.1 S.2.1 d_L_law_197 rfl (lv_at hl 5 rfl) ?_
        refine lv_iload S.1 S.2.1 d_L_law_198 (lv_at hl 1 rfl) ?_
        refine lv_iconst (v := 5) S.1 S.2.1 d_L_law_200 (by decide) ?_
        refine lv_iadd S.1 S.2.1 d_L_law_201 ?_
        refine m_scr (j := 7 * k + 5) S hX hbz hnn hw (nI_p (a := 7 * k) (b := 5)) (by omega) d_L_law_202 ?_
        refine lv_aload_n S.1 S.2.1 d_L_law_203 rfl (lv_at hl 5 rfl) ?_
        refine lv_iload S.1 S.2.1 d_L_law_204 (lv_at hl 1 rfl) ?_
        refine lv_bipush (v := 6) S.1 S.2.1 d_L_law_206 (by decide) ?_
        refine lv_iadd S.1 S.2.1 d_L_law_208 ?_
        refine m_scr (j := 7 * k + 6) S hX hbz hnn hw (nI_p (a := 7 * k) (b := 6)) (by omega) d_L_law_209 ?_
        refine m_ci hw (va_runV (As := [.int (xs (7 * k + 1)), .int 0, .int (xs (7 * k + 3)), .int (xs (7 * k + 4)), .int (xs (7 * k + 5)), .int (xs (7 * k + 6))]) (rest := []) S (c_M_placeS l γ M μ σ ε hR hn (xs (7 * k + 1)) 0 (xs (7 * k + 3)) (xs (7 * k + 4)) (xs (7 * k + 5)) (xs (7 * k + 6)) hv1 hv2 hv3 hv4 hv5 hv6 hv7 hs9) (m_cwV 6 S g774 g775 g776 g48 g777 rfl rfl ⟨by decide +kernel, by decide +kernel, by decide +kernel⟩ ⟨(Nat.le_of_ble_eq_true rfl), (Nat.le_of_ble_eq_true rfl)⟩) (hw.preV hR.1 cl_M.1) rfl rfl hl.1 rfl (lv_room (Nat.le_of_ble_eq_true rfl)) d_L_law_210 ⟨hrm.1, hrm.2⟩) (fun r2 M2 H locs hp hw => ?_)
        have hLS' := LSt.of (k := k + 1) hC hR ha hp hI.up hL hcp hcpl
        have hR2 := hp.1
        refine lv_istore S.1 S.2.1 d_L_law_213 hl (by decide) rfl (fun ls hl => ?_)
        have hl : lv_has ls 8 [(6, .int r2), (5, .int 2), (4, .int (nI (7 * k))), (3, .ref a), (2, .ref (rx μ)), (1, .ref (bx β)), (0, .ref b)] := hl
        refine lv_aload_n S.1 S.2.1 d_L_law_215 rfl (lv_at hl 4 rfl) ?_
        refine m_ci hw (va_runV (As := []) (rest := []) S (c_M_thrown l γ M2 μ σ (2, ε.2) hR2 ) (m_cwV 0 S g770 g771 g772 g48 g773 rfl rfl ⟨by decide +kernel, by decide +kernel, by decide +kernel⟩ ⟨(Nat.le_of_ble_eq_true rfl), (Nat.le_of_ble_eq_true rfl)⟩) (hw.preV hR2.1 cl_M.1) rfl rfl hl.1 rfl (lv_room (Nat.le_of_ble_eq_true rfl)) d_L_law_216 ⟨hrm.1, hrm.2⟩) (fun r3 M3 H locs hp hw => ?_)
        obtain ⟨rfl, hM3⟩ := hp
        rw [hM3] at hw
        refine lv_iload S.1 S.2.1 d_L_law_219 (lv_at hl 1 rfl) ?_
        refine lv_icmp_eq (tgt := 226) S.1 S.2.1 d_L_law_221 rfl (fun _ => ?_) (fun h => absurd (show (2 : Int32) = 2 from rfl) h)
        refine lv_iload S.1 S.2.1 d_L_law_226 (lv_at hl 1 rfl) ?_
        refine lv_if_ne (tgt := 243) S.1 S.2.1 d_L_law_228 rfl (fun _ => ?_) (fun h => absurd h (show ¬ (2 : Int32) = 0 by decide))
        refine lv_goto (tgt := 932) S.1 S.2.1 d_L_law_243 rfl ?_
        have hl := lv_sub hl [2, 3, 4, 5, 6] rfl
        exact kk M2 (stn σ) H locs ls _ _ hLS' (by omega) (by omega) hl hw
      · have hn2 : sn σ < 250 := by rcases Nat.lt_or_ge (sn σ) 250 with z | z; exact z; exact absurd (Or.inl z) hs9
        have hph : ¬ sph σ = 2 := fun z => hs9 (Or.inr (Or.inl z))
        have hte : (xs (7 * k + 6)) = 0 ∨ sph σ = 1 := by by_cases z : (xs (7 * k + 6)) = 0; exact Or.inl z; by_cases z2 : sph σ = 1; exact Or.inr z2; exact absurd (Or.inr (Or.inr ⟨z, z2⟩)) hs9
        obtain ⟨hI1n, hL1n, hT1, hrin⟩ := rin_place (w := (xs (7 * k + 1))) (b := 0) (p := (xs (7 * k + 3))) (q := (xs (7 * k + 4))) (k0 := (xs (7 * k + 5))) (f := (xs (7 * k + 6))) (g := (cgw (xNew σ (xs (7 * k + 1)) 0 (xs (7 * k + 3)) (xs (7 * k + 4)) (xs (7 * k + 5)) (xs (7 * k + 6))) (L (sj (opp 0))) (sn σ))) hI hL (by omega) (Or.inl rfl) hv2 hv3 hv4 hv5 hn2
        have hcg : cov (xNew σ (xs (7 * k + 1)) 0 (xs (7 * k + 3)) (xs (7 * k + 4)) (xs (7 * k + 5)) (xs (7 * k + 6))) (sn σ) = (cgw (xNew σ (xs (7 * k + 1)) 0 (xs (7 * k + 3)) (xs (7 * k + 4)) (xs (7 * k + 5)) (xs (7 * k + 6))) (L (sj (opp 0))) (sn σ)) := by have h9 := cov_cgw (σ := (xNew σ (xs (7 * k + 1)) 0 (xs (7 * k + 3)) (xs (7 * k + 4)) (xs (7 * k + 5)) (xs (7 * k + 6)))) (o := sn σ) hI1n hL1n (Nat.lt_succ_self _); rw [show sI (xNew σ (xs (7 * k + 1)) 0 (xs (7 * k + 3)) (xs (7 * k + 4)) (xs (7 * k + 5)) (xs (7 * k + 6))) 1 (sn σ) = 0 from new_n] at h9; exact h9
        have hmo : stn σ ≤ stn (xCome (cgw (xNew σ (xs (7 * k + 1)) 0 (xs (7 * k + 3)) (xs (7 * k + 4)) (xs (7 * k + 5)) (xs (7 * k + 6))) (L (sj (opp 0))) (sn σ)) (xNew σ (xs (7 * k + 1)) 0 (xs (7 * k + 3)) (xs (7 * k + 4)) (xs (7 * k + 5)) (xs (7 * k + 6))) (sn σ)) := come_tn (σ := (xNew σ (xs (7 * k + 1)) 0 (xs (7 * k + 3)) (xs (7 * k + 4)) (xs (7 * k + 5)) (xs (7 * k + 6))))
        obtain ⟨σ', hσ⟩ : ∃ z, xCome (cgw (xNew σ (xs (7 * k + 1)) 0 (xs (7 * k + 3)) (xs (7 * k + 4)) (xs (7 * k + 5)) (xs (7 * k + 6))) (L (sj (opp 0))) (sn σ)) (xNew σ (xs (7 * k + 1)) 0 (xs (7 * k + 3)) (xs (7 * k + 4)) (xs (7 * k + 5)) (xs (7 * k + 6))) (sn σ) = z := ⟨_, rfl⟩
        rw [hσ] at hT1 hrin hmo
        have hkC := kC_mono hmo
        have hkS := kS_mono hmo
        have hTZ := hI.2.2.2.2.2.1 (sn σ) (Nat.le_refl _)
        have hrm := room_ok (t := stn σ') (k := k + 1) (c := cells + (kC (stn σ') - kC (stn σ) + 3)) (s := slots + (kS (stn σ') - kS (stn σ) + 756)) (by omega) (by omega) (by omega) (by omega)
        refine lv_aload_n S.1 S.2.1 d_L_law_112 rfl (lv_at hl 3 rfl) ?_
        refine lv_aload_n S.1 S.2.1 d_L_law_113 rfl (lv_at hl 4 rfl) ?_
        refine lv_iload S.1 S.2.1 d_L_law_114 (lv_at hl 0 rfl) ?_
        refine lv_iconst (v := 1) S.1 S.2.1 d_L_law_116 (by decide) ?_
        refine lv_iadd S.1 S.2.1 d_L_law_117 ?_
        refine m_scr (j := 7 * k + 1) S hX hbz hnn hw (nI_p (a := 7 * k) (b := 1)) (by omega) d_L_law_118 ?_
        refine lv_aload_n S.1 S.2.1 d_L_law_119 rfl (lv_at hl 4 rfl) ?_
        refine lv_iload S.1 S.2.1 d_L_law_120 (lv_at hl 0 rfl) ?_
        refine lv_iconst (v := 2) S.1 S.2.1 d_L_law_122 (by decide) ?_
        refine lv_iadd S.1 S.2.1 d_L_law_123 ?_
        refine m_scr (j := 7 * k + 2) S hX hbz hnn hw (nI_p (a := 7 * k) (b := 2)) (by omega) d_L_law_124 ?_
        refine lv_if_eq (tgt := 132) S.1 S.2.1 d_L_law_125 rfl (fun _ => ?_) (fun h => absurd hz h)
        refine lv_iconst (v := 0) S.1 S.2.1 d_L_law_132 (by decide) ?_
        refine lv_aload_n S.1 S.2.1 d_L_law_133 rfl (lv_at hl 4 rfl) ?_
        refine lv_iload S.1 S.2.1 d_L_law_134 (lv_at hl 0 rfl) ?_
        refine lv_iconst (v := 3) S.1 S.2.1 d_L_law_136 (by decide) ?_
        refine lv_iadd S.1 S.2.1 d_L_law_137 ?_
        refine m_scr (j := 7 * k + 3) S hX hbz hnn hw (nI_p (a := 7 * k) (b := 3)) (by omega) d_L_law_138 ?_
        refine lv_aload_n S.1 S.2.1 d_L_law_139 rfl (lv_at hl 4 rfl) ?_
        refine lv_iload S.1 S.2.1 d_L_law_140 (lv_at hl 0 rfl) ?_
        refine lv_iconst (v := 4) S.1 S.2.1 d_L_law_142 (by decide) ?_
        refine lv_iadd S.1 S.2.1 d_L_law_143 ?_
        refine m_scr (j := 7 * k + 4) S hX hbz hnn hw (nI_p (a := 7 * k) (b := 4)) (by omega) d_L_law_144 ?_
        refine lv_aload_n S.1 S.2.1 d_L_law_145 rfl (lv_at hl 4 rfl) ?_
        refine lv_iload S.1 S.2.1 d_L_law_146 (lv_at hl 0 rfl) ?_
        refine lv_iconst (v := 5) S.1 S.2.1 d_L_law_148 (by decide) ?_
        refine lv_iadd S.1 S.2.1 d_L_law_149 ?_
        refine m_scr (j := 7 * k + 5) S hX hbz hnn hw (nI_p (a := 7 * k) (b := 5)) (by omega) d_L_law_150 ?_
        refine lv_aload_n S.1 S.2.1 d_L_law_151 rfl (lv_at hl 4 rfl) ?_
        refine lv_iload S.1 S.2.1 d_L_law_152 (lv_at hl 0 rfl) ?_
        refine lv_bipush (v := 6) S.1 S.2.1 d_L_law_154 (by decide) ?_
        refine lv_iadd S.1 S.2.1 d_L_law_156 ?_
        refine m_scr (j := 7 * k + 6) S hX hbz hnn hw (nI_p (a := 7 * k) (b := 6)) (by omega) d_L_law_157 ?_
        refine lv_aload_n S.1 S.2.1 d_L_law_158 rfl (lv_at hl 1 rfl) ?_
        refine m_ci hw (m_runSW (n := 8) (As := [.ref (bx β), .int (xs (7 * k + 1)), .int 0, .int (xs (7 * k + 3)), .int (xs (7 * k + 4)), .int (xs (7 * k + 5)), .int (xs (7 * k + 6)), .ref a]) (rest := []) S (h_place l γ M β oa cp L σ hC a f ha hI0 hL (xs (7 * k + 1)) 0 (xs (7 * k + 3)) (xs (7 * k + 4)) (xs (7 * k + 5)) (xs (7 * k + 6)) (Or.inl rfl) hv1 hv2 hv3 hv4 hv5 hv6 hv7 hn2 hph hte hcp hcpl σ' hσ (by omega) hrk0) g274 g275 g40 g276 rfl rfl ⟨by decide +kernel, by decide +kernel, by decide +kernel⟩ ⟨(Nat.le_of_ble_eq_true rfl), (Nat.le_of_ble_eq_true rfl)⟩ (hw.preXS hx) rfl hl.1 (lv_room (Nat.le_of_ble_eq_true rfl)) d_L_law_159 ⟨hrm.1, hrm.2⟩ rfl) (fun r1 M1 H locs hp hw => ?_)
        obtain ⟨rfl, M9, hp, hM1⟩ := hp
        obtain ⟨oa1, L1, cp1, hC1, hI1, hL1, hcp1, hcpl1, hf1, hsn1, hrk1⟩ := hp
        have ha9 : M9 a = some (ouc γ f) := hf1.out ha
        have hC9 : CB γ M1 β oa1 cp1 L1 σ' := by rw [hM1]; exact CB.frB hC1 (frB.out ha9)
        have ha1 : M1 a = some (ouc γ (vp_updL f 0 ((nI (sn σ)).toInt64))) := by rw [hM1]; exact mU_eq _ _ _
        have hR1 : RM γ M1 μ σ ε := hR.fr ha (by rw [hM1]; exact frL.c hf1)
        refine lv_istore S.1 S.2.1 d_L_law_162 hl (by decide) rfl (fun ls hl => ?_)
        have hl : lv_has ls 8 [(5, .int 0), (4, .int (nI (7 * k))), (3, .ref a), (2, .ref (rx μ)), (1, .ref (bx β)), (0, .ref b)] := hl
        refine lv_aload_n S.1 S.2.1 d_L_law_164 rfl (lv_at hl 3 rfl) ?_
        refine lv_aload_n S.1 S.2.1 d_L_law_165 rfl (lv_at hl 5 rfl) ?_
        refine lv_iload S.1 S.2.1 d_L_law_166 (lv_at hl 1 rfl) ?_
        refine lv_iconst (v := 1) S.1 S.2.1 d_L_law_168 (by decide) ?_
        refine lv_iadd S.1 S.2.1 d_L_law_169 ?_
        refine m_scr (j := 7 * k + 1) S hX hbz hnn hw (nI_p (a := 7 * k) (b := 1)) (by omega) d_L_law_170 ?_
        refine lv_aload_n S.1 S.2.1 d_L_law_171 rfl (lv_at hl 5 rfl) ?_
        refine lv_iload S.1 S.2.1 d_L_law_172 (lv_at hl 1 rfl) ?_
        refine lv_iconst (v := 2) S.1 S.2.1 d_L_law_174 (by decide) ?_
        refine lv_iadd S.1 S.2.1 d_L_law_175 ?_
        refine m_scr (j := 7 * k + 2) S hX hbz hnn hw (nI_p (a := 7 * k) (b := 2)) (by omega) d_L_law_176 ?_
        refine lv_if_eq (tgt := 184) S.1 S.2.1 d_L_law_177 rfl (fun _ => ?_) (fun h => absurd hz h)
        refine lv_iconst (v := 0) S.1 S.2.1 d_L_law_184 (by decide) ?_
        refine lv_aload_n S.1 S.2.1 d_L_law_185 rfl (lv_at hl 5 rfl) ?_
        refine lv_iload S.1 S.2.1 d_L_law_186 (lv_at hl 1 rfl) ?_
        refine lv_iconst (v := 3) S.1 S.2.1 d_L_law_188 (by decide) ?_
        refine lv_iadd S.1 S.2.1 d_L_law_189 ?_
        refine m_scr (j := 7 * k + 3) S hX hbz hnn hw (nI_p (a := 7 * k) (b := 3)) (by omega) d_L_law_190 ?_
        refine lv_aload_n S.1 S.2.1 d_L_law_191 rfl (lv_at hl 5 rfl) ?_
        refine lv_iload S.1 S.2.1 d_L_law_192 (lv_at hl 1 rfl) ?_
        refine lv_iconst (v := 4) S.1 S.2.1 d_L_law_194 (by decide) ?_
        refine lv_iadd S.1 S.2.1 d_L_law_195 ?_
        refine m_scr (j := 7 * k + 4) S hX hbz hnn hw (nI_p (a := 7 * k) (b := 4)) (by omega) d_L_law_196 ?_
        refine lv_aload_n S.1 S.2.1 d_L_law_197 rfl (lv_at hl 5 rfl) ?_
        refine lv_iload S.1 S.2.1 d_L_law_198 (lv_at hl 1 rfl) ?_
        refine lv_iconst (v := 5) S.1 S.2.1 d_L_law_200 (by decide) ?_
        refine lv_iadd S.1 S.2.1 d_L_law_201 ?_
        refine m_scr (j := 7 * k + 5) S hX hbz hnn hw (nI_p (a := 7 * k) (b := 5)) (by omega) d_L_law_202 ?_
        refine lv_aload_n S.1 S.2.1 d_L_law_203 rfl (lv_at hl 5 rfl) ?_
        refine lv_iload S.1 S.2.1 d_L_law_204 (lv_at hl 1 rfl) ?_
        refine lv_bipush (v := 6) S.1 S.2.1 d_L_law_206 (by decide) ?_
        refine lv_iadd S.1 S.2.1 d_L_law_208 ?_
        refine m_scr (j := 7 * k + 6) S hX hbz hnn hw (nI_p (a := 7 * k) (b := 6)) (by omega) d_L_law_209 ?_
        refine m_ci hw (va_runV (As := [.int (xs (7 * k + 1)), .int 0, .int (xs (7 * k + 3)), .int (xs (7 * k + 4)), .int (xs (7 * k + 5)), .int (xs (7 * k + 6))]) (rest := []) S (c_M_place l γ M1 μ σ ε hR1 (xs (7 * k + 1)) 0 (xs (7 * k + 3)) (xs (7 * k + 4)) (xs (7 * k + 5)) (xs (7 * k + 6)) (Or.inl rfl) hv1 hv2 hv3 hv4 hv5 hv6 hv7 L hI1n hL1n hI.2.1 hn2 hph hte hTZ.1 hTZ.2 hrk0 σ' (by rw [hcg]; exact hσ) (by omega)) (m_cwV 6 S g774 g775 g776 g48 g777 rfl rfl ⟨by decide +kernel, by decide +kernel, by decide +kernel⟩ ⟨(Nat.le_of_ble_eq_true rfl), (Nat.le_of_ble_eq_true rfl)⟩) (hw.preV hR1.1 cl_M.1) rfl rfl hl.1 rfl (lv_room (Nat.le_of_ble_eq_true rfl)) d_L_law_210 ⟨hrm.1, hrm.2⟩) (fun r2 M2 H locs hp hw => ?_)
        obtain ⟨rfl, hq⟩ := hp
        have hLS' := LSt.of (k := k + 1) hC9 hR1 ha1 hq (hrin hrk1 hI1) hL1 hcp1 hcpl1
        have ha2 := hq.2.out hR1 ha1
        have hR2 := hq.1
        refine lv_istore S.1 S.2.1 d_L_law_213 hl (by decide) rfl (fun ls hl => ?_)
        have hl : lv_has ls 8 [(6, .int (nI (sn σ))), (5, .int 0), (4, .int (nI (7 * k))), (3, .ref a), (2, .ref (rx μ)), (1, .ref (bx β)), (0, .ref b)] := hl
        refine lv_aload_n S.1 S.2.1 d_L_law_215 rfl (lv_at hl 4 rfl) ?_
        refine m_ci hw (va_runV (As := []) (rest := []) S (c_M_thrown l γ M2 μ σ' (0, ε.2) hR2 ) (m_cwV 0 S g770 g771 g772 g48 g773 rfl rfl ⟨by decide +kernel, by decide +kernel, by decide +kernel⟩ ⟨(Nat.le_of_ble_eq_true rfl), (Nat.le_of_ble_eq_true rfl)⟩) (hw.preV hR2.1 cl_M.1) rfl rfl hl.1 rfl (lv_room (Nat.le_of_ble_eq_true rfl)) d_L_law_216 ⟨hrm.1, hrm.2⟩) (fun r3 M3 H locs hp hw => ?_)
        obtain ⟨rfl, hM3⟩ := hp
        rw [hM3] at hw
        refine lv_iload S.1 S.2.1 d_L_law_219 (lv_at hl 1 rfl) ?_
        refine lv_icmp_eq (tgt := 226) S.1 S.2.1 d_L_law_221 rfl (fun _ => ?_) (fun h => absurd (show (0 : Int32) = 0 from rfl) h)
        refine lv_iload S.1 S.2.1 d_L_law_226 (lv_at hl 1 rfl) ?_
        refine lv_if_ne (tgt := 243) S.1 S.2.1 d_L_law_228 rfl (fun h => absurd (show (0 : Int32) = 0 by decide) h) (fun _ => ?_)
        refine lv_aload_n S.1 S.2.1 d_L_law_231 rfl (lv_at hl 3 rfl) ?_
        refine lv_iconst (v := 0) S.1 S.2.1 d_L_law_232 (by decide) ?_
        refine m_lald (f := vp_updL f 0 ((nI (sn σ)).toInt64)) S hw ha2 (by unfold vp_in; decide) d_L_law_233 ?_
        refine W.eq (g2 := F0 m 234 ls [.long ((nI (sn σ)).toInt64)]) (congrArg (fun z => F0 m 234 ls [.long z]) (show (vp_updL f 0 ((nI (sn σ)).toInt64)) (0 : Int32).toNatClampNeg = (nI (sn σ)).toInt64 from rfl)) ?_
        refine lv_iload S.1 S.2.1 d_L_law_234 (lv_at hl 0 rfl) ?_
        refine lv_i2l S.1 S.2.1 d_L_law_236 rfl ?_
        refine W.lcmp S.1 S.2.1 d_L_law_237 ?_
        refine lv_if_eq (tgt := 243) S.1 S.2.1 d_L_law_238 rfl (fun _ => ?_) (fun h => absurd ((lg_cmp_eq _ _).mpr rfl) h)
        refine lv_goto (tgt := 932) S.1 S.2.1 d_L_law_243 rfl ?_
        have hl := lv_sub hl [2, 3, 4, 5, 6] rfl
        exact kk M2 (stn σ') H locs ls _ _ hLS' (by omega) (by omega) hl hw
  · by_cases hv : (rg 0 9 (xs (7 * k + 1)) && rg 0 2000 (xs (7 * k + 3)) && rg 1 100000 (xs (7 * k + 4)) && rg 0 100000 (xs (7 * k + 5)) && fpk (xs (7 * k + 4)) (xs (7 * k + 5)) && rg 0 2 (xs (7 * k + 6)) && (decide ((xs (7 * k + 5)) = 0) || decide ((xs (7 * k + 6)) = 0))) = false
    · have hrm := room_ok (k := k + 1) (c := cells + 1) (s := slots + 6) hT0 (by omega) (by omega) (by omega)
      refine lv_aload_n S.1 S.2.1 d_L_law_112 rfl (lv_at hl 3 rfl) ?_
      refine lv_aload_n S.1 S.2.1 d_L_law_113 rfl (lv_at hl 4 rfl) ?_
      refine lv_iload S.1 S.2.1 d_L_law_114 (lv_at hl 0 rfl) ?_
      refine lv_iconst (v := 1) S.1 S.2.1 d_L_law_116 (by decide) ?_
      refine lv_iadd S.1 S.2.1 d_L_law_117 ?_
      refine m_scr (j := 7 * k + 1) S hX hbz hnn hw (nI_p (a := 7 * k) (b := 1)) (by omega) d_L_law_118 ?_
      refine lv_aload_n S.1 S.2.1 d_L_law_119 rfl (lv_at hl 4 rfl) ?_
      refine lv_iload S.1 S.2.1 d_L_law_120 (lv_at hl 0 rfl) ?_
      refine lv_iconst (v := 2) S.1 S.2.1 d_L_law_122 (by decide) ?_
      refine lv_iadd S.1 S.2.1 d_L_law_123 ?_
      refine m_scr (j := 7 * k + 2) S hX hbz hnn hw (nI_p (a := 7 * k) (b := 2)) (by omega) d_L_law_124 ?_
      refine lv_if_eq (tgt := 132) S.1 S.2.1 d_L_law_125 rfl (fun h => absurd h hz) (fun _ => ?_)
      refine lv_iconst (v := 1) S.1 S.2.1 d_L_law_128 (by decide) ?_
      refine lv_goto (tgt := 133) S.1 S.2.1 d_L_law_129 rfl ?_
      refine lv_aload_n S.1 S.2.1 d_L_law_133 rfl (lv_at hl 4 rfl) ?_
      refine lv_iload S.1 S.2.1 d_L_law_134 (lv_at hl 0 rfl) ?_
      refine lv_iconst (v := 3) S.1 S.2.1 d_L_law_136 (by decide) ?_
      refine lv_iadd S.1 S.2.1 d_L_law_137 ?_
      refine m_scr (j := 7 * k + 3) S hX hbz hnn hw (nI_p (a := 7 * k) (b := 3)) (by omega) d_L_law_138 ?_
      refine lv_aload_n S.1 S.2.1 d_L_law_139 rfl (lv_at hl 4 rfl) ?_
      refine lv_iload S.1 S.2.1 d_L_law_140 (lv_at hl 0 rfl) ?_
      refine lv_iconst (v := 4) S.1 S.2.1 d_L_law_142 (by decide) ?_
      refine lv_iadd S.1 S.2.1 d_L_law_143 ?_
      refine m_scr (j := 7 * k + 4) S hX hbz hnn hw (nI_p (a := 7 * k) (b := 4)) (by omega) d_L_law_144 ?_
      refine lv_aload_n S.1 S.2.1 d_L_law_145 rfl (lv_at hl 4 rfl) ?_
      refine lv_iload S.1 S.2.1 d_L_law_146 (lv_at hl 0 rfl) ?_
      refine lv_iconst (v := 5) S.1 S.2.1 d_L_law_148 (by decide) ?_
      refine lv_iadd S.1 S.2.1 d_L_law_149 ?_
      refine m_scr (j := 7 * k + 5) S hX hbz hnn hw (nI_p (a := 7 * k) (b := 5)) (by omega) d_L_law_150 ?_
      refine lv_aload_n S.1 S.2.1 d_L_law_151 rfl (lv_at hl 4 rfl) ?_
      refine lv_iload S.1 S.2.1 d_L_law_152 (lv_at hl 0 rfl) ?_
      refine lv_bipush (v := 6) S.1 S.2.1 d_L_law_154 (by decide) ?_
      refine lv_iadd S.1 S.2.1 d_L_law_156 ?_
      refine m_scr (j := 7 * k + 6) S hX hbz hnn hw (nI_p (a := 7 * k) (b := 6)) (by omega) d_L_law_157 ?_
      refine lv_aload_n S.1 S.2.1 d_L_law_158 rfl (lv_at hl 1 rfl) ?_
      refine m_ci hw (m_runSW (n := 8) (As := [.ref (bx β), .int (xs (7 * k + 1)), .int 1, .int (xs (7 * k + 3)), .int (xs (7 * k + 4)), .int (xs (7 * k + 5)), .int (xs (7 * k + 6)), .ref a]) (rest := []) S (h_placeA l hlT γ M β oa cp L σ hC a (xs (7 * k + 1)) 1 (xs (7 * k + 3)) (xs (7 * k + 4)) (xs (7 * k + 5)) (xs (7 * k + 6)) hv) g274 g275 g40 g276 rfl rfl ⟨by decide +kernel, by decide +kernel, by decide +kernel⟩ ⟨(Nat.le_of_ble_eq_true rfl), (Nat.le_of_ble_eq_true rfl)⟩ (hw.preXS hx) rfl hl.1 (lv_room (Nat.le_of_ble_eq_true rfl)) d_L_law_159 ⟨hrm.1, hrm.2⟩ rfl) (fun r1 M1 H locs hp hw => ?_)
      obtain ⟨rfl, hM1⟩ := hp
      rw [hM1] at hw
      refine lv_istore S.1 S.2.1 d_L_law_162 hl (by decide) rfl (fun ls hl => ?_)
      have hl : lv_has ls 8 [(5, .int 1), (4, .int (nI (7 * k))), (3, .ref a), (2, .ref (rx μ)), (1, .ref (bx β)), (0, .ref b)] := hl
      refine lv_aload_n S.1 S.2.1 d_L_law_164 rfl (lv_at hl 3 rfl) ?_
      refine lv_aload_n S.1 S.2.1 d_L_law_165 rfl (lv_at hl 5 rfl) ?_
      refine lv_iload S.1 S.2.1 d_L_law_166 (lv_at hl 1 rfl) ?_
      refine lv_iconst (v := 1) S.1 S.2.1 d_L_law_168 (by decide) ?_
      refine lv_iadd S.1 S.2.1 d_L_law_169 ?_
      refine m_scr (j := 7 * k + 1) S hX hbz hnn hw (nI_p (a := 7 * k) (b := 1)) (by omega) d_L_law_170 ?_
      refine lv_aload_n S.1 S.2.1 d_L_law_171 rfl (lv_at hl 5 rfl) ?_
      refine lv_iload S.1 S.2.1 d_L_law_172 (lv_at hl 1 rfl) ?_
      refine lv_iconst (v := 2) S.1 S.2.1 d_L_law_174 (by decide) ?_
      refine lv_iadd S.1 S.2.1 d_L_law_175 ?_
      refine m_scr (j := 7 * k + 2) S hX hbz hnn hw (nI_p (a := 7 * k) (b := 2)) (by omega) d_L_law_176 ?_
      refine lv_if_eq (tgt := 184) S.1 S.2.1 d_L_law_177 rfl (fun h => absurd h hz) (fun _ => ?_)
      refine lv_iconst (v := 1) S.1 S.2.1 d_L_law_180 (by decide) ?_
      refine lv_goto (tgt := 185) S.1 S.2.1 d_L_law_181 rfl ?_
      refine lv_aload_n S.1 S.2.1 d_L_law_185 rfl (lv_at hl 5 rfl) ?_
      refine lv_iload S.1 S.2.1 d_L_law_186 (lv_at hl 1 rfl) ?_
      refine lv_iconst (v := 3) S.1 S.2.1 d_L_law_188 (by decide) ?_
      refine lv_iadd S.1 S.2.1 d_L_law_189 ?_
      refine m_scr (j := 7 * k + 3) S hX hbz hnn hw (nI_p (a := 7 * k) (b := 3)) (by omega) d_L_law_190 ?_
      refine lv_aload_n S.1 S.2.1 d_L_law_191 rfl (lv_at hl 5 rfl) ?_
      refine lv_iload S.1 S.2.1 d_L_law_192 (lv_at hl 1 rfl) ?_
      refine lv_iconst (v := 4) S.1 S.2.1 d_L_law_194 (by decide) ?_
      refine lv_iadd S.1 S.2.1 d_L_law_195 ?_
      refine m_scr (j := 7 * k + 4) S hX hbz hnn hw (nI_p (a := 7 * k) (b := 4)) (by omega) d_L_law_196 ?_
      refine lv_aload_n S.1 S.2.1 d_L_law_197 rfl (lv_at hl 5 rfl) ?_
      refine lv_iload S.1 S.2.1 d_L_law_198 (lv_at hl 1 rfl) ?_
      refine lv_iconst (v := 5) S.1 S.2.1 d_L_law_200 (by decide) ?_
      refine lv_iadd S.1 S.2.1 d_L_law_201 ?_
      refine m_scr (j := 7 * k + 5) S hX hbz hnn hw (nI_p (a := 7 * k) (b := 5)) (by omega) d_L_law_202 ?_
      refine lv_aload_n S.1 S.2.1 d_L_law_203 rfl (lv_at hl 5 rfl) ?_
      refine lv_iload S.1 S.2.1 d_L_law_204 (lv_at hl 1 rfl) ?_
      refine lv_bipush (v := 6) S.1 S.2.1 d_L_law_206 (by decide) ?_
      refine lv_iadd S.1 S.2.1 d_L_law_208 ?_
      refine m_scr (j := 7 * k + 6) S hX hbz hnn hw (nI_p (a := 7 * k) (b := 6)) (by omega) d_L_law_209 ?_
      refine m_ci hw (va_runV (As := [.int (xs (7 * k + 1)), .int 1, .int (xs (7 * k + 3)), .int (xs (7 * k + 4)), .int (xs (7 * k + 5)), .int (xs (7 * k + 6))]) (rest := []) S (c_M_placeA l γ M μ σ ε hR (xs (7 * k + 1)) 1 (xs (7 * k + 3)) (xs (7 * k + 4)) (xs (7 * k + 5)) (xs (7 * k + 6)) hv) (m_cwV 6 S g774 g775 g776 g48 g777 rfl rfl ⟨by decide +kernel, by decide +kernel, by decide +kernel⟩ ⟨(Nat.le_of_ble_eq_true rfl), (Nat.le_of_ble_eq_true rfl)⟩) (hw.preV hR.1 cl_M.1) rfl rfl hl.1 rfl (lv_room (Nat.le_of_ble_eq_true rfl)) d_L_law_210 ⟨hrm.1, hrm.2⟩) (fun r2 M2 H locs hp hw => ?_)
      have hLS' := LSt.of (k := k + 1) hC hR ha hp hI.up hL hcp hcpl
      have hR2 := hp.1
      refine lv_istore S.1 S.2.1 d_L_law_213 hl (by decide) rfl (fun ls hl => ?_)
      have hl : lv_has ls 8 [(6, .int r2), (5, .int 1), (4, .int (nI (7 * k))), (3, .ref a), (2, .ref (rx μ)), (1, .ref (bx β)), (0, .ref b)] := hl
      refine lv_aload_n S.1 S.2.1 d_L_law_215 rfl (lv_at hl 4 rfl) ?_
      refine m_ci hw (va_runV (As := []) (rest := []) S (c_M_thrown l γ M2 μ σ (1, ε.2) hR2 ) (m_cwV 0 S g770 g771 g772 g48 g773 rfl rfl ⟨by decide +kernel, by decide +kernel, by decide +kernel⟩ ⟨(Nat.le_of_ble_eq_true rfl), (Nat.le_of_ble_eq_true rfl)⟩) (hw.preV hR2.1 cl_M.1) rfl rfl hl.1 rfl (lv_room (Nat.le_of_ble_eq_true rfl)) d_L_law_216 ⟨hrm.1, hrm.2⟩) (fun r3 M3 H locs hp hw => ?_)
      obtain ⟨rfl, hM3⟩ := hp
      rw [hM3] at hw
      refine lv_iload S.1 S.2.1 d_L_law_219 (lv_at hl 1 rfl) ?_
      refine lv_icmp_eq (tgt := 226) S.1 S.2.1 d_L_law_221 rfl (fun _ => ?_) (fun h => absurd (show (1 : Int32) = 1 from rfl) h)
      refine lv_iload S.1 S.2.1 d_L_law_226 (lv_at hl 1 rfl) ?_
      refine lv_if_ne (tgt := 243) S.1 S.2.1 d_L_law_228 rfl (fun _ => ?_) (fun h => absurd h (show ¬ (1 : Int32) = 0 by decide))
      refine lv_goto (tgt := 932) S.1 S.2.1 d_L_law_243 rfl ?_
      have hl := lv_sub hl [2, 3, 4, 5, 6] rfl
      exact kk M2 (stn σ) H locs ls _ _ hLS' (by omega) (by omega) hl hw
    · obtain ⟨hv1, hv2, hv3, hv4, hv5, hv6, hv7⟩ := place_in ((Bool.not_eq_false _).mp hv)
      by_cases hs9 : 250 ≤ sn σ ∨ sph σ = 2 ∨ ¬ (xs (7 * k + 6)) = 0 ∧ ¬ sph σ = 1
      · have hrm := room_ok (k := k + 1) (c := cells + 1) (s := slots + 6) hT0 (by omega) (by omega) (by omega)
        refine lv_aload_n S.1 S.2.1 d_L_law_112 rfl (lv_at hl 3 rfl) ?_
        refine lv_aload_n S.1 S.2.1 d_L_law_113 rfl (lv_at hl 4 rfl) ?_
        refine lv_iload S.1 S.2.1 d_L_law_114 (lv_at hl 0 rfl) ?_
        refine lv_iconst (v := 1) S.1 S.2.1 d_L_law_116 (by decide) ?_
        refine lv_iadd S.1 S.2.1 d_L_law_117 ?_
        refine m_scr (j := 7 * k + 1) S hX hbz hnn hw (nI_p (a := 7 * k) (b := 1)) (by omega) d_L_law_118 ?_
        refine lv_aload_n S.1 S.2.1 d_L_law_119 rfl (lv_at hl 4 rfl) ?_
        refine lv_iload S.1 S.2.1 d_L_law_120 (lv_at hl 0 rfl) ?_
        refine lv_iconst (v := 2) S.1 S.2.1 d_L_law_122 (by decide) ?_
        refine lv_iadd S.1 S.2.1 d_L_law_123 ?_
        refine m_scr (j := 7 * k + 2) S hX hbz hnn hw (nI_p (a := 7 * k) (b := 2)) (by omega) d_L_law_124 ?_
        refine lv_if_eq (tgt := 132) S.1 S.2.1 d_L_law_125 rfl (fun h => absurd h hz) (fun _ => ?_)
        refine lv_iconst (v := 1) S.1 S.2.1 d_L_law_128 (by decide) ?_
        refine lv_goto (tgt := 133) S.1 S.2.1 d_L_law_129 rfl ?_
        refine lv_aload_n S.1 S.2.1 d_L_law_133 rfl (lv_at hl 4 rfl) ?_
        refine lv_iload S.1 S.2.1 d_L_law_134 (lv_at hl 0 rfl) ?_
        refine lv_iconst (v := 3) S.1 S.2.1 d_L_law_136 (by decide) ?_
        refine lv_iadd S.1 S.2.1 d_L_law_137 ?_
        refine m_scr (j := 7 * k + 3) S hX hbz hnn hw (nI_p (a := 7 * k) (b := 3)) (by omega) d_L_law_138 ?_
        refine lv_aload_n S.1 S.2.1 d_L_law_139 rfl (lv_at hl 4 rfl) ?_
        refine lv_iload S.1 S.2.1 d_L_law_140 (lv_at hl 0 rfl) ?_
        refine lv_iconst (v := 4) S.1 S.2.1 d_L_law_142 (by decide) ?_
        refine lv_iadd S.1 S.2.1 d_L_law_143 ?_
        refine m_scr (j := 7 * k + 4) S hX hbz hnn hw (nI_p (a := 7 * k) (b := 4)) (by omega) d_L_law_144 ?_
        refine lv_aload_n S.1 S.2.1 d_L_law_145 rfl (lv_at hl 4 rfl) ?_
        refine lv_iload S.1 S.2.1 d_L_law_146 (lv_at hl 0 rfl) ?_
        refine lv_iconst (v := 5) S.1 S.2.1 d_L_law_148 (by decide) ?_
        refine lv_iadd S.1 S.2.1 d_L_law_149 ?_
        refine m_scr (j := 7 * k + 5) S hX hbz hnn hw (nI_p (a := 7 * k) (b := 5)) (by omega) d_L_law_150 ?_
        refine lv_aload_n S.1 S.2.1 d_L_law_151 rfl (lv_at hl 4 rfl) ?_
        refine lv_iload S.1 S.2.1 d_L_law_152 (lv_at hl 0 rfl) ?_
        refine lv_bipush (v := 6) S.1 S.2.1 d_L_law_154 (by decide) ?_
        refine lv_iadd S.1 S.2.1 d_L_law_156 ?_
        refine m_scr (j := 7 * k + 6) S hX hbz hnn hw (nI_p (a := 7 * k) (b := 6)) (by omega) d_L_law_157 ?_
        refine lv_aload_n S.1 S.2.1 d_L_law_158 rfl (lv_at hl 1 rfl) ?_
        refine m_ci hw (m_runSW (n := 8) (As := [.ref (bx β), .int (xs (7 * k + 1)), .int 1, .int (xs (7 * k + 3)), .int (xs (7 * k + 4)), .int (xs (7 * k + 5)), .int (xs (7 * k + 6)), .ref a]) (rest := []) S (h_placeS l hlT γ M β oa cp L σ hC a hn (xs (7 * k + 1)) 1 (xs (7 * k + 3)) (xs (7 * k + 4)) (xs (7 * k + 5)) (xs (7 * k + 6)) hv1 hv2 hv3 hv4 hv5 hv6 hv7 hs9) g274 g275 g40 g276 rfl rfl ⟨by decide +kernel, by decide +kernel, by decide +kernel⟩ ⟨(Nat.le_of_ble_eq_true rfl), (Nat.le_of_ble_eq_true rfl)⟩ (hw.preXS hx) rfl hl.1 (lv_room (Nat.le_of_ble_eq_true rfl)) d_L_law_159 ⟨hrm.1, hrm.2⟩ rfl) (fun r1 M1 H locs hp hw => ?_)
        obtain ⟨rfl, hM1⟩ := hp
        rw [hM1] at hw
        refine lv_istore S.1 S.2.1 d_L_law_162 hl (by decide) rfl (fun ls hl => ?_)
        have hl : lv_has ls 8 [(5, .int 2), (4, .int (nI (7 * k))), (3, .ref a), (2, .ref (rx μ)), (1, .ref (bx β)), (0, .ref b)] := hl
        refine lv_aload_n S.1 S.2.1 d_L_law_164 rfl (lv_at hl 3 rfl) ?_
        refine lv_aload_n S.1 S.2.1 d_L_law_165 rfl (lv_at hl 5 rfl) ?_
        refine lv_iload S.1 S.2.1 d_L_law_166 (lv_at hl 1 rfl) ?_
        refine lv_iconst (v := 1) S.1 S.2.1 d_L_law_168 (by decide) ?_
        refine lv_iadd S.1 S.2.1 d_L_law_169 ?_
        refine m_scr (j := 7 * k + 1) S hX hbz hnn hw (nI_p (a := 7 * k) (b := 1)) (by omega) d_L_law_170 ?_
        refine lv_aload_n S.1 S.2.1 d_L_law_171 rfl (lv_at hl 5 rfl) ?_
        refine lv_iload S.1 S.2.1 d_L_law_172 (lv_at hl 1 rfl) ?_
        refine lv_iconst (v := 2) S.1 S.2.1 d_L_law_174 (by decide) ?_
        refine lv_iadd S.1 S.2.1 d_L_law_175 ?_
        refine m_scr (j := 7 * k + 2) S hX hbz hnn hw (nI_p (a := 7 * k) (b := 2)) (by omega) d_L_law_176 ?_
        refine lv_if_eq (tgt := 184) S.1 S.2.1 d_L_law_177 rfl (fun h => absurd h hz) (fun _ => ?_)
        refine lv_iconst (v := 1) S.1 S.2.1 d_L_law_180 (by decide) ?_
        refine lv_goto (tgt := 185) S.1 S.2.1 d_L_law_181 rfl ?_
        refine lv_aload_n S.1 S.2.1 d_L_law_185 rfl (lv_at hl 5 rfl) ?_
        refine lv_iload S.1 S.2.1 d_L_law_186 (lv_at hl 1 rfl) ?_
        refine lv_iconst (v := 3) S.1 S.2.1 d_L_law_188 (by decide) ?_
        refine lv_iadd S.1 S.2.1 d_L_law_189 ?_
        refine m_scr (j := 7 * k + 3) S hX hbz hnn hw (nI_p (a := 7 * k) (b := 3)) (by omega) d_L_law_190 ?_
        refine lv_aload_n S.1 S.2.1 d_L_law_191 rfl (lv_at hl 5 rfl) ?_
        refine lv_iload S.1 S.2.1 d_L_law_192 (lv_at hl 1 rfl) ?_
        refine lv_iconst (v := 4) S.1 S.2.1 d_L_law_194 (by decide) ?_
        refine lv_iadd S.1 S.2.1 d_L_law_195 ?_
        refine m_scr (j := 7 * k + 4) S hX hbz hnn hw (nI_p (a := 7 * k) (b := 4)) (by omega) d_L_law_196 ?_
        refine lv_aload_n S.1 S.2.1 d_L_law_197 rfl (lv_at hl 5 rfl) ?_
        refine lv_iload S.1 S.2.1 d_L_law_198 (lv_at hl 1 rfl) ?_
        refine lv_iconst (v := 5) S.1 S.2.1 d_L_law_200 (by decide) ?_
        refine lv_iadd S.1 S.2.1 d_L_law_201 ?_
        refine m_scr (j := 7 * k + 5) S hX hbz hnn hw (nI_p (a := 7 * k) (b := 5)) (by omega) d_L_law_202 ?_
        refine lv_aload_n S.1 S.2.1 d_L_law_203 rfl (lv_at hl 5 rfl) ?_
        refine lv_iload S.1 S.2.1 d_L_law_204 (lv_at hl 1 rfl) ?_
        refine lv_bipush (v := 6) S.1 S.2.1 d_L_law_206 (by decide) ?_
        refine lv_iadd S.1 S.2.1 d_L_law_208 ?_
        refine m_scr (j := 7 * k + 6) S hX hbz hnn hw (nI_p (a := 7 * k) (b := 6)) (by omega) d_L_law_209 ?_
        refine m_ci hw (va_runV (As := [.int (xs (7 * k + 1)), .int 1, .int (xs (7 * k + 3)), .int (xs (7 * k + 4)), .int (xs (7 * k + 5)), .int (xs (7 * k + 6))]) (rest := []) S (c_M_placeS l γ M μ σ ε hR hn (xs (7 * k + 1)) 1 (xs (7 * k + 3)) (xs (7 * k + 4)) (xs (7 * k + 5)) (xs (7 * k + 6)) hv1 hv2 hv3 hv4 hv5 hv6 hv7 hs9) (m_cwV 6 S g774 g775 g776 g48 g777 rfl rfl ⟨by decide +kernel, by decide +kernel, by decide +kernel⟩ ⟨(Nat.le_of_ble_eq_true rfl), (Nat.le_of_ble_eq_true rfl)⟩) (hw.preV hR.1 cl_M.1) rfl rfl hl.1 rfl (lv_room (Nat.le_of_ble_eq_true rfl)) d_L_law_210 ⟨hrm.1, hrm.2⟩) (fun r2 M2 H locs hp hw => ?_)
        have hLS' := LSt.of (k := k + 1) hC hR ha hp hI.up hL hcp hcpl
        have hR2 := hp.1
        refine lv_istore S.1 S.2.1 d_L_law_213 hl (by decide) rfl (fun ls hl => ?_)
        have hl : lv_has ls 8 [(6, .int r2), (5, .int 2), (4, .int (nI (7 * k))), (3, .ref a), (2, .ref (rx μ)), (1, .ref (bx β)), (0, .ref b)] := hl
        refine lv_aload_n S.1 S.2.1 d_L_law_215 rfl (lv_at hl 4 rfl) ?_
        refine m_ci hw (va_runV (As := []) (rest := []) S (c_M_thrown l γ M2 μ σ (2, ε.2) hR2 ) (m_cwV 0 S g770 g771 g772 g48 g773 rfl rfl ⟨by decide +kernel, by decide +kernel, by decide +kernel⟩ ⟨(Nat.le_of_ble_eq_true rfl), (Nat.le_of_ble_eq_true rfl)⟩) (hw.preV hR2.1 cl_M.1) rfl rfl hl.1 rfl (lv_room (Nat.le_of_ble_eq_true rfl)) d_L_law_216 ⟨hrm.1, hrm.2⟩) (fun r3 M3 H locs hp hw => ?_)
        obtain ⟨rfl, hM3⟩ := hp
        rw [hM3] at hw
        refine lv_iload S.1 S.2.1 d_L_law_219 (lv_at hl 1 rfl) ?_
        refine lv_icmp_eq (tgt := 226) S.1 S.2.1 d_L_law_221 rfl (fun _ => ?_) (fun h => absurd (show (2 : Int32) = 2 from rfl) h)
        refine lv_iload S.1 S.2.1 d_L_law_226 (lv_at hl 1 rfl) ?_
        refine lv_if_ne (tgt := 243) S.1 S.2.1 d_L_law_228 rfl (fun _ => ?_) (fun h => absurd h (show ¬ (2 : Int32) = 0 by decide))
        refine lv_goto (tgt := 932) S.1 S.2.1 d_L_law_243 rfl ?_
        have hl := lv_sub hl [2, 3, 4, 5, 6] rfl
        exact kk M2 (stn σ) H locs ls _ _ hLS' (by omega) (by omega) hl hw
      · have hn2 : sn σ < 250 := by rcases Nat.lt_or_ge (sn σ) 250 with z | z; exact z; exact absurd (Or.inl z) hs9
        have hph : ¬ sph σ = 2 := fun z => hs9 (Or.inr (Or.inl z))
        have hte : (xs (7 * k + 6)) = 0 ∨ sph σ = 1 := by by_cases z : (xs (7 * k + 6)) = 0; exact Or.inl z; by_cases z2 : sph σ = 1; exact Or.inr z2; exact absurd (Or.inr (Or.inr ⟨z, z2⟩)) hs9
        obtain ⟨hI1n, hL1n, hT1, hrin⟩ := rin_place (w := (xs (7 * k + 1))) (b := 1) (p := (xs (7 * k + 3))) (q := (xs (7 * k + 4))) (k0 := (xs (7 * k + 5))) (f := (xs (7 * k + 6))) (g := (cgw (xNew σ (xs (7 * k + 1)) 1 (xs (7 * k + 3)) (xs (7 * k + 4)) (xs (7 * k + 5)) (xs (7 * k + 6))) (L (sj (opp 1))) (sn σ))) hI hL (by omega) (Or.inr rfl) hv2 hv3 hv4 hv5 hn2
        have hcg : cov (xNew σ (xs (7 * k + 1)) 1 (xs (7 * k + 3)) (xs (7 * k + 4)) (xs (7 * k + 5)) (xs (7 * k + 6))) (sn σ) = (cgw (xNew σ (xs (7 * k + 1)) 1 (xs (7 * k + 3)) (xs (7 * k + 4)) (xs (7 * k + 5)) (xs (7 * k + 6))) (L (sj (opp 1))) (sn σ)) := by have h9 := cov_cgw (σ := (xNew σ (xs (7 * k + 1)) 1 (xs (7 * k + 3)) (xs (7 * k + 4)) (xs (7 * k + 5)) (xs (7 * k + 6)))) (o := sn σ) hI1n hL1n (Nat.lt_succ_self _); rw [show sI (xNew σ (xs (7 * k + 1)) 1 (xs (7 * k + 3)) (xs (7 * k + 4)) (xs (7 * k + 5)) (xs (7 * k + 6))) 1 (sn σ) = 1 from new_n] at h9; exact h9
        have hmo : stn σ ≤ stn (xCome (cgw (xNew σ (xs (7 * k + 1)) 1 (xs (7 * k + 3)) (xs (7 * k + 4)) (xs (7 * k + 5)) (xs (7 * k + 6))) (L (sj (opp 1))) (sn σ)) (xNew σ (xs (7 * k + 1)) 1 (xs (7 * k + 3)) (xs (7 * k + 4)) (xs (7 * k + 5)) (xs (7 * k + 6))) (sn σ)) := come_tn (σ := (xNew σ (xs (7 * k + 1)) 1 (xs (7 * k + 3)) (xs (7 * k + 4)) (xs (7 * k + 5)) (xs (7 * k + 6))))
        obtain ⟨σ', hσ⟩ : ∃ z, xCome (cgw (xNew σ (xs (7 * k + 1)) 1 (xs (7 * k + 3)) (xs (7 * k + 4)) (xs (7 * k + 5)) (xs (7 * k + 6))) (L (sj (opp 1))) (sn σ)) (xNew σ (xs (7 * k + 1)) 1 (xs (7 * k + 3)) (xs (7 * k + 4)) (xs (7 * k + 5)) (xs (7 * k + 6))) (sn σ) = z := ⟨_, rfl⟩
        rw [hσ] at hT1 hrin hmo
        have hkC := kC_mono hmo
        have hkS := kS_mono hmo
        have hTZ := hI.2.2.2.2.2.1 (sn σ) (Nat.le_refl _)
        have hrm := room_ok (t := stn σ') (k := k + 1) (c := cells + (kC (stn σ') - kC (stn σ) + 3)) (s := slots + (kS (stn σ') - kS (stn σ) + 756)) (by omega) (by omega) (by omega) (by omega)
        refine lv_aload_n S.1 S.2.1 d_L_law_112 rfl (lv_at hl 3 rfl) ?_
        refine lv_aload_n S.1 S.2.1 d_L_law_113 rfl (lv_at hl 4 rfl) ?_
        refine lv_iload S.1 S.2.1 d_L_law_114 (lv_at hl 0 rfl) ?_
        refine lv_iconst (v := 1) S.1 S.2.1 d_L_law_116 (by decide) ?_
        refine lv_iadd S.1 S.2.1 d_L_law_117 ?_
        refine m_scr (j := 7 * k + 1) S hX hbz hnn hw (nI_p (a := 7 * k) (b := 1)) (by omega) d_L_law_118 ?_
        refine lv_aload_n S.1 S.2.1 d_L_law_119 rfl (lv_at hl 4 rfl) ?_
        refine lv_iload S.1 S.2.1 d_L_law_120 (lv_at hl 0 rfl) ?_
        refine lv_iconst (v := 2) S.1 S.2.1 d_L_law_122 (by decide) ?_
        refine lv_iadd S.1 S.2.1 d_L_law_123 ?_
        refine m_scr (j := 7 * k + 2) S hX hbz hnn hw (nI_p (a := 7 * k) (b := 2)) (by omega) d_L_law_124 ?_
        refine lv_if_eq (tgt := 132) S.1 S.2.1 d_L_law_125 rfl (fun h => absurd h hz) (fun _ => ?_)
        refine lv_iconst (v := 1) S.1 S.2.1 d_L_law_128 (by decide) ?_
        refine lv_goto (tgt := 133) S.1 S.2.1 d_L_law_129 rfl ?_
        refine lv_aload_n S.1 S.2.1 d_L_law_133 rfl (lv_at hl 4 rfl) ?_
        refine lv_iload S.1 S.2.1 d_L_law_134 (lv_at hl 0 rfl) ?_
        refine lv_iconst (v := 3) S.1 S.2.1 d_L_law_136 (by decide) ?_
        refine lv_iadd S.1 S.2.1 d_L_law_137 ?_
        refine m_scr (j := 7 * k + 3) S hX hbz hnn hw (nI_p (a := 7 * k) (b := 3)) (by omega) d_L_law_138 ?_
        refine lv_aload_n S.1 S.2.1 d_L_law_139 rfl (lv_at hl 4 rfl) ?_
        refine lv_iload S.1 S.2.1 d_L_law_140 (lv_at hl 0 rfl) ?_
        refine lv_iconst (v := 4) S.1 S.2.1 d_L_law_142 (by decide) ?_
        refine lv_iadd S.1 S.2.1 d_L_law_143 ?_
        refine m_scr (j := 7 * k + 4) S hX hbz hnn hw (nI_p (a := 7 * k) (b := 4)) (by omega) d_L_law_144 ?_
        refine lv_aload_n S.1 S.2.1 d_L_law_145 rfl (lv_at hl 4 rfl) ?_
        refine lv_iload S.1 S.2.1 d_L_law_146 (lv_at hl 0 rfl) ?_
        refine lv_iconst (v := 5) S.1 S.2.1 d_L_law_148 (by decide) ?_
        refine lv_iadd S.1 S.2.1 d_L_law_149 ?_
        refine m_scr (j := 7 * k + 5) S hX hbz hnn hw (nI_p (a := 7 * k) (b := 5)) (by omega) d_L_law_150 ?_
        refine lv_aload_n S.1 S.2.1 d_L_law_151 rfl (lv_at hl 4 rfl) ?_
        refine lv_iload S.1 S.2.1 d_L_law_152 (lv_at hl 0 rfl) ?_
        refine lv_bipush (v := 6) S.1 S.2.1 d_L_law_154 (by decide) ?_
        refine lv_iadd S.1 S.2.1 d_L_law_156 ?_
        refine m_scr (j := 7 * k + 6) S hX hbz hnn hw (nI_p (a := 7 * k) (b := 6)) (by omega) d_L_law_157 ?_
        refine lv_aload_n S.1 S.2.1 d_L_law_158 rfl (lv_at hl 1 rfl) ?_
        refine m_ci hw (m_runSW (n := 8) (As := [.ref (bx β), .int (xs (7 * k + 1)), .int 1, .int (xs (7 * k + 3)), .int (xs (7 * k + 4)), .int (xs (7 * k + 5)), .int (xs (7 * k + 6)), .ref a]) (rest := []) S (h_place l γ M β oa cp L σ hC a f ha hI0 hL (xs (7 * k + 1)) 1 (xs (7 * k + 3)) (xs (7 * k + 4)) (xs (7 * k + 5)) (xs (7 * k + 6)) (Or.inr rfl) hv1 hv2 hv3 hv4 hv5 hv6 hv7 hn2 hph hte hcp hcpl σ' hσ (by omega) hrk0) g274 g275 g40 g276 rfl rfl ⟨by decide +kernel, by decide +kernel, by decide +kernel⟩ ⟨(Nat.le_of_ble_eq_true rfl), (Nat.le_of_ble_eq_true rfl)⟩ (hw.preXS hx) rfl hl.1 (lv_room (Nat.le_of_ble_eq_true rfl)) d_L_law_159 ⟨hrm.1, hrm.2⟩ rfl) (fun r1 M1 H locs hp hw => ?_)
        obtain ⟨rfl, M9, hp, hM1⟩ := hp
        obtain ⟨oa1, L1, cp1, hC1, hI1, hL1, hcp1, hcpl1, hf1, hsn1, hrk1⟩ := hp
        have ha9 : M9 a = some (ouc γ f) := hf1.out ha
        have hC9 : CB γ M1 β oa1 cp1 L1 σ' := by rw [hM1]; exact CB.frB hC1 (frB.out ha9)
        have ha1 : M1 a = some (ouc γ (vp_updL f 0 ((nI (sn σ)).toInt64))) := by rw [hM1]; exact mU_eq _ _ _
        have hR1 : RM γ M1 μ σ ε := hR.fr ha (by rw [hM1]; exact frL.c hf1)
        refine lv_istore S.1 S.2.1 d_L_law_162 hl (by decide) rfl (fun ls hl => ?_)
        have hl : lv_has ls 8 [(5, .int 0), (4, .int (nI (7 * k))), (3, .ref a), (2, .ref (rx μ)), (1, .ref (bx β)), (0, .ref b)] := hl
        refine lv_aload_n S.1 S.2.1 d_L_law_164 rfl (lv_at hl 3 rfl) ?_
        refine lv_aload_n S.1 S.2.1 d_L_law_165 rfl (lv_at hl 5 rfl) ?_
        refine lv_iload S.1 S.2.1 d_L_law_166 (lv_at hl 1 rfl) ?_
        refine lv_iconst (v := 1) S.1 S.2.1 d_L_law_168 (by decide) ?_
        refine lv_iadd S.1 S.2.1 d_L_law_169 ?_
        refine m_scr (j := 7 * k + 1) S hX hbz hnn hw (nI_p (a := 7 * k) (b := 1)) (by omega) d_L_law_170 ?_
        refine lv_aload_n S.1 S.2.1 d_L_law_171 rfl (lv_at hl 5 rfl) ?_
        refine lv_iload S.1 S.2.1 d_L_law_172 (lv_at hl 1 rfl) ?_
        refine lv_iconst (v := 2) S.1 S.2.1 d_L_law_174 (by decide) ?_
        refine lv_iadd S.1 S.2.1 d_L_law_175 ?_
        refine m_scr (j := 7 * k + 2) S hX hbz hnn hw (nI_p (a := 7 * k) (b := 2)) (by omega) d_L_law_176 ?_
        refine lv_if_eq (tgt := 184) S.1 S.2.1 d_L_law_177 rfl (fun h => absurd h hz) (fun _ => ?_)
        refine lv_iconst (v := 1) S.1 S.2.1 d_L_law_180 (by decide) ?_
        refine lv_goto (tgt := 185) S.1 S.2.1 d_L_law_181 rfl ?_
        refine lv_aload_n S.1 S.2.1 d_L_law_185 rfl (lv_at hl 5 rfl) ?_
        refine lv_iload S.1 S.2.1 d_L_law_186 (lv_at hl 1 rfl) ?_
        refine lv_iconst (v := 3) S.1 S.2.1 d_L_law_188 (by decide) ?_
        refine lv_iadd S.1 S.2.1 d_L_law_189 ?_
        refine m_scr (j := 7 * k + 3) S hX hbz hnn hw (nI_p (a := 7 * k) (b := 3)) (by omega) d_L_law_190 ?_
        refine lv_aload_n S.1 S.2.1 d_L_law_191 rfl (lv_at hl 5 rfl) ?_
        refine lv_iload S.1 S.2.1 d_L_law_192 (lv_at hl 1 rfl) ?_
        refine lv_iconst (v := 4) S.1 S.2.1 d_L_law_194 (by decide) ?_
        refine lv_iadd S.1 S.2.1 d_L_law_195 ?_
        refine m_scr (j := 7 * k + 4) S hX hbz hnn hw (nI_p (a := 7 * k) (b := 4)) (by omega) d_L_law_196 ?_
        refine lv_aload_n S.1 S.2.1 d_L_law_197 rfl (lv_at hl 5 rfl) ?_
        refine lv_iload S.1 S.2.1 d_L_law_198 (lv_at hl 1 rfl) ?_
        refine lv_iconst (v := 5) S.1 S.2.1 d_L_law_200 (by decide) ?_
        refine lv_iadd S.1 S.2.1 d_L_law_201 ?_
        refine m_scr (j := 7 * k + 5) S hX hbz hnn hw (nI_p (a := 7 * k) (b := 5)) (by omega) d_L_law_202 ?_
        refine lv_aload_n S.1 S.2.1 d_L_law_203 rfl (lv_at hl 5 rfl) ?_
        refine lv_iload S.1 S.2.1 d_L_law_204 (lv_at hl 1 rfl) ?_
        refine lv_bipush (v := 6) S.1 S.2.1 d_L_law_206 (by decide) ?_
        refine lv_iadd S.1 S.2.1 d_L_law_208 ?_
        refine m_scr (j := 7 * k + 6) S hX hbz hnn hw (nI_p (a := 7 * k) (b := 6)) (by omega) d_L_law_209 ?_
        refine m_ci hw (va_runV (As := [.int (xs (7 * k + 1)), .int 1, .int (xs (7 * k + 3)), .int (xs (7 * k + 4)), .int (xs (7 * k + 5)), .int (xs (7 * k + 6))]) (rest := []) S (c_M_place l γ M1 μ σ ε hR1 (xs (7 * k + 1)) 1 (xs (7 * k + 3)) (xs (7 * k + 4)) (xs (7 * k + 5)) (xs (7 * k + 6)) (Or.inr rfl) hv1 hv2 hv3 hv4 hv5 hv6 hv7 L hI1n hL1n hI.2.1 hn2 hph hte hTZ.1 hTZ.2 hrk0 σ' (by rw [hcg]; exact hσ) (by omega)) (m_cwV 6 S g774 g775 g776 g48 g777 rfl rfl ⟨by decide +kernel, by decide +kernel, by decide +kernel⟩ ⟨(Nat.le_of_ble_eq_true rfl), (Nat.le_of_ble_eq_true rfl)⟩) (hw.preV hR1.1 cl_M.1) rfl rfl hl.1 rfl (lv_room (Nat.le_of_ble_eq_true rfl)) d_L_law_210 ⟨hrm.1, hrm.2⟩) (fun r2 M2 H locs hp hw => ?_)
        obtain ⟨rfl, hq⟩ := hp
        have hLS' := LSt.of (k := k + 1) hC9 hR1 ha1 hq (hrin hrk1 hI1) hL1 hcp1 hcpl1
        have ha2 := hq.2.out hR1 ha1
        have hR2 := hq.1
        refine lv_istore S.1 S.2.1 d_L_law_213 hl (by decide) rfl (fun ls hl => ?_)
        have hl : lv_has ls 8 [(6, .int (nI (sn σ))), (5, .int 0), (4, .int (nI (7 * k))), (3, .ref a), (2, .ref (rx μ)), (1, .ref (bx β)), (0, .ref b)] := hl
        refine lv_aload_n S.1 S.2.1 d_L_law_215 rfl (lv_at hl 4 rfl) ?_
        refine m_ci hw (va_runV (As := []) (rest := []) S (c_M_thrown l γ M2 μ σ' (0, ε.2) hR2 ) (m_cwV 0 S g770 g771 g772 g48 g773 rfl rfl ⟨by decide +kernel, by decide +kernel, by decide +kernel⟩ ⟨(Nat.le_of_ble_eq_true rfl), (Nat.le_of_ble_eq_true rfl)⟩) (hw.preV hR2.1 cl_M.1) rfl rfl hl.1 rfl (lv_room (Nat.le_of_ble_eq_true rfl)) d_L_law_216 ⟨hrm.1, hrm.2⟩) (fun r3 M3 H locs hp hw => ?_)
        obtain ⟨rfl, hM3⟩ := hp
        rw [hM3] at hw
        refine lv_iload S.1 S.2.1 d_L_law_219 (lv_at hl 1 rfl) ?_
        refine lv_icmp_eq (tgt := 226) S.1 S.2.1 d_L_law_221 rfl (fun _ => ?_) (fun h => absurd (show (0 : Int32) = 0 from rfl) h)
        refine lv_iload S.1 S.2.1 d_L_law_226 (lv_at hl 1 rfl) ?_
        refine lv_if_ne (tgt := 243) S.1 S.2.1 d_L_law_228 rfl (fun h => absurd (show (0 : Int32) = 0 by decide) h) (fun _ => ?_)
        refine lv_aload_n S.1 S.2.1 d_L_law_231 rfl (lv_at hl 3 rfl) ?_
        refine lv_iconst (v := 0) S.1 S.2.1 d_L_law_232 (by decide) ?_
        refine m_lald (f := vp_updL f 0 ((nI (sn σ)).toInt64)) S hw ha2 (by unfold vp_in; decide) d_L_law_233 ?_
        refine W.eq (g2 := F0 m 234 ls [.long ((nI (sn σ)).toInt64)]) (congrArg (fun z => F0 m 234 ls [.long z]) (show (vp_updL f 0 ((nI (sn σ)).toInt64)) (0 : Int32).toNatClampNeg = (nI (sn σ)).toInt64 from rfl)) ?_
        refine lv_iload S.1 S.2.1 d_L_law_234 (lv_at hl 0 rfl) ?_
        refine lv_i2l S.1 S.2.1 d_L_law_236 rfl ?_
        refine W.lcmp S.1 S.2.1 d_L_law_237 ?_
        refine lv_if_eq (tgt := 243) S.1 S.2.1 d_L_law_238 rfl (fun _ => ?_) (fun h => absurd ((lg_cmp_eq _ _).mpr rfl) h)
        refine lv_goto (tgt := 932) S.1 S.2.1 d_L_law_243 rfl ?_
        have hl := lv_sub hl [2, 3, 4, 5, 6] rfl
        exact kk M2 (stn σ') H locs ls _ _ hLS' (by omega) (by omega) hl hw
set_option maxHeartbeats 4000000 in
set_option maxRecDepth 100000 in
theorem k_amend {γ : mG} {p : Program} {l : Launch} {e : Env} {s : State} {m : MethodId} {below : List Frame} {meth : Method} {c : Code} {b n : Nat} {xs : Nat → Int32} {β : BK} {μ : RK} {a k t : Nat} {M : mMap} {H : Heap} {locs : List Loc} {ls : Array Slot} {cells slots : Nat} (hlT : xTr l) (C : LX γ p s m c b n xs) (hk : 7 * k + 7 ≤ n) (hLS : LSt γ M β μ a k t) (hc : cells ≤ 100 + kC t + 3 * k) (hs : slots ≤ 127000 + kS t + 756 * k) (hl : lv_has ls 8 [(4, .int (nI (7 * k))), (3, .ref a), (2, .ref (rx μ)), (1, .ref (bx β)), (0, .ref b)]) (hw : mW γ M s H locs) (kk : Kon γ p l e s m below meth c b β μ a k) : W p l e room_1 s m #[.ref b] below meth c H locs cells slots (lw_Z below #[.ref b] s) (F0 m 358 ls []) := by
  obtain ⟨S, hx, hX, hbz, hnn⟩ := C
  obtain ⟨oa, cp, L, σ, ε, f, hC, hR, ha, hI, hL, hcp, hcpl, rfl⟩ := hLS
  have hk1 : k + 1 ≤ 512 := by omega
  obtain ⟨hT0, hrk0⟩ := hI.t (by omega)
  have hI0 := hI.1
  have hn := hI0.1
  have hO := hI0.2.1
  by_cases hj : ∃ o, o < sn σ ∧ (xs (7 * k + 1)) = nI o
  · obtain ⟨o, ho, ej⟩ := hj
    by_cases hv : (rg 0 2000 (xs (7 * k + 2)) && rg 1 100000 (xs (7 * k + 3)) && fpk (xs (7 * k + 3)) (sI σ 8 o)) = false
    · have hrm := room_ok (k := k + 1) (c := cells + 1) (s := slots + 6) hT0 (by omega) (by omega) (by omega)
      refine lv_aload_n S.1 S.2.1 d_L_law_358 rfl (lv_at hl 3 rfl) ?_
      refine lv_aload_n S.1 S.2.1 d_L_law_359 rfl (lv_at hl 4 rfl) ?_
      refine lv_iload S.1 S.2.1 d_L_law_360 (lv_at hl 0 rfl) ?_
      refine lv_iconst (v := 1) S.1 S.2.1 d_L_law_362 (by decide) ?_
      refine lv_iadd S.1 S.2.1 d_L_law_363 ?_
      refine m_scr (j := 7 * k + 1) S hX hbz hnn hw (nI_p (a := 7 * k) (b := 1)) (by omega) d_L_law_364 ?_
      refine W.eq (g2 := F0 m 365 ls [.int (nI o), .ref (bx β)]) (congrArg (fun z => F0 m 365 ls [.int z, .ref (bx β)]) ej) ?_
      refine lv_aload_n S.1 S.2.1 d_L_law_365 rfl (lv_at hl 4 rfl) ?_
      refine lv_iload S.1 S.2.1 d_L_law_366 (lv_at hl 0 rfl) ?_
      refine lv_iconst (v := 2) S.1 S.2.1 d_L_law_368 (by decide) ?_
      refine lv_iadd S.1 S.2.1 d_L_law_369 ?_
      refine m_scr (j := 7 * k + 2) S hX hbz hnn hw (nI_p (a := 7 * k) (b := 2)) (by omega) d_L_law_370 ?_
      refine lv_aload_n S.1 S.2.1 d_L_law_371 rfl (lv_at hl 4 rfl) ?_
      refine lv_iload S.1 S.2.1 d_L_law_372 (lv_at hl 0 rfl) ?_
      refine lv_iconst (v := 3) S.1 S.2.1 d_L_law_374 (by decide) ?_
      refine lv_iadd S.1 S.2.1 d_L_law_375 ?_
      refine m_scr (j := 7 * k + 3) S hX hbz hnn hw (nI_p (a := 7 * k) (b := 3)) (by omega) d_L_law_376 ?_
      refine lv_aload_n S.1 S.2.1 d_L_law_377 rfl (lv_at hl 1 rfl) ?_
      refine m_ci hw (m_runSW (n := 5) (As := [.ref (bx β), .int (nI o), .int (xs (7 * k + 2)), .int (xs (7 * k + 3)), .ref a]) (rest := []) S (h_amendA l hlT γ M β oa cp L σ hC a hn o ho (xs (7 * k + 2)) (xs (7 * k + 3)) hv) g597 g598 g40 g599 rfl rfl ⟨by decide +kernel, by decide +kernel, by decide +kernel⟩ ⟨(Nat.le_of_ble_eq_true rfl), (Nat.le_of_ble_eq_true rfl)⟩ (hw.preXS hx) rfl hl.1 (lv_room (Nat.le_of_ble_eq_true rfl)) d_L_law_378 ⟨hrm.1, hrm.2⟩ rfl) (fun r1 M1 H locs hp hw => ?_)
      obtain ⟨rfl, hM1⟩ := hp
      rw [hM1] at hw
      refine lv_istore S.1 S.2.1 d_L_law_381 hl (by decide) rfl (fun ls hl => ?_)
      have hl : lv_has ls 8 [(5, .int 1), (4, .int (nI (7 * k))), (3, .ref a), (2, .ref (rx μ)), (1, .ref (bx β)), (0, .ref b)] := hl
      refine lv_aload_n S.1 S.2.1 d_L_law_383 rfl (lv_at hl 3 rfl) ?_
      refine lv_aload_n S.1 S.2.1 d_L_law_384 rfl (lv_at hl 5 rfl) ?_
      refine lv_iload S.1 S.2.1 d_L_law_385 (lv_at hl 1 rfl) ?_
      refine lv_iconst (v := 1) S.1 S.2.1 d_L_law_387 (by decide) ?_
      refine lv_iadd S.1 S.2.1 d_L_law_388 ?_
      refine m_scr (j := 7 * k + 1) S hX hbz hnn hw (nI_p (a := 7 * k) (b := 1)) (by omega) d_L_law_389 ?_
      refine W.eq (g2 := F0 m 390 ls [.int (nI o), .ref (rx μ)]) (congrArg (fun z => F0 m 390 ls [.int z, .ref (rx μ)]) ej) ?_
      refine lv_aload_n S.1 S.2.1 d_L_law_390 rfl (lv_at hl 5 rfl) ?_
      refine lv_iload S.1 S.2.1 d_L_law_391 (lv_at hl 1 rfl) ?_
      refine lv_iconst (v := 2) S.1 S.2.1 d_L_law_393 (by decide) ?_
      refine lv_iadd S.1 S.2.1 d_L_law_394 ?_
      refine m_scr (j := 7 * k + 2) S hX hbz hnn hw (nI_p (a := 7 * k) (b := 2)) (by omega) d_L_law_395 ?_
      refine lv_aload_n S.1 S.2.1 d_L_law_396 rfl (lv_at hl 5 rfl) ?_
      refine lv_iload S.1 S.2.1 d_L_law_397 (lv_at hl 1 rfl) ?_
      refine lv_iconst (v := 3) S.1 S.2.1 d_L_law_399 (by decide) ?_
      refine lv_iadd S.1 S.2.1 d_L_law_400 ?_
      refine m_scr (j := 7 * k + 3) S hX hbz hnn hw (nI_p (a := 7 * k) (b := 3)) (by omega) d_L_law_401 ?_
      refine m_ci hw (va_runV (As := [.int (nI o), .int (xs (7 * k + 2)), .int (xs (7 * k + 3))]) (rest := []) S (c_M_amendA l γ M μ σ ε hR hn o ho (xs (7 * k + 2)) (xs (7 * k + 3)) hv) (m_cwV 3 S g852 g853 g854 g48 g855 rfl rfl ⟨by decide +kernel, by decide +kernel, by decide +kernel⟩ ⟨(Nat.le_of_ble_eq_true rfl), (Nat.le_of_ble_eq_true rfl)⟩) (hw.preV hR.1 cl_M.1) rfl rfl hl.1 rfl (lv_room (Nat.le_of_ble_eq_true rfl)) d_L_law_402 ⟨hrm.1, hrm.2⟩) (fun r2 M2 H locs hp hw => ?_)
      have hLS' := LSt.of (k := k + 1) hC hR ha hp hI.up hL hcp hcpl
      have hR2 := hp.1
      refine lv_istore S.1 S.2.1 d_L_law_405 hl (by decide) rfl (fun ls hl => ?_)
      have hl : lv_has ls 8 [(6, .int r2), (5, .int 1), (4, .int (nI (7 * k))), (3, .ref a), (2, .ref (rx μ)), (1, .ref (bx β)), (0, .ref b)] := hl
      refine lv_aload_n S.1 S.2.1 d_L_law_407 rfl (lv_at hl 4 rfl) ?_
      refine m_ci hw (va_runV (As := []) (rest := []) S (c_M_thrown l γ M2 μ σ (1, ε.2) hR2 ) (m_cwV 0 S g770 g771 g772 g48 g773 rfl rfl ⟨by decide +kernel, by decide +kernel, by decide +kernel⟩ ⟨(Nat.le_of_ble_eq_true rfl), (Nat.le_of_ble_eq_true rfl)⟩) (hw.preV hR2.1 cl_M.1) rfl rfl hl.1 rfl (lv_room (Nat.le_of_ble_eq_true rfl)) d_L_law_408 ⟨hrm.1, hrm.2⟩) (fun r3 M3 H locs hp hw => ?_)
      obtain ⟨rfl, hM3⟩ := hp
      rw [hM3] at hw
      refine lv_iload S.1 S.2.1 d_L_law_411 (lv_at hl 1 rfl) ?_
      refine lv_icmp_eq (tgt := 418) S.1 S.2.1 d_L_law_413 rfl (fun _ => ?_) (fun h => absurd (show (1 : Int32) = 1 from rfl) h)
      refine lv_iload S.1 S.2.1 d_L_law_418 (lv_at hl 1 rfl) ?_
      refine lv_if_ne (tgt := 442) S.1 S.2.1 d_L_law_420 rfl (fun _ => ?_) (fun h => absurd h (show ¬ (1 : Int32) = 0 by decide))
      refine lv_goto (tgt := 932) S.1 S.2.1 d_L_law_442 rfl ?_
      have hl := lv_sub hl [2, 3, 4, 5, 6] rfl
      exact kk M2 (stn σ) H locs ls _ _ hLS' (by omega) (by omega) hl hw
    · obtain ⟨hv1, hv2, hv3⟩ := amend_in ((Bool.not_eq_false _).mp hv)
      by_cases hs9 : sI σ 5 o = -1 ∨ sph σ = 2
      · have hrm := room_ok (k := k + 1) (c := cells + 1) (s := slots + 6) hT0 (by omega) (by omega) (by omega)
        refine lv_aload_n S.1 S.2.1 d_L_law_358 rfl (lv_at hl 3 rfl) ?_
        refine lv_aload_n S.1 S.2.1 d_L_law_359 rfl (lv_at hl 4 rfl) ?_
        refine lv_iload S.1 S.2.1 d_L_law_360 (lv_at hl 0 rfl) ?_
        refine lv_iconst (v := 1) S.1 S.2.1 d_L_law_362 (by decide) ?_
        refine lv_iadd S.1 S.2.1 d_L_law_363 ?_
        refine m_scr (j := 7 * k + 1) S hX hbz hnn hw (nI_p (a := 7 * k) (b := 1)) (by omega) d_L_law_364 ?_
        refine W.eq (g2 := F0 m 365 ls [.int (nI o), .ref (bx β)]) (congrArg (fun z => F0 m 365 ls [.int z, .ref (bx β)]) ej) ?_
        refine lv_aload_n S.1 S.2.1 d_L_law_365 rfl (lv_at hl 4 rfl) ?_
        refine lv_iload S.1 S.2.1 d_L_law_366 (lv_at hl 0 rfl) ?_
        refine lv_iconst (v := 2) S.1 S.2.1 d_L_law_368 (by decide) ?_
        refine lv_iadd S.1 S.2.1 d_L_law_369 ?_
        refine m_scr (j := 7 * k + 2) S hX hbz hnn hw (nI_p (a := 7 * k) (b := 2)) (by omega) d_L_law_370 ?_
        refine lv_aload_n S.1 S.2.1 d_L_law_371 rfl (lv_at hl 4 rfl) ?_
        refine lv_iload S.1 S.2.1 d_L_law_372 (lv_at hl 0 rfl) ?_
        refine lv_iconst (v := 3) S.1 S.2.1 d_L_law_374 (by decide) ?_
        refine lv_iadd S.1 S.2.1 d_L_law_375 ?_
        refine m_scr (j := 7 * k + 3) S hX hbz hnn hw (nI_p (a := 7 * k) (b := 3)) (by omega) d_L_law_376 ?_
        refine lv_aload_n S.1 S.2.1 d_L_law_377 rfl (lv_at hl 1 rfl) ?_
        refine m_ci hw (m_runSW (n := 5) (As := [.ref (bx β), .int (nI o), .int (xs (7 * k + 2)), .int (xs (7 * k + 3)), .ref a]) (rest := []) S (h_amendS l hlT γ M β oa cp L σ hC a hn o ho (xs (7 * k + 2)) (xs (7 * k + 3)) hv1 hv2 hv3 hs9) g597 g598 g40 g599 rfl rfl ⟨by decide +kernel, by decide +kernel, by decide +kernel⟩ ⟨(Nat.le_of_ble_eq_true rfl), (Nat.le_of_ble_eq_true rfl)⟩ (hw.preXS hx) rfl hl.1 (lv_room (Nat.le_of_ble_eq_true rfl)) d_L_law_378 ⟨hrm.1, hrm.2⟩ rfl) (fun r1 M1 H locs hp hw => ?_)
        obtain ⟨rfl, hM1⟩ := hp
        rw [hM1] at hw
        refine lv_istore S.1 S.2.1 d_L_law_381 hl (by decide) rfl (fun ls hl => ?_)
        have hl : lv_has ls 8 [(5, .int 2), (4, .int (nI (7 * k))), (3, .ref a), (2, .ref (rx μ)), (1, .ref (bx β)), (0, .ref b)] := hl
        refine lv_aload_n S.1 S.2.1 d_L_law_383 rfl (lv_at hl 3 rfl) ?_
        refine lv_aload_n S.1 S.2.1 d_L_law_384 rfl (lv_at hl 5 rfl) ?_
        refine lv_iload S.1 S.2.1 d_L_law_385 (lv_at hl 1 rfl) ?_
        refine lv_iconst (v := 1) S.1 S.2.1 d_L_law_387 (by decide) ?_
        refine lv_iadd S.1 S.2.1 d_L_law_388 ?_
        refine m_scr (j := 7 * k + 1) S hX hbz hnn hw (nI_p (a := 7 * k) (b := 1)) (by omega) d_L_law_389 ?_
        refine W.eq (g2 := F0 m 390 ls [.int (nI o), .ref (rx μ)]) (congrArg (fun z => F0 m 390 ls [.int z, .ref (rx μ)]) ej) ?_
        refine lv_aload_n S.1 S.2.1 d_L_law_390 rfl (lv_at hl 5 rfl) ?_
        refine lv_iload S.1 S.2.1 d_L_law_391 (lv_at hl 1 rfl) ?_
        refine lv_iconst (v := 2) S.1 S.2.1 d_L_law_393 (by decide) ?_
        refine lv_iadd S.1 S.2.1 d_L_law_394 ?_
        refine m_scr (j := 7 * k + 2) S hX hbz hnn hw (nI_p (a := 7 * k) (b := 2)) (by omega) d_L_law_395 ?_
        refine lv_aload_n S.1 S.2.1 d_L_law_396 rfl (lv_at hl 5 rfl) ?_
        refine lv_iload S.1 S.2.1 d_L_law_397 (lv_at hl 1 rfl) ?_
        refine lv_iconst (v := 3) S.1 S.2.1 d_L_law_399 (by decide) ?_
        refine lv_iadd S.1 S.2.1 d_L_law_400 ?_
        refine m_scr (j := 7 * k + 3) S hX hbz hnn hw (nI_p (a := 7 * k) (b := 3)) (by omega) d_L_law_401 ?_
        refine m_ci hw (va_runV (As := [.int (nI o), .int (xs (7 * k + 2)), .int (xs (7 * k + 3))]) (rest := []) S (c_M_amendS l γ M μ σ ε hR hn o ho (xs (7 * k + 2)) (xs (7 * k + 3)) hv1 hv2 hv3 hs9) (m_cwV 3 S g852 g853 g854 g48 g855 rfl rfl ⟨by decide +kernel, by decide +kernel, by decide +kernel⟩ ⟨(Nat.le_of_ble_eq_true rfl), (Nat.le_of_ble_eq_true rfl)⟩) (hw.preV hR.1 cl_M.1) rfl rfl hl.1 rfl (lv_room (Nat.le_of_ble_eq_true rfl)) d_L_law_402 ⟨hrm.1, hrm.2⟩) (fun r2 M2 H locs hp hw => ?_)
        have hLS' := LSt.of (k := k + 1) hC hR ha hp hI.up hL hcp hcpl
        have hR2 := hp.1
        refine lv_istore S.1 S.2.1 d_L_law_405 hl (by decide) rfl (fun ls hl => ?_)
        have hl : lv_has ls 8 [(6, .int r2), (5, .int 2), (4, .int (nI (7 * k))), (3, .ref a), (2, .ref (rx μ)), (1, .ref (bx β)), (0, .ref b)] := hl
        refine lv_aload_n S.1 S.2.1 d_L_law_407 rfl (lv_at hl 4 rfl) ?_
        refine m_ci hw (va_runV (As := []) (rest := []) S (c_M_thrown l γ M2 μ σ (2, ε.2) hR2 ) (m_cwV 0 S g770 g771 g772 g48 g773 rfl rfl ⟨by decide +kernel, by decide +kernel, by decide +kernel⟩ ⟨(Nat.le_of_ble_eq_true rfl), (Nat.le_of_ble_eq_true rfl)⟩) (hw.preV hR2.1 cl_M.1) rfl rfl hl.1 rfl (lv_room (Nat.le_of_ble_eq_true rfl)) d_L_law_408 ⟨hrm.1, hrm.2⟩) (fun r3 M3 H locs hp hw => ?_)
        obtain ⟨rfl, hM3⟩ := hp
        rw [hM3] at hw
        refine lv_iload S.1 S.2.1 d_L_law_411 (lv_at hl 1 rfl) ?_
        refine lv_icmp_eq (tgt := 418) S.1 S.2.1 d_L_law_413 rfl (fun _ => ?_) (fun h => absurd (show (2 : Int32) = 2 from rfl) h)
        refine lv_iload S.1 S.2.1 d_L_law_418 (lv_at hl 1 rfl) ?_
        refine lv_if_ne (tgt := 442) S.1 S.2.1 d_L_law_420 rfl (fun _ => ?_) (fun h => absurd h (show ¬ (2 : Int32) = 0 by decide))
        refine lv_goto (tgt := 932) S.1 S.2.1 d_L_law_442 rfl ?_
        have hl := lv_sub hl [2, 3, 4, 5, 6] rfl
        exact kk M2 (stn σ) H locs ls _ _ hLS' (by omega) (by omega) hl hw
      · have hr5 : ¬ sI σ 5 o = -1 := fun z => hs9 (Or.inl z)
        have hph : ¬ sph σ = 2 := fun z => hs9 (Or.inr z)
        have hrs := rs_t hI0 ho hr5
        have hq0 := rg_i hv2
        rw [i_1, show (100000 : Int32).toInt = 100000 by decide] at hq0
        have hp0 := rg_i hv1
        rw [i0, show (2000 : Int32).toInt = 2000 by decide] at hp0
        by_cases hlo : (xs (7 * k + 2)) = sI σ 2 o ∧ (xs (7 * k + 3)) ≤ sI σ 3 o
        · obtain ⟨σ', hσ0⟩ : ∃ z, xLess σ o (xs (7 * k + 3)) = z := ⟨_, rfl⟩
          have hσ : xAm (cgw (xAsk (xOut σ o) o (xs (7 * k + 2)) (xs (7 * k + 3))) (L (sj (opp (sI σ 1 o)))) o) σ o (xs (7 * k + 2)) (xs (7 * k + 3)) = σ' := (if_pos hlo).trans hσ0
          have hst : stn σ' = stn σ := by rw [← hσ0]; rfl
          have hkC : kC (stn σ') = kC (stn σ) := by rw [hst]
          have hkS : kS (stn σ') = kS (stn σ) := by rw [hst]
          have hrin : RIN σ' k := by rw [← hσ0]; exact rin_less hI ho hrs hq0.1 hlo.2
          have h51 : b2i (decide (¬ sI σ' 5 o = -1)) = 1 := by rw [← hσ0, show sI (xLess σ o (xs (7 * k + 3))) 5 o = sI σ 5 o from congrFun (less_f (by decide) (by decide)) o, decide_eq_true hr5]; rfl
          have hrm := room_ok (t := stn σ') (k := k + 1) (c := cells + (kC (stn σ') - kC (stn σ) + 1)) (s := slots + (kS (stn σ') - kS (stn σ) + 373)) (by omega) (by omega) (by omega) (by omega)
          refine lv_aload_n S.1 S.2.1 d_L_law_358 rfl (lv_at hl 3 rfl) ?_
          refine lv_aload_n S.1 S.2.1 d_L_law_359 rfl (lv_at hl 4 rfl) ?_
          refine lv_iload S.1 S.2.1 d_L_law_360 (lv_at hl 0 rfl) ?_
          refine lv_iconst (v := 1) S.1 S.2.1 d_L_law_362 (by decide) ?_
          refine lv_iadd S.1 S.2.1 d_L_law_363 ?_
          refine m_scr (j := 7 * k + 1) S hX hbz hnn hw (nI_p (a := 7 * k) (b := 1)) (by omega) d_L_law_364 ?_
          refine W.eq (g2 := F0 m 365 ls [.int (nI o), .ref (bx β)]) (congrArg (fun z => F0 m 365 ls [.int z, .ref (bx β)]) ej) ?_
          refine lv_aload_n S.1 S.2.1 d_L_law_365 rfl (lv_at hl 4 rfl) ?_
          refine lv_iload S.1 S.2.1 d_L_law_366 (lv_at hl 0 rfl) ?_
          refine lv_iconst (v := 2) S.1 S.2.1 d_L_law_368 (by decide) ?_
          refine lv_iadd S.1 S.2.1 d_L_law_369 ?_
          refine m_scr (j := 7 * k + 2) S hX hbz hnn hw (nI_p (a := 7 * k) (b := 2)) (by omega) d_L_law_370 ?_
          refine lv_aload_n S.1 S.2.1 d_L_law_371 rfl (lv_at hl 4 rfl) ?_
          refine lv_iload S.1 S.2.1 d_L_law_372 (lv_at hl 0 rfl) ?_
          refine lv_iconst (v := 3) S.1 S.2.1 d_L_law_374 (by decide) ?_
          refine lv_iadd S.1 S.2.1 d_L_law_375 ?_
          refine m_scr (j := 7 * k + 3) S hX hbz hnn hw (nI_p (a := 7 * k) (b := 3)) (by omega) d_L_law_376 ?_
          refine lv_aload_n S.1 S.2.1 d_L_law_377 rfl (lv_at hl 1 rfl) ?_
          refine m_ci hw (m_runSW (n := 5) (As := [.ref (bx β), .int (nI o), .int (xs (7 * k + 2)), .int (xs (7 * k + 3)), .ref a]) (rest := []) S (h_amend l γ M β oa cp L σ hC a f ha hI0 hL o ho hr5 (xs (7 * k + 2)) (xs (7 * k + 3)) hv1 hv2 hv3 hph hcp hcpl σ' hσ (by omega) hrk0) g597 g598 g40 g599 rfl rfl ⟨by decide +kernel, by decide +kernel, by decide +kernel⟩ ⟨(Nat.le_of_ble_eq_true rfl), (Nat.le_of_ble_eq_true rfl)⟩ (hw.preXS hx) rfl hl.1 (lv_room (Nat.le_of_ble_eq_true rfl)) d_L_law_378 ⟨hrm.1, hrm.2⟩ rfl) (fun r1 M1 H locs hp hw => ?_)
          obtain ⟨rfl, M9, hp, hM1⟩ := hp
          obtain ⟨L1, cp1, hC1, hI1, hL1, hcp1, hcpl1, hf1, hsn1, hrk1⟩ := hp
          have ha9 : M9 a = some (ouc γ f) := hf1.out ha
          have hC9 : CB γ M1 β oa cp1 L1 σ' := by rw [hM1]; exact CB.frB hC1 (frB.out ha9)
          have ha1 : M1 a = some (ouc γ (vp_updL f 0 ((b2i (decide (¬ sI σ' 5 o = -1))).toInt64))) := by rw [hM1]; exact mU_eq _ _ _
          have hR1 : RM γ M1 μ σ ε := hR.fr ha (by rw [hM1]; exact frL.c hf1)
          refine lv_istore S.1 S.2.1 d_L_law_381 hl (by decide) rfl (fun ls hl => ?_)
          have hl : lv_has ls 8 [(5, .int 0), (4, .int (nI (7 * k))), (3, .ref a), (2, .ref (rx μ)), (1, .ref (bx β)), (0, .ref b)] := hl
          refine lv_aload_n S.1 S.2.1 d_L_law_383 rfl (lv_at hl 3 rfl) ?_
          refine lv_aload_n S.1 S.2.1 d_L_law_384 rfl (lv_at hl 5 rfl) ?_
          refine lv_iload S.1 S.2.1 d_L_law_385 (lv_at hl 1 rfl) ?_
          refine lv_iconst (v := 1) S.1 S.2.1 d_L_law_387 (by decide) ?_
          refine lv_iadd S.1 S.2.1 d_L_law_388 ?_
          refine m_scr (j := 7 * k + 1) S hX hbz hnn hw (nI_p (a := 7 * k) (b := 1)) (by omega) d_L_law_389 ?_
          refine W.eq (g2 := F0 m 390 ls [.int (nI o), .ref (rx μ)]) (congrArg (fun z => F0 m 390 ls [.int z, .ref (rx μ)]) ej) ?_
          refine lv_aload_n S.1 S.2.1 d_L_law_390 rfl (lv_at hl 5 rfl) ?_
          refine lv_iload S.1 S.2.1 d_L_law_391 (lv_at hl 1 rfl) ?_
          refine lv_iconst (v := 2) S.1 S.2.1 d_L_law_393 (by decide) ?_
          refine lv_iadd S.1 S.2.1 d_L_law_394 ?_
          refine m_scr (j := 7 * k + 2) S hX hbz hnn hw (nI_p (a := 7 * k) (b := 2)) (by omega) d_L_law_395 ?_
          refine lv_aload_n S.1 S.2.1 d_L_law_396 rfl (lv_at hl 5 rfl) ?_
          refine lv_iload S.1 S.2.1 d_L_law_397 (lv_at hl 1 rfl) ?_
          refine lv_iconst (v := 3) S.1 S.2.1 d_L_law_399 (by decide) ?_
          refine lv_iadd S.1 S.2.1 d_L_law_400 ?_
          refine m_scr (j := 7 * k + 3) S hX hbz hnn hw (nI_p (a := 7 * k) (b := 3)) (by omega) d_L_law_401 ?_
          refine m_ci hw (va_runV (As := [.int (nI o), .int (xs (7 * k + 2)), .int (xs (7 * k + 3))]) (rest := []) S (c_M_amendL l γ M1 μ σ ε hR1 hn o ho (xs (7 * k + 2)) (xs (7 * k + 3)) hv1 hv2 hv3 hrs hph hlo) (m_cwV 3 S g852 g853 g854 g48 g855 rfl rfl ⟨by decide +kernel, by decide +kernel, by decide +kernel⟩ ⟨(Nat.le_of_ble_eq_true rfl), (Nat.le_of_ble_eq_true rfl)⟩) (hw.preV hR1.1 cl_M.1) rfl rfl hl.1 rfl (lv_room (Nat.le_of_ble_eq_true rfl)) d_L_law_402 ⟨hrm.1, hrm.2⟩) (fun r2 M2 H locs hp hw => ?_)
          obtain ⟨rfl, hq⟩ := hp
          rw [hσ0] at hq
          have hLS' := LSt.of (k := k + 1) hC9 hR1 ha1 hq hrin.up hL1 hcp1 hcpl1
          have ha2 := hq.2.out hR1 ha1
          have hR2 := hq.1
          refine lv_istore S.1 S.2.1 d_L_law_405 hl (by decide) rfl (fun ls hl => ?_)
          have hl : lv_has ls 8 [(6, .int 1), (5, .int 0), (4, .int (nI (7 * k))), (3, .ref a), (2, .ref (rx μ)), (1, .ref (bx β)), (0, .ref b)] := hl
          refine lv_aload_n S.1 S.2.1 d_L_law_407 rfl (lv_at hl 4 rfl) ?_
          refine m_ci hw (va_runV (As := []) (rest := []) S (c_M_thrown l γ M2 μ σ' (0, ε.2) hR2 ) (m_cwV 0 S g770 g771 g772 g48 g773 rfl rfl ⟨by decide +kernel, by decide +kernel, by decide +kernel⟩ ⟨(Nat.le_of_ble_eq_true rfl), (Nat.le_of_ble_eq_true rfl)⟩) (hw.preV hR2.1 cl_M.1) rfl rfl hl.1 rfl (lv_room (Nat.le_of_ble_eq_true rfl)) d_L_law_408 ⟨hrm.1, hrm.2⟩) (fun r3 M3 H locs hp hw => ?_)
          obtain ⟨rfl, hM3⟩ := hp
          rw [hM3] at hw
          refine lv_iload S.1 S.2.1 d_L_law_411 (lv_at hl 1 rfl) ?_
          refine lv_icmp_eq (tgt := 418) S.1 S.2.1 d_L_law_413 rfl (fun _ => ?_) (fun h => absurd (show (0 : Int32) = 0 from rfl) h)
          refine lv_iload S.1 S.2.1 d_L_law_418 (lv_at hl 1 rfl) ?_
          refine lv_if_ne (tgt := 442) S.1 S.2.1 d_L_law_420 rfl (fun h => absurd (show (0 : Int32) = 0 by decide) h) (fun _ => ?_)
          refine lv_aload_n S.1 S.2.1 d_L_law_423 rfl (lv_at hl 3 rfl) ?_
          refine lv_iconst (v := 0) S.1 S.2.1 d_L_law_424 (by decide) ?_
          refine m_lald (f := vp_updL f 0 ((b2i (decide (¬ sI σ' 5 o = -1))).toInt64)) S hw ha2 (by unfold vp_in; decide) d_L_law_425 ?_
          refine W.eq (g2 := F0 m 426 ls [.long ((b2i (decide (¬ sI σ' 5 o = -1))).toInt64)]) (congrArg (fun z => F0 m 426 ls [.long z]) (show (vp_updL f 0 ((b2i (decide (¬ sI σ' 5 o = -1))).toInt64)) (0 : Int32).toNatClampNeg = (b2i (decide (¬ sI σ' 5 o = -1))).toInt64 from rfl)) ?_
          refine lv_iload S.1 S.2.1 d_L_law_426 (lv_at hl 0 rfl) ?_
          refine lv_if_eq (tgt := 435) S.1 S.2.1 d_L_law_428 rfl (fun h => absurd h (show ¬ (1 : Int32) = 0 by decide)) (fun _ => ?_)
          refine lv_lconst (v := 1) S.1 S.2.1 d_L_law_431 (by decide) ?_
          refine lv_goto (tgt := 436) S.1 S.2.1 d_L_law_432 rfl ?_
          refine W.lcmp S.1 S.2.1 d_L_law_436 ?_
          refine lv_if_eq (tgt := 442) S.1 S.2.1 d_L_law_437 rfl (fun _ => ?_) (fun h => absurd ((lg_cmp_eq _ _).mpr (by rw [h51]; rfl)) h)
          refine lv_goto (tgt := 932) S.1 S.2.1 d_L_law_442 rfl ?_
          have hl := lv_sub hl [2, 3, 4, 5, 6] rfl
          exact kk M2 (stn σ') H locs ls _ _ hLS' (by omega) (by omega) hl hw
        · obtain ⟨hTa, hrin⟩ := rin_amend (g := (cgw (xAsk (xOut σ o) o (xs (7 * k + 2)) (xs (7 * k + 3))) (L (sj (opp (sI σ 1 o)))) o)) hI hL (by omega) ho hrs hv1 hv2 hv3
          have hco := rAm_come (q := (xs (7 * k + 3))) hI0 hL ho hrs hp0 (by omega) hrk0
          obtain ⟨hIr, L9, hLr⟩ := rAm_inv (q := (xs (7 * k + 3))) hI0 hL ho hrs hp0
          have hmo : stn σ ≤ stn (xCome (cgw (xAsk (xOut σ o) o (xs (7 * k + 2)) (xs (7 * k + 3))) (L (sj (opp (sI σ 1 o)))) o) (aT σ o (xs (7 * k + 2)) (xs (7 * k + 3))) o) := come_tn (σ := aT σ o (xs (7 * k + 2)) (xs (7 * k + 3)))
          obtain ⟨σ', hσ0⟩ : ∃ z, xCome (cgw (xAsk (xOut σ o) o (xs (7 * k + 2)) (xs (7 * k + 3))) (L (sj (opp (sI σ 1 o)))) o) (aT σ o (xs (7 * k + 2)) (xs (7 * k + 3))) o = z := ⟨_, rfl⟩
          have hσ : xAm (cgw (xAsk (xOut σ o) o (xs (7 * k + 2)) (xs (7 * k + 3))) (L (sj (opp (sI σ 1 o)))) o) σ o (xs (7 * k + 2)) (xs (7 * k + 3)) = σ' := (if_neg hlo).trans hσ0
          rw [hσ0] at hTa hrin hco hmo
          have hkC := kC_mono hmo
          have hkS := kS_mono hmo
          have hrm := room_ok (t := stn σ') (k := k + 1) (c := cells + (kC (stn σ') - kC (stn σ) + 1)) (s := slots + (kS (stn σ') - kS (stn σ) + 373)) (by omega) (by omega) (by omega) (by omega)
          refine lv_aload_n S.1 S.2.1 d_L_law_358 rfl (lv_at hl 3 rfl) ?_
          refine lv_aload_n S.1 S.2.1 d_L_law_359 rfl (lv_at hl 4 rfl) ?_
          refine lv_iload S.1 S.2.1 d_L_law_360 (lv_at hl 0 rfl) ?_
          refine lv_iconst (v := 1) S.1 S.2.1 d_L_law_362 (by decide) ?_
          refine lv_iadd S.1 S.2.1 d_L_law_363 ?_
          refine m_scr (j := 7 * k + 1) S hX hbz hnn hw (nI_p (a := 7 * k) (b := 1)) (by omega) d_L_law_364 ?_
          refine W.eq (g2 := F0 m 365 ls [.int (nI o), .ref (bx β)]) (congrArg (fun z => F0 m 365 ls [.int z, .ref (bx β)]) ej) ?_
          refine lv_aload_n S.1 S.2.1 d_L_law_365 rfl (lv_at hl 4 rfl) ?_
          refine lv_iload S.1 S.2.1 d_L_law_366 (lv_at hl 0 rfl) ?_
          refine lv_iconst (v := 2) S.1 S.2.1 d_L_law_368 (by decide) ?_
          refine lv_iadd S.1 S.2.1 d_L_law_369 ?_
          refine m_scr (j := 7 * k + 2) S hX hbz hnn hw (nI_p (a := 7 * k) (b := 2)) (by omega) d_L_law_370 ?_
          refine lv_aload_n S.1 S.2.1 d_L_law_371 rfl (lv_at hl 4 rfl) ?_
          refine lv_iload S.1 S.2.1 d_L_law_372 (lv_at hl 0 rfl) ?_
          refine lv_iconst (v := 3) S.1 S.2.1 d_L_law_374 (by decide) ?_
          refine lv_iadd S.1 S.2.1 d_L_law_375 ?_
          refine m_scr (j := 7 * k + 3) S hX hbz hnn hw (nI_p (a := 7 * k) (b := 3)) (by omega) d_L_law_376 ?_
          refine lv_aload_n S.1 S.2.1 d_L_law_377 rfl (lv_at hl 1 rfl) ?_
          refine m_ci hw (m_runSW (n := 5) (As := [.ref (bx β), .int (nI o), .int (xs (7 * k + 2)), .int (xs (7 * k + 3)), .ref a]) (rest := []) S (h_amend l γ M β oa cp L σ hC a f ha hI0 hL o ho hr5 (xs (7 * k + 2)) (xs (7 * k + 3)) hv1 hv2 hv3 hph hcp hcpl σ' hσ (by omega) hrk0) g597 g598 g40 g599 rfl rfl ⟨by decide +kernel, by decide +kernel, by decide +kernel⟩ ⟨(Nat.le_of_ble_eq_true rfl), (Nat.le_of_ble_eq_true rfl)⟩ (hw.preXS hx) rfl hl.1 (lv_room (Nat.le_of_ble_eq_true rfl)) d_L_law_378 ⟨hrm.1, hrm.2⟩ rfl) (fun r1 M1 H locs hp hw => ?_)
          obtain ⟨rfl, M9, hp, hM1⟩ := hp
          obtain ⟨L1, cp1, hC1, hI1, hL1, hcp1, hcpl1, hf1, hsn1, hrk1⟩ := hp
          have ha9 : M9 a = some (ouc γ f) := hf1.out ha
          have hC9 : CB γ M1 β oa cp1 L1 σ' := by rw [hM1]; exact CB.frB hC1 (frB.out ha9)
          have ha1 : M1 a = some (ouc γ (vp_updL f 0 ((b2i (decide (¬ sI σ' 5 o = -1))).toInt64))) := by rw [hM1]; exact mU_eq _ _ _
          have hR1 : RM γ M1 μ σ ε := hR.fr ha (by rw [hM1]; exact frL.c hf1)
          refine lv_istore S.1 S.2.1 d_L_law_381 hl (by decide) rfl (fun ls hl => ?_)
          have hl : lv_has ls 8 [(5, .int 0), (4, .int (nI (7 * k))), (3, .ref a), (2, .ref (rx μ)), (1, .ref (bx β)), (0, .ref b)] := hl
          refine lv_aload_n S.1 S.2.1 d_L_law_383 rfl (lv_at hl 3 rfl) ?_
          refine lv_aload_n S.1 S.2.1 d_L_law_384 rfl (lv_at hl 5 rfl) ?_
          refine lv_iload S.1 S.2.1 d_L_law_385 (lv_at hl 1 rfl) ?_
          refine lv_iconst (v := 1) S.1 S.2.1 d_L_law_387 (by decide) ?_
          refine lv_iadd S.1 S.2.1 d_L_law_388 ?_
          refine m_scr (j := 7 * k + 1) S hX hbz hnn hw (nI_p (a := 7 * k) (b := 1)) (by omega) d_L_law_389 ?_
          refine W.eq (g2 := F0 m 390 ls [.int (nI o), .ref (rx μ)]) (congrArg (fun z => F0 m 390 ls [.int z, .ref (rx μ)]) ej) ?_
          refine lv_aload_n S.1 S.2.1 d_L_law_390 rfl (lv_at hl 5 rfl) ?_
          refine lv_iload S.1 S.2.1 d_L_law_391 (lv_at hl 1 rfl) ?_
          refine lv_iconst (v := 2) S.1 S.2.1 d_L_law_393 (by decide) ?_
          refine lv_iadd S.1 S.2.1 d_L_law_394 ?_
          refine m_scr (j := 7 * k + 2) S hX hbz hnn hw (nI_p (a := 7 * k) (b := 2)) (by omega) d_L_law_395 ?_
          refine lv_aload_n S.1 S.2.1 d_L_law_396 rfl (lv_at hl 5 rfl) ?_
          refine lv_iload S.1 S.2.1 d_L_law_397 (lv_at hl 1 rfl) ?_
          refine lv_iconst (v := 3) S.1 S.2.1 d_L_law_399 (by decide) ?_
          refine lv_iadd S.1 S.2.1 d_L_law_400 ?_
          refine m_scr (j := 7 * k + 3) S hX hbz hnn hw (nI_p (a := 7 * k) (b := 3)) (by omega) d_L_law_401 ?_
          refine m_ci hw (va_runV (As := [.int (nI o), .int (xs (7 * k + 2)), .int (xs (7 * k + 3))]) (rest := []) S (c_M_amendN l γ M1 μ σ ε hR1 hn o ho (xs (7 * k + 2)) (xs (7 * k + 3)) hv1 hv2 hv3 hrs hph hlo L9 hIr hLr hI.2.1 hrk0 σ' hco (by omega)) (m_cwV 3 S g852 g853 g854 g48 g855 rfl rfl ⟨by decide +kernel, by decide +kernel, by decide +kernel⟩ ⟨(Nat.le_of_ble_eq_true rfl), (Nat.le_of_ble_eq_true rfl)⟩) (hw.preV hR1.1 cl_M.1) rfl rfl hl.1 rfl (lv_room (Nat.le_of_ble_eq_true rfl)) d_L_law_402 ⟨hrm.1, hrm.2⟩) (fun r2 M2 H locs hp hw => ?_)
          obtain ⟨rfl, hq⟩ := hp
          have hLS' := LSt.of (k := k + 1) hC9 hR1 ha1 hq (hrin hrk1 hI1) hL1 hcp1 hcpl1
          have ha2 := hq.2.out hR1 ha1
          have hR2 := hq.1
          refine lv_istore S.1 S.2.1 d_L_law_405 hl (by decide) rfl (fun ls hl => ?_)
          have hl : lv_has ls 8 [(6, .int (b2i (decide (¬ sI σ' 5 o = -1)))), (5, .int 0), (4, .int (nI (7 * k))), (3, .ref a), (2, .ref (rx μ)), (1, .ref (bx β)), (0, .ref b)] := hl
          refine lv_aload_n S.1 S.2.1 d_L_law_407 rfl (lv_at hl 4 rfl) ?_
          refine m_ci hw (va_runV (As := []) (rest := []) S (c_M_thrown l γ M2 μ σ' (0, ε.2) hR2 ) (m_cwV 0 S g770 g771 g772 g48 g773 rfl rfl ⟨by decide +kernel, by decide +kernel, by decide +kernel⟩ ⟨(Nat.le_of_ble_eq_true rfl), (Nat.le_of_ble_eq_true rfl)⟩) (hw.preV hR2.1 cl_M.1) rfl rfl hl.1 rfl (lv_room (Nat.le_of_ble_eq_true rfl)) d_L_law_408 ⟨hrm.1, hrm.2⟩) (fun r3 M3 H locs hp hw => ?_)
          obtain ⟨rfl, hM3⟩ := hp
          rw [hM3] at hw
          refine lv_iload S.1 S.2.1 d_L_law_411 (lv_at hl 1 rfl) ?_
          refine lv_icmp_eq (tgt := 418) S.1 S.2.1 d_L_law_413 rfl (fun _ => ?_) (fun h => absurd (show (0 : Int32) = 0 from rfl) h)
          refine lv_iload S.1 S.2.1 d_L_law_418 (lv_at hl 1 rfl) ?_
          refine lv_if_ne (tgt := 442) S.1 S.2.1 d_L_law_420 rfl (fun h => absurd (show (0 : Int32) = 0 by decide) h) (fun _ => ?_)
          refine lv_aload_n S.1 S.2.1 d_L_law_423 rfl (lv_at hl 3 rfl) ?_
          refine lv_iconst (v := 0) S.1 S.2.1 d_L_law_424 (by decide) ?_
          refine m_lald (f := vp_updL f 0 ((b2i (decide (¬ sI σ' 5 o = -1))).toInt64)) S hw ha2 (by unfold vp_in; decide) d_L_law_425 ?_
          refine W.eq (g2 := F0 m 426 ls [.long ((b2i (decide (¬ sI σ' 5 o = -1))).toInt64)]) (congrArg (fun z => F0 m 426 ls [.long z]) (show (vp_updL f 0 ((b2i (decide (¬ sI σ' 5 o = -1))).toInt64)) (0 : Int32).toNatClampNeg = (b2i (decide (¬ sI σ' 5 o = -1))).toInt64 from rfl)) ?_
          refine lv_iload S.1 S.2.1 d_L_law_426 (lv_at hl 0 rfl) ?_
          refine lv_if_eq (tgt := 435) S.1 S.2.1 d_L_law_428 rfl (fun h428 => ?_) (fun h428 => ?_)
          · refine lv_lconst (v := 0) S.1 S.2.1 d_L_law_435 (by decide) ?_
            refine W.lcmp S.1 S.2.1 d_L_law_436 ?_
            refine lv_if_eq (tgt := 442) S.1 S.2.1 d_L_law_437 rfl (fun _ => ?_) (fun h => absurd ((lg_cmp_eq _ _).mpr (by rw [h428]; rfl)) h)
            refine lv_goto (tgt := 932) S.1 S.2.1 d_L_law_442 rfl ?_
            have hl := lv_sub hl [2, 3, 4, 5, 6] rfl
            exact kk M2 (stn σ') H locs ls _ _ hLS' (by omega) (by omega) hl hw
          · refine lv_lconst (v := 1) S.1 S.2.1 d_L_law_431 (by decide) ?_
            refine lv_goto (tgt := 436) S.1 S.2.1 d_L_law_432 rfl ?_
            refine W.lcmp S.1 S.2.1 d_L_law_436 ?_
            refine lv_if_eq (tgt := 442) S.1 S.2.1 d_L_law_437 rfl (fun _ => ?_) (fun h => absurd ((lg_cmp_eq _ _).mpr (by rw [b2i_n0.mp h428]; rfl)) h)
            refine lv_goto (tgt := 932) S.1 S.2.1 d_L_law_442 rfl ?_
            have hl := lv_sub hl [2, 3, 4, 5, 6] rfl
            exact kk M2 (stn σ') H locs ls _ _ hLS' (by omega) (by omega) hl hw
  · have hj' : ∀ o, o < sn σ → ¬ (xs (7 * k + 1)) = nI o := fun o ho e9 => hj ⟨o, ho, e9⟩
    have hrm := room_ok (k := k + 1) (c := cells + 1) (s := slots + 6) hT0 (by omega) (by omega) (by omega)
    refine lv_aload_n S.1 S.2.1 d_L_law_358 rfl (lv_at hl 3 rfl) ?_
    refine lv_aload_n S.1 S.2.1 d_L_law_359 rfl (lv_at hl 4 rfl) ?_
    refine lv_iload S.1 S.2.1 d_L_law_360 (lv_at hl 0 rfl) ?_
    refine lv_iconst (v := 1) S.1 S.2.1 d_L_law_362 (by decide) ?_
    refine lv_iadd S.1 S.2.1 d_L_law_363 ?_
    refine m_scr (j := 7 * k + 1) S hX hbz hnn hw (nI_p (a := 7 * k) (b := 1)) (by omega) d_L_law_364 ?_
    refine lv_aload_n S.1 S.2.1 d_L_law_365 rfl (lv_at hl 4 rfl) ?_
    refine lv_iload S.1 S.2.1 d_L_law_366 (lv_at hl 0 rfl) ?_
    refine lv_iconst (v := 2) S.1 S.2.1 d_L_law_368 (by decide) ?_
    refine lv_iadd S.1 S.2.1 d_L_law_369 ?_
    refine m_scr (j := 7 * k + 2) S hX hbz hnn hw (nI_p (a := 7 * k) (b := 2)) (by omega) d_L_law_370 ?_
    refine lv_aload_n S.1 S.2.1 d_L_law_371 rfl (lv_at hl 4 rfl) ?_
    refine lv_iload S.1 S.2.1 d_L_law_372 (lv_at hl 0 rfl) ?_
    refine lv_iconst (v := 3) S.1 S.2.1 d_L_law_374 (by decide) ?_
    refine lv_iadd S.1 S.2.1 d_L_law_375 ?_
    refine m_scr (j := 7 * k + 3) S hX hbz hnn hw (nI_p (a := 7 * k) (b := 3)) (by omega) d_L_law_376 ?_
    refine lv_aload_n S.1 S.2.1 d_L_law_377 rfl (lv_at hl 1 rfl) ?_
    refine m_ci hw (m_runSW (n := 5) (As := [.ref (bx β), .int (xs (7 * k + 1)), .int (xs (7 * k + 2)), .int (xs (7 * k + 3)), .ref a]) (rest := []) S (h_amendJ l hlT γ M β oa cp L σ hC a hn (xs (7 * k + 1)) hj' (xs (7 * k + 2)) (xs (7 * k + 3))) g597 g598 g40 g599 rfl rfl ⟨by decide +kernel, by decide +kernel, by decide +kernel⟩ ⟨(Nat.le_of_ble_eq_true rfl), (Nat.le_of_ble_eq_true rfl)⟩ (hw.preXS hx) rfl hl.1 (lv_room (Nat.le_of_ble_eq_true rfl)) d_L_law_378 ⟨hrm.1, hrm.2⟩ rfl) (fun r1 M1 H locs hp hw => ?_)
    obtain ⟨rfl, hM1⟩ := hp
    rw [hM1] at hw
    refine lv_istore S.1 S.2.1 d_L_law_381 hl (by decide) rfl (fun ls hl => ?_)
    have hl : lv_has ls 8 [(5, .int 1), (4, .int (nI (7 * k))), (3, .ref a), (2, .ref (rx μ)), (1, .ref (bx β)), (0, .ref b)] := hl
    refine lv_aload_n S.1 S.2.1 d_L_law_383 rfl (lv_at hl 3 rfl) ?_
    refine lv_aload_n S.1 S.2.1 d_L_law_384 rfl (lv_at hl 5 rfl) ?_
    refine lv_iload S.1 S.2.1 d_L_law_385 (lv_at hl 1 rfl) ?_
    refine lv_iconst (v := 1) S.1 S.2.1 d_L_law_387 (by decide) ?_
    refine lv_iadd S.1 S.2.1 d_L_law_388 ?_
    refine m_scr (j := 7 * k + 1) S hX hbz hnn hw (nI_p (a := 7 * k) (b := 1)) (by omega) d_L_law_389 ?_
    refine lv_aload_n S.1 S.2.1 d_L_law_390 rfl (lv_at hl 5 rfl) ?_
    refine lv_iload S.1 S.2.1 d_L_law_391 (lv_at hl 1 rfl) ?_
    refine lv_iconst (v := 2) S.1 S.2.1 d_L_law_393 (by decide) ?_
    refine lv_iadd S.1 S.2.1 d_L_law_394 ?_
    refine m_scr (j := 7 * k + 2) S hX hbz hnn hw (nI_p (a := 7 * k) (b := 2)) (by omega) d_L_law_395 ?_
    refine lv_aload_n S.1 S.2.1 d_L_law_396 rfl (lv_at hl 5 rfl) ?_
    refine lv_iload S.1 S.2.1 d_L_law_397 (lv_at hl 1 rfl) ?_
    refine lv_iconst (v := 3) S.1 S.2.1 d_L_law_399 (by decide) ?_
    refine lv_iadd S.1 S.2.1 d_L_law_400 ?_
    refine m_scr (j := 7 * k + 3) S hX hbz hnn hw (nI_p (a := 7 * k) (b := 3)) (by omega) d_L_law_401 ?_
    refine m_ci hw (va_runV (As := [.int (xs (7 * k + 1)), .int (xs (7 * k + 2)), .int (xs (7 * k + 3))]) (rest := []) S (c_M_amendJ l γ M μ σ ε hR hn (xs (7 * k + 1)) hj' (xs (7 * k + 2)) (xs (7 * k + 3))) (m_cwV 3 S g852 g853 g854 g48 g855 rfl rfl ⟨by decide +kernel, by decide +kernel, by decide +kernel⟩ ⟨(Nat.le_of_ble_eq_true rfl), (Nat.le_of_ble_eq_true rfl)⟩) (hw.preV hR.1 cl_M.1) rfl rfl hl.1 rfl (lv_room (Nat.le_of_ble_eq_true rfl)) d_L_law_402 ⟨hrm.1, hrm.2⟩) (fun r2 M2 H locs hp hw => ?_)
    have hLS' := LSt.of (k := k + 1) hC hR ha hp hI.up hL hcp hcpl
    have hR2 := hp.1
    refine lv_istore S.1 S.2.1 d_L_law_405 hl (by decide) rfl (fun ls hl => ?_)
    have hl : lv_has ls 8 [(6, .int r2), (5, .int 1), (4, .int (nI (7 * k))), (3, .ref a), (2, .ref (rx μ)), (1, .ref (bx β)), (0, .ref b)] := hl
    refine lv_aload_n S.1 S.2.1 d_L_law_407 rfl (lv_at hl 4 rfl) ?_
    refine m_ci hw (va_runV (As := []) (rest := []) S (c_M_thrown l γ M2 μ σ (1, ε.2) hR2 ) (m_cwV 0 S g770 g771 g772 g48 g773 rfl rfl ⟨by decide +kernel, by decide +kernel, by decide +kernel⟩ ⟨(Nat.le_of_ble_eq_true rfl), (Nat.le_of_ble_eq_true rfl)⟩) (hw.preV hR2.1 cl_M.1) rfl rfl hl.1 rfl (lv_room (Nat.le_of_ble_eq_true rfl)) d_L_law_408 ⟨hrm.1, hrm.2⟩) (fun r3 M3 H locs hp hw => ?_)
    obtain ⟨rfl, hM3⟩ := hp
    rw [hM3] at hw
    refine lv_iload S.1 S.2.1 d_L_law_411 (lv_at hl 1 rfl) ?_
    refine lv_icmp_eq (tgt := 418) S.1 S.2.1 d_L_law_413 rfl (fun _ => ?_) (fun h => absurd (show (1 : Int32) = 1 from rfl) h)
    refine lv_iload S.1 S.2.1 d_L_law_418 (lv_at hl 1 rfl) ?_
    refine lv_if_ne (tgt := 442) S.1 S.2.1 d_L_law_420 rfl (fun _ => ?_) (fun h => absurd h (show ¬ (1 : Int32) = 0 by decide))
    refine lv_goto (tgt := 932) S.1 S.2.1 d_L_law_442 rfl ?_
    have hl := lv_sub hl [2, 3, 4, 5, 6] rfl
    exact kk M2 (stn σ) H locs ls _ _ hLS' (by omega) (by omega) hl hw
