/-! Rows for lists: the empty array, classes' mirrors, copies, casts -/
theorem gN483 : Cond.native ⟨"java/lang/System", "arraycopy", "(Ljava/lang/Object;ILjava/lang/Object;II)V"⟩ ∈ GG := gw 483 (by decide +kernel) rfl
theorem gN473 : Cond.native ⟨"java/lang/Object", "getClass", "()Ljava/lang/Class;"⟩ ∈ GG := gw 473 (by decide +kernel) rfl
section MJ
variable {p : Program} {l : Launch} {e : Env} {R : Room} {s : State} {m : MethodId} {args : Array Value} {below : List Frame} {meth : Method} {c : Code} {H : Heap} {locs : List Loc} {cells slots : Nat} {Q : State → Prop}
variable {cc : ByteArray} {pc nL : Nat} {ls : Array Slot} {rest st0 : List Value} {γ : mG} {M : mMap} {a : Nat} {c0 : Cond} {own : String}
theorem m_gets (S : CallFix p m c cc nL s args (c0 :: GG) own) (hw : mW γ M s H locs) {index : Nat} (hl : Cond.fieldLink own index "java/util/ArrayList" "DEFAULTCAPACITY_EMPTY_ELEMENTDATA" "[Ljava/lang/Object;" ∈ GG) (hdg : decode cc pc = .ok (.getstatic index, 3))
    (kk : W p l e R s m args below meth c H locs cells slots Q (F0 m (pc + 3) ls (.ref (ge γ) :: rest))) : W p l e R s m args below meth c H locs cells slots Q (F0 m pc ls rest) :=
  va_gets S.1 S.2.1 hw.2.2.1.2.1 hw.2.1 S.2.2.2.1 (S.2.2.2.2 _ (gc hl)) (fun _ h => h) hdg kk
theorem m_elen (S : CallFix p m c cc nL s args (c0 :: GG) own) (hw : mW γ M s H locs) (hdg : decode cc pc = .ok (.arraylength, 1))
    (kk : W p l e R s m args below meth c H locs cells slots Q (F0 m (pc + 1) ls (.int 0 :: rest))) : W p l e R s m args below meth c H locs cells slots Q (F0 m pc ls (.ref (ge γ) :: rest)) :=
  va_tlen S.1 S.2.1 hw.2.2.1.2.2.1 hw.2.1 rfl hdg kk
/-- elements of a list: all of one class -/
def mEl (M : mMap) (ci : Nat) (xs : List Nat) : Prop := (ci = 2 ∨ ci = 4) ∧ ∀ x, x ∈ xs → ∃ fs, M x = some (.inr (ci, fs))
theorem mK.cast {γ : mG} {s : State} {H : Heap} (h : mK γ s H) {ci : Nat} (hci : ci = 2 ∨ ci = 4) : ∃ r : vw_C, vwCl[ci]? = some r ∧ va_Nw (.castable r.1 "java/lang/Object") s := by
  rcases hci with e | e
  · subst e; exact ⟨_, rfl, h.2.2.2.2.2.2.1⟩
  · subst e; exact ⟨_, rfl, h.2.2.2.2.2.2.2⟩
theorem m_aastX (S : CallFix p m c cc nL s args (c0 :: GG) own) (hw : mW γ M s H locs) {n v ci : Nat} {xs : List Nat} {f : Nat → Option Nat} (he : M a = some (.inl (gA γ 3, n, .inr (.inr (.inr (.inr f)))))) (hE : mEl M ci xs) (hv : v ∈ xs) {i : Int32} (hin : vp_in i n) (hdg : decode cc pc = .ok (.aastore, 1))
    (kk : ∀ (H1 : Heap) (locs1 : List Loc), mW γ (mU M a (.inl (gA γ 3, n, .inr (.inr (.inr (.inr (va_up f i.toNatClampNeg (some v)))))))) s H1 locs1 → W p l e R s m args below meth c H1 locs1 cells slots Q (F0 m (pc + 1) ls rest)) : W p l e R s m args below meth c H locs cells slots Q (F0 m pc ls (.ref v :: .int i :: .ref a :: rest)) := by
  obtain ⟨r, hr, hc⟩ := hw.2.2.1.cast hE.1
  obtain ⟨fs, hfs⟩ := hE.2 v hv
  exact m_aast S hw he hfs hr hc hin hdg kk
theorem m_copy (S : CallFix p m c cc nL s args (c0 :: GG) own) (hw : mW γ M s H locs) (hls : ls.size = nL) {index : Nat} (hl : Cond.methodLink own index ⟨"java/lang/System", "arraycopy", "(Ljava/lang/Object;ILjava/lang/Object;II)V"⟩ ∈ GG) {a0 n0 n1 ci : Nat} {xs : List Nat} {f g : Nat → Option Nat} (he0 : M a0 = some (.inl (gA γ 3, n0, .inr (.inr (.inr (.inr f)))))) (he1 : M a = some (.inl (gA γ 3, n1, .inr (.inr (.inr (.inr g)))))) (hE : mEl M ci xs)
    {sp dp n : Int32} {sp' dp' n' : Nat} (e1 : sp = nI sp') (e2 : dp = nI dp') (e3 : n = nI n') (b1 : sp' < 2 ^ 31) (b2 : dp' < 2 ^ 31) (b3 : n' < 2 ^ 31) (h4 : sp' + n' ≤ n0) (h5 : dp' + n' ≤ n1) (hct : ∀ i, i < n' → ∀ y, f (sp' + i) = some y → y ∈ xs)
    (hframes : 1 ≤ R.frames) (hlocals : (rest.map fun v => v.category).sum + (nativeFrameWords "java/lang/System" "arraycopy" 5 + 11) ≤ R.locals) (hdg : decode cc pc = .ok (.invokestatic index, 3))
    (kk : ∀ (H1 : Heap) (locs1 : List Loc), mW γ (mU M a (.inl (gA γ 3, n1, .inr (.inr (.inr (.inr (va_cpy f g sp' dp' n'))))))) s H1 locs1 → W p l e R s m args below meth c H1 locs1 cells slots Q (F0 m (pc + 3) ls rest)) : W p l e R s m args below meth c H locs cells slots Q (F0 m pc ls (.int n :: .int dp :: .ref a :: .int sp :: .ref a0 :: rest)) := by
  subst e1 e2 e3
  obtain ⟨r, hr, hc⟩ := hw.2.2.1.cast hE.1
  have rcv : ∀ y, y ∈ xs → ∃ cellV : Cell, H[y]? = some cellV ∧ cellV.vm.isStatics = false ∧ s.vm.findClass r.1 = some cellV.cls := fun y hy => by
    obtain ⟨fs, hfs⟩ := hE.2 y hy
    exact hw.recv hfs hr
  obtain ⟨h0, hS, hK, ws, hm, hP, hD⟩ := hw
  obtain ⟨q0, hq0⟩ := hm _ _ he0
  obtain ⟨q1, hq1⟩ := hm _ _ he1
  have c1 := nI_clamp b1
  have c2 := nI_clamp b2
  have c3 := nI_clamp b3
  refine va_copyq S.1 S.2.1 (S.2.2.1.trans hls.symm) S.2.2.2.1 (S.2.2.2.2 _ (gc hl)) (S.2.2.2.2 _ (gc gN483)) (S.2.2.2.2 _ (gc g482)) (S.2.2.2.2 _ (gc g58)) hK.1 hP hD hS q0 q1 3 3 hq0 hq1 rfl rfl (nI_pos b1) (nI_pos b2) (nI_pos b3) (by rw [c1, c3]; exact h4) (by rw [c2, c3]; exact h5) (C := r.1)
    (fun i hi y hy => by rw [c3] at hi; rw [c1] at hy; exact rcv y (hct i hi y hy)) (fun comp k0 hf hk0 => ?_) hframes hlocals hdg (fun H1 locs1 hP1 hD1 hS1 => ?_)
  · obtain ⟨k1, t1, f1, f2, f3⟩ := Cond.castable_spec (va_Nw.use (A := args) rfl hc)
    cases hk0.symm.trans f1
    cases hf.symm.trans f2
    exact f3
  · rw [c1, c2, c3] at hP1 hD1
    exact kk H1 locs1 ⟨h0, hS1, hK, _, hm.set hq1, hP1, hD1⟩
theorem m_cast (S : CallFix p m c cc nL s args (c0 :: GG) own) (hw : mW γ M s H locs) {ci index N : Nat} {C : String} {T : u_T} {ty : Nat → FieldType} {fs : List Value} (hc : mC ci C T N ty) (he : M a = some (.inr (ci, fs))) (hl : Cond.classLink own index C ∈ GG) (hdg : decode cc pc = .ok (.checkcast index, 3))
    (kk : W p l e R s m args below meth c H locs cells slots Q (F0 m (pc + 3) ls (.ref a :: rest))) : W p l e R s m args below meth c H locs cells slots Q (F0 m pc ls (.ref a :: rest)) :=
  va_castS S.1 S.2.1 S.2.2.2.1 (S.2.2.2.2 _ (gc hl)) (hw.2.2.1.1.1 ci _ hc.1).2 (hw.recv he hc.1) hdg kk
theorem m_castA (S : CallFix p m c cc nL s args (c0 :: GG) own) (hw : mW γ M s H locs) {index n : Nat} {f : Nat → Option Nat} (he : M a = some (.inl (gA γ 3, n, .inr (.inr (.inr (.inr f)))))) (hl : Cond.classLink own index "[Ljava/lang/Object;" ∈ GG) (hdg : decode cc pc = .ok (.checkcast index, 3))
    (kk : W p l e R s m args below meth c H locs cells slots Q (F0 m (pc + 3) ls (.ref a :: rest))) : W p l e R s m args below meth c H locs cells slots Q (F0 m pc ls (.ref a :: rest)) := by
  obtain ⟨-, -, hK, ws, hm, hP, -⟩ := hw
  obtain ⟨q0, hq⟩ := hm _ _ he
  exact va_castA S.1 S.2.1 S.2.2.2.1 (S.2.2.2.2 _ (gc hl)) hP q0 hq (va_nmO (hK.1.2 3 _ rfl).2 (by decide +kernel)) hdg kk
theorem m_ldcM (S : CallFix p m c cc nL s args (c0 :: GG) own) (hw : mW γ M s H locs) {index : Nat} (hl : Cond.classLink own index "[Ljava/lang/Object;" ∈ GG) (hdg : decode cc pc = .ok (.ldc index, 2))
    (kk : W p l e R s m args below meth c H locs cells slots Q (F0 m (pc + 2) ls (.ref (gm γ) :: rest))) : W p l e R s m args below meth c H locs cells slots Q (F0 m pc ls rest) :=
  va_ldcM S.1 S.2.1 S.2.2.2.1 (S.2.2.2.2 _ (gc hl)) hw.2.2.1.2.2.2.2.1 hdg kk
theorem m_getC (S : CallFix p m c cc nL s args (c0 :: GG) own) (hw : mW γ M s H locs) (hls : ls.size = nL) {index n : Nat} {f : Nat → Option Nat} (he : M a = some (.inl (gA γ 3, n, .inr (.inr (.inr (.inr f)))))) (hl : Cond.methodLink own index ⟨"java/lang/Object", "getClass", "()Ljava/lang/Class;"⟩ ∈ GG) (hframes : 1 ≤ R.frames) (hlocals : (rest.map fun v => v.category).sum + 14 ≤ R.locals) (hdg : decode cc pc = .ok (.invokevirtual index, 3))
    (kk : W p l e R s m args below meth c H locs cells slots Q (F0 m (pc + 3) ls (.ref (gm γ) :: rest))) : W p l e R s m args below meth c H locs cells slots Q (F0 m pc ls (.ref a :: rest)) := by
  have hX := hw.2.2.1.2
  obtain ⟨-, -, hK, ws, hm, hP, -⟩ := hw
  obtain ⟨q0, hq⟩ := hm _ _ he
  refine va_getC S.1 S.2.1 (S.2.2.1.trans hls.symm) S.2.2.2.1 (S.2.2.2.2 _ (gc hl)) hX.2.2.2.2.1.use (S.2.2.2.2 _ (gc g909)) (S.2.2.2.2 _ (gc g461)) (S.2.2.2.2 _ (gc gN473)) hX.2.2.2.1 ⟨_, hP q0 _ hq, rfl, va_nmO (hK.1.2 3 _ rfl).2 (by decide +kernel)⟩ hframes hlocals hdg kk
end MJ
