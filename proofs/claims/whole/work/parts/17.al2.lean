/-! More on lists' cells -/
theorem mEl.new {M : mMap} {ci q : Nat} {xs : List Nat} {e : va_E} (h : mEl M ci xs) (hq : M q = none) : mEl (mU M q e) ci xs := by
  refine ⟨h.1, fun x hx => ?_⟩
  obtain ⟨fs, hfs⟩ := h.2 x hx
  refine ⟨fs, mU_to (fun z => ?_) hfs⟩
  rw [z, hq] at hfs
  cases hfs
theorem mEl.arr {M : mMap} {ci q : Nat} {xs : List Nat} {x : ClassId × vp_A} {e : va_E} (h : mEl M ci xs) (hq : M q = some (.inl x)) : mEl (mU M q e) ci xs := by
  refine ⟨h.1, fun y hy => ?_⟩
  obtain ⟨fs, hfs⟩ := h.2 y hy
  refine ⟨fs, mU_to (fun z => ?_) hfs⟩
  rw [z, hq] at hfs
  cases hfs
theorem mEl.lst {M : mMap} {ci q : Nat} {xs : List Nat} {fs0 : List Value} {e : va_E} (h : mEl M ci xs) (hq : M q = some (.inr (0, fs0))) : mEl (mU M q e) ci xs := by
  refine ⟨h.1, fun y hy => ?_⟩
  obtain ⟨fs, hfs⟩ := h.2 y hy
  refine ⟨fs, mU_to (fun z => ?_) hfs⟩
  rw [z, hq] at hfs
  cases hfs
  rcases h.1 with e | e <;> cases e
theorem mEl.sub {M : mMap} {ci : Nat} {xs ys : List Nat} (h : mEl M ci xs) (hs : ∀ x, x ∈ ys → x ∈ xs) : mEl M ci ys := ⟨h.1, fun x hx => h.2 x (hs x hx)⟩
theorem ct_mem {f : Nat → Option Nat} {xs : List Nat} (h : ct f xs) {n : Nat} (hn : n ≤ xs.length) {k : Nat} (hk : k < n) {y : Nat} (hy : f k = some y) : y ∈ xs := List.mem_of_getElem? ((h k (by omega)).symm.trans hy)
theorem m_fne {M : mMap} {a q : Nat} {e : va_E} (ha : M a = some e) (hq : M q = none) : a ≠ q := by
  intro z
  rw [z, hq] at ha
  cases ha
theorem grow_len {n : Nat} (h2 : 2 ≤ n) (hn : n ≤ 60000) : Int32.ofNat n + (if nI (n + 1) - Int32.ofNat n < Int32.ofNat n >>> ((1 : Int32) &&& 31) then Int32.ofNat n >>> ((1 : Int32) &&& 31) else nI (n + 1) - Int32.ofNat n) = nI (n + n / 2) := by
  have es : Int32.ofNat n >>> ((1 : Int32) &&& 31) = nI (n / 2) := by
    have k := pk_shrN (n := n) (by omega) ((1 : Int32) &&& 31) 1 (by decide)
    rw [Nat.pow_one] at k
    exact k
  have ed : nI (n + 1) - Int32.ofNat n = nI 1 := by
    have k := pk_sub (a := n + 1) (b := n) (by omega)
    rw [Nat.add_sub_cancel_left] at k
    exact k
  rw [es, ed]
  by_cases c : 1 < n / 2
  · rw [if_pos (nI_lt c (by omega))]
    exact nI_add n (n / 2)
  · rw [if_neg (nI_nlt (by omega) (by decide))]
    have hd : n / 2 = 1 := by omega
    rw [hd]
    exact nI_add n 1
theorem Met.mono {l : Launch} {y : MethodName} {ws : List Cond} {rm : Room} {Pc : Array Value → State → Prop} {Qc Qc' : Array Value → State → Outcome → State → Prop} {mc ms : Nat} {free : Addr → Prop} (h : Met l y ws rm Pc Qc mc ms free) (hq : ∀ a s o t, Qc a s o t → Qc' a s o t) : Met l y ws rm Pc Qc' mc ms free := by
  intro p e h1 h2 h3 s m args below h4 h5 h6 h7
  obtain ⟨n, o, g1, g2, g3, g4, g5⟩ := h p e h1 h2 h3 s m args below h4 h5 h6 h7
  exact ⟨n, o, g1, g2, g3, hq _ _ _ _ g4, g5⟩
theorem mQv.mono {γ : mG} {post post' : mMap → Prop} (h : ∀ M, post M → post' M) : ∀ a s o t, mQv γ post a s o t → mQv γ post' a s o t := fun _ _ _ _ ⟨⟨u, h1, h2, h3⟩, h4⟩ => ⟨⟨u, h1, h _ h2, h3⟩, h4⟩
theorem mQi.mono {γ : mG} {post post' : Int32 → mMap → Prop} (h : ∀ r M, post r M → post' r M) : ∀ a s o t, mQi γ post a s o t → mQi γ post' a s o t := fun _ _ _ _ ⟨⟨r, u, h1, h2, h3⟩, h4⟩ => ⟨⟨r, u, h1, h _ _ h2, h3⟩, h4⟩
theorem mQq.mono {γ : mG} {post post' : Option Nat → mMap → Prop} (h : ∀ r M, post r M → post' r M) : ∀ a s o t, mQq γ post a s o t → mQq γ post' a s o t := fun _ _ _ _ ⟨⟨r, u, h1, h2, h3⟩, h4⟩ => ⟨⟨r, u, h1, h _ _ h2, h3⟩, h4⟩
