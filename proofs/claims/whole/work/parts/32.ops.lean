/-! What the calls do, in numbers -/
theorem s1_comm {I : Co} {f g o p : Nat} {v w : Int32} (h : f ≠ g) : s1 (s1 I f o v) g p w = s1 (s1 I g p w) f o v := by
  funext k x
  by_cases hg : k = g
  · subst hg
    rw [s1_c, s1_f (f' := k) (f := f) (fun z => h z.symm), s1_f (f' := k) (f := f) (fun z => h z.symm), s1_c]
  · rw [s1_f (f' := k) (f := g) hg]
    by_cases hf : k = f
    · subst hf
      rw [s1_c, s1_c, s1_f (f' := k) (f := g) hg]
    · rw [s1_f (f' := k) (f := f) hf, s1_f (f' := k) (f := f) hf, s1_f (f' := k) (f := g) hg]
theorem s1_self {I : Co} {f o : Nat} {v w : Int32} : s1 (s1 I f o v) f o w = s1 I f o w := by
  funext k x
  by_cases hf : k = f
  · subst hf
    by_cases hx : x = o
    · subst hx; rw [s1_ss, s1_ss]
    · rw [s1_so hx, s1_so hx, s1_so hx]
  · rw [s1_f hf, s1_f hf, s1_f hf]
theorem s1_same {I : Co} {f o : Nat} {v : Int32} (h : I f o = v) : s1 I f o v = I := by
  funext k x
  by_cases hf : k = f
  · subst hf
    by_cases hx : x = o
    · subst hx; rw [s1_ss, h]
    · rw [s1_so hx]
  · rw [s1_f hf]
def sj (b : Int32) : Nat := if b = 0 then 2 else 1
theorem sj_or (b : Int32) : sj b = 1 ∨ sj b = 2 := by
  unfold sj
  split
  · exact Or.inr rfl
  · exact Or.inl rfl
/-- what an order may show -/
def shw (I : Co) (o : Nat) : Int32 := if 0 < I 8 o ∧ I 8 o < I 3 o then I 8 o else I 3 o
theorem shw_eq {I : Co} {o : Nat} (h : 0 ≤ (I 8 o).toInt) : (if I 8 o = 0 then I 3 o else (if I 8 o < I 3 o then I 8 o else I 3 o)) = shw I o := by
  unfold shw
  by_cases h0 : I 8 o = 0
  · rw [if_pos h0, if_neg (fun z => by rw [h0] at z; exact absurd z.1 (by decide))]
  · rw [if_neg h0]
    have hp : (0 : Int32) < I 8 o := by
      rw [Int32.lt_iff_toInt_lt, i0]
      have : (I 8 o).toInt ≠ 0 := fun z => h0 (Int32.toInt_inj.mp (z.trans i0.symm))
      omega
    by_cases h1 : I 8 o < I 3 o
    · rw [if_pos h1, if_pos ⟨hp, h1⟩]
    · rw [if_neg h1, if_neg (fun z => h1 z.2)]
def xEnd (σ : St) (o : Nat) : St := ((sn σ, s1 (s1 (s1 (sI σ) 3 o 0) 4 o 0) 5 o (-1)), σ.2)
def xShow (σ : St) (o : Nat) : St := ((sn σ, s1 (sI σ) 4 o (shw (sI σ) o)), σ.2)
def xRest (σ : St) (o : Nat) : St := ((sn σ, s1 (s1 (sI σ) 5 o (srk σ)) 4 o (shw (sI σ) o)), (sph σ, srf σ, sbd σ, srk σ + 1), σ.2.2)
/-- a trade of a with b: left, traded; the trade's row -/
def dI (I : Co) (a b : Nat) (q : Int32) : Co := s1 (s1 (s1 (s1 I 3 a (I 3 a - q)) 3 b ((s1 I 3 a (I 3 a - q)) 3 b - q)) 7 a (I 7 a + q)) 7 b ((s1 I 7 a (I 7 a + q)) 7 b + q)
def dT (T : Co) (t : Nat) (b s p q : Int32) : Co := s1 (s1 (s1 (s1 T 0 t b) 1 t s) 2 t p) 3 t q
def xDeal (σ : St) (a b : Nat) (p q : Int32) : St := ((sn σ, dI (sI σ) a b q), σ.2.1, stn σ + 1, dT (sT σ) (stn σ) (if sI σ 1 a = 0 then nI b else nI a) (if sI σ 1 a = 0 then nI a else nI b) p q, sal σ + q.toInt64)
theorem dT_old {T : Co} {t : Nat} {b s p q : Int32} {k i : Nat} (h : i ≠ t) : dT T t b s p q k i = T k i := by
  unfold dT
  rw [s1_o h, s1_o h, s1_o h, s1_o h]
theorem dT_0 {T : Co} {t : Nat} {b s p q : Int32} : dT T t b s p q 0 t = b := by
  unfold dT
  rw [s1_f (f' := 0) (f := 3) (by decide), s1_f (f' := 0) (f := 2) (by decide), s1_f (f' := 0) (f := 1) (by decide), s1_ss]
theorem dT_1 {T : Co} {t : Nat} {b s p q : Int32} : dT T t b s p q 1 t = s := by
  unfold dT
  rw [s1_f (f' := 1) (f := 3) (by decide), s1_f (f' := 1) (f := 2) (by decide), s1_ss]
theorem dT_2 {T : Co} {t : Nat} {b s p q : Int32} : dT T t b s p q 2 t = p := by
  unfold dT
  rw [s1_f (f' := 2) (f := 3) (by decide), s1_ss]
theorem dT_3 {T : Co} {t : Nat} {b s p q : Int32} : dT T t b s p q 3 t = q := by
  unfold dT
  rw [s1_ss]
/-- two orders give, one after the other: the same in either order -/
def gv (I : Co) (o : Nat) (q : Int32) : Co := s1 (s1 I 3 o (I 3 o - q)) 7 o (I 7 o + q)
theorem gv_gv {I : Co} {a b : Nat} {q : Int32} (h : a ≠ b) : gv (gv I a q) b q = dI I a b q := by
  unfold gv dI
  have e3 : (s1 (s1 I 3 a (I 3 a - q)) 7 a (I 7 a + q)) 3 b = I 3 b := by rw [s1_f (f' := 3) (f := 7) (by decide), s1_so (fun z => h z.symm)]
  have e7 : (s1 (s1 I 3 a (I 3 a - q)) 7 a (I 7 a + q)) 7 b = I 7 b := by rw [s1_so (fun z => h z.symm), s1_f (f' := 7) (f := 3) (by decide)]
  rw [e3, e7, s1_so (fun z => h z.symm), s1_so (fun z => h z.symm), s1_comm (f := 7) (g := 3) (by decide)]
theorem dI_comm {I : Co} {a b : Nat} {q : Int32} (h : a ≠ b) : dI I a b q = dI I b a q := by
  unfold dI
  funext k x
  rw [s1_so (I := I) (fun z => h z.symm), s1_so (I := I) (f := 7) (fun z => h z.symm), s1_so (I := I) h, s1_so (I := I) (f := 7) h]
  by_cases h7 : k = 7
  · subst h7
    by_cases xb : x = b
    · subst xb
      rw [s1_ss, s1_so (fun z => h z.symm), s1_ss]
    · rw [s1_so xb]
      by_cases xa : x = a
      · subst xa; rw [s1_ss, s1_ss]
      · rw [s1_so xa, s1_so xa, s1_so xb]
        rw [s1_f (f' := 7) (f := 3) (by decide), s1_f (f' := 7) (f := 3) (by decide), s1_f (f' := 7) (f := 3) (by decide), s1_f (f' := 7) (f := 3) (by decide)]
  · rw [s1_f h7, s1_f h7, s1_f h7, s1_f h7]
    by_cases h3 : k = 3
    · subst h3
      by_cases xb : x = b
      · subst xb
        rw [s1_ss, s1_so (fun z => h z.symm), s1_ss]
      · rw [s1_so xb]
        by_cases xa : x = a
        · subst xa; rw [s1_ss, s1_ss]
        · rw [s1_so xa, s1_so xa, s1_so xb]
    · rw [s1_f h3, s1_f h3, s1_f h3, s1_f h3]
theorem oc_gv (I : Co) (o : Nat) (q : Int32) : oc (gv I o q) o = [.int (nI o), .int (I 0 o), .int (I 1 o), .int (I 8 o), .int (I 6 o), .int (I 2 o), .int (I 3 o - q), .int (I 4 o), .int (I 5 o), .int (I 7 o + q)] := by
  unfold gv
  rw [oc_7]
  simp [s1_ss, s1_f]
theorem gv_o {I : Co} {o x f : Nat} {q : Int32} (h : x ≠ o) : gv I o q f x = I f x := by
  unfold gv
  rw [s1_o h, s1_o h]
def aI (x : Int32) : Int32 := if 0 ≤ x then x else 0 - x
/-- beyond the band, as the class works it out -/
def byc (rf bd p : Int32) : Bool := decide (¬ bd = 0) && decide (bd < aI (p - rf))
theorem sj_if {β : BK} {b : Int32} : (if b = 0 then bsd β 2 else bsd β 1) = bsd β (sj b) := by
  unfold sj
  split <;> rfl
theorem mW.gz {γ : mG} {M : mMap} {s : State} {H : Heap} {locs : List Loc} (h : mW γ M s H locs) : ∀ q, γ.2.2.1 ≤ q → q ≠ ge γ := by
  intro q hq e
  obtain ⟨_, -, -, -, -, -, -, h2⟩ := h.2.2.1.2.2.1
  exact h2 (e ▸ hq)
theorem xEnd_eq {σ : St} {o : Nat} : ((sn σ, s1 (s1 (s1 (sI σ) 5 o (-1)) 3 o 0) 4 o 0), σ.2) = xEnd σ o := by
  unfold xEnd
  rw [s1_comm (f := 5) (g := 3) (by decide), s1_comm (f := 5) (g := 4) (by decide)]
theorem xEnd_eq0 {σ : St} {o : Nat} (h : sI σ 5 o = -1) : ((sn σ, s1 (s1 (sI σ) 3 o 0) 4 o 0), σ.2) = xEnd σ o := by
  unfold xEnd
  rw [s1_same (I := s1 (s1 (sI σ) 3 o 0) 4 o 0)]
  rw [s1_f (f' := 5) (f := 4) (by decide), s1_f (f' := 5) (f := 3) (by decide)]
  exact h
theorem xRest_eq {σ : St} {o : Nat} {p : Int32 × Int32 × Int32 × Int32} (hp : p = (sph σ, srf σ, sbd σ, srk σ + 1)) : ((sn σ, s1 (s1 (sI σ) 4 o (shw (sI σ) o)) 5 o (srk σ)), p, σ.2.2) = xRest σ o := by
  unfold xRest
  rw [hp, s1_comm (f := 4) (g := 5) (by decide)]
theorem mU_g {M : mMap} {g b : Nat} {e e0 : va_E} (hg : M g = none) (hb : M b = some e0) : mU M b e g = none := (mU_ne (m_fne hb hg).symm).trans hg
theorem up_same {α : Type} (f : Nat → α) (j : Nat) : va_up f j (f j) = f := by
  funext k
  unfold va_up
  by_cases h : k = j
  · rw [if_pos h, h]
  · rw [if_neg h]
theorem map_first {oa : Nat → Nat} {L : List Nat} {k o n : Nat} (hk : L[k]? = some o) (hnd : L.Nodup) (hL : ∀ y, y ∈ L → y < n) (hinj : ∀ a b, a < n → b < n → oa a = oa b → a = b) : (L.map oa)[k]? = some (oa o) ∧ ∀ j, j < k → (L.map oa)[j]? ≠ some (oa o) := by
  refine ⟨by rw [List.getElem?_map, hk]; rfl, fun j hj e => ?_⟩
  have hkl := (List.getElem?_eq_some_iff.mp hk).1
  have hjl : j < L.length := by omega
  rw [List.getElem?_map, List.getElem?_eq_getElem hjl] at e
  have e1 : oa L[j] = oa o := Option.some.inj e
  have e2 := hinj _ _ (hL _ (List.getElem_mem hjl)) (hL o (List.mem_of_getElem? hk)) e1
  have e3 : L[j]? = L[k]? := by rw [List.getElem?_eq_getElem hjl, hk, e2]
  have := (List.getElem?_inj hjl hnd).mp e3
  omega
