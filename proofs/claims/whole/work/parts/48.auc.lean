/-! Working out the one price, in numbers -/
abbrev AU : Type := Int32 × Int64 × Int64
def auc (a : AU) : List Value := [.int a.1, .long a.2.1, .long a.2.2]
def aL (x : Int64) : Int64 := if 0 < x then x else -x
def aBet (p : Int32) (mv ov : Int64) (rf : Int32) (a : AU) : Bool := if mv = a.2.1 then (if aL ov = aL a.2.2 then decide (aI (p - rf) < aI (a.1 - rf)) else decide (aL ov < aL a.2.2)) else decide (a.2.1 < mv)
def aMv (w o : Int64) : Int64 := if o < w then o else w
def aWgh (p : Int32) (w o : Int64) (rf : Int32) (a : AU) : AU := if 0 < aMv w o ∧ aBet p (aMv w o) (w - o) rf a = true then (p, aMv w o, w - o) else a
/-- what is left of a line's orders -/
def lSum (I : Co) : List Nat → Int64
  | [] => 0
  | r :: t => (I 3 r).toInt64 + lSum I t
def sIf (I : Co) (P : Nat → Bool) : List Nat → Int64
  | [] => 0
  | r :: t => if P r = true then (I 3 r).toInt64 + sIf I P t else sIf I P t
def aAt (I : Co) (K1 K2 : List Nat) (rf : Int32) : Nat → AU
  | 0 => (-1, 0, 0)
  | k + 1 => aWgh (nI (k + 1)) (sIf I (fun r => tk I r (nI (k + 1))) K1) (sIf I (fun r => tk I r (nI (k + 1))) K2) rf (aAt I K1 K2 rf k)
theorem mU_same {M : mMap} {a : Nat} {e : va_E} (h : M a = some e) : mU M a e = M := by
  funext b
  by_cases z : b = a
  · rw [z, mU_eq, h]
  · rw [mU_ne z]
theorem lSum_app (I : Co) (r : Nat) : ∀ (t : List Nat), lSum I (t ++ [r]) = lSum I t + (I 3 r).toInt64 := by
  intro t
  induction t with
  | nil => show (I 3 r).toInt64 + 0 = 0 + (I 3 r).toInt64; rw [Int64.add_zero, Int64.zero_add]
  | cons x t ih => show (I 3 x).toInt64 + lSum I (t ++ [r]) = _ + lSum I t + _; rw [ih, Int64.add_assoc]
theorem take_s {K : List Nat} {i : Nat} (h : i < K.length) : K.take (i + 1) = K.take i ++ [K[i]] := by rw [List.take_succ, List.getElem?_eq_getElem h]; rfl
theorem lSum_up {I : Co} {K : List Nat} {i : Nat} (h : i < K.length) : lSum I (K.take (i + 1)) = lSum I (K.take i) + (I 3 K[i]).toInt64 := by rw [take_s h, lSum_app]
theorem lSum_dn {I : Co} {K : List Nat} {i : Nat} (h : i < K.length) : lSum I (K.take (i + 1)) - (I 3 K[i]).toInt64 = lSum I (K.take i) := by rw [lSum_up h, Int64.add_sub_cancel]
theorem sIf_all {I : Co} {P : Nat → Bool} : ∀ {t : List Nat}, (∀ x, x ∈ t → P x = true) → sIf I P t = lSum I t := by
  intro t
  induction t with
  | nil => intro _; rfl
  | cons x t ih =>
    intro h
    show (if _ then _ else _) = _
    rw [if_pos (h x List.mem_cons_self), ih (fun y hy => h y (List.mem_cons_of_mem _ hy))]
    rfl
theorem sIf_no {I : Co} {P : Nat → Bool} : ∀ {t : List Nat}, (∀ x, x ∈ t → P x = false) → sIf I P t = 0 := by
  intro t
  induction t with
  | nil => intro _; rfl
  | cons x t ih =>
    intro h
    show (if _ then _ else _) = _
    rw [if_neg (by rw [h x List.mem_cons_self]; decide), ih (fun y hy => h y (List.mem_cons_of_mem _ hy))]
theorem sIf_app {I : Co} {P : Nat → Bool} {u : List Nat} : ∀ {t : List Nat}, sIf I P (t ++ u) = sIf I P t + sIf I P u := by
  intro t
  induction t with
  | nil => show _ = 0 + _; rw [Int64.zero_add]; rfl
  | cons x t ih =>
    show (if P x = true then (I 3 x).toInt64 + sIf I P (t ++ u) else sIf I P (t ++ u)) = (if P x = true then (I 3 x).toInt64 + sIf I P t else sIf I P t) + sIf I P u
    by_cases h : P x = true
    · rw [if_pos h, if_pos h, ih, Int64.add_assoc]
    · rw [if_neg h, if_neg h, ih]
theorem sIf_cut {I : Co} {P : Nat → Bool} {K : List Nat} {k : Nat} (h1 : ∀ x, x ∈ K.take k → P x = true) (h2 : ∀ x, x ∈ K.drop k → P x = false) : sIf I P K = lSum I (K.take k) := by
  have e := sIf_app (I := I) (P := P) (t := K.take k) (u := K.drop k)
  rw [List.take_append_drop] at e
  rw [e, sIf_all h1, sIf_no h2, Int64.add_zero]
theorem tk_iff {I : Co} {o : Nat} {p : Int32} : tk I o p = true ↔ ((I 2 o).toInt = 0 ∨ ((I 1 o).toInt = 0 ∧ (I 2 o).toInt ≤ p.toInt) ∨ ((I 1 o).toInt ≠ 0 ∧ p.toInt ≤ (I 2 o).toInt)) := by
  have e2 : ∀ x : Int32, x = 0 ↔ x.toInt = 0 := fun x => by rw [← Int32.toInt_inj, i0]
  unfold tk
  by_cases h : I 1 o = 0
  · have h' := (e2 _).mp h
    rw [if_pos h]
    simp only [Bool.or_eq_true, decide_eq_true_eq, Int32.le_iff_toInt_le, e2, h']
    simp
  · have h' : ¬ (I 1 o).toInt = 0 := fun z => h ((e2 _).mpr z)
    rw [if_neg h]
    simp only [Bool.or_eq_true, decide_eq_true_eq, Int32.le_iff_toInt_le, e2]
    simp [h']
/-- who stands before takes whatever one behind takes -/
theorem bf_tk {I : Co} {a b : Nat} {p : Int32} (hs : I 1 a = I 1 b) (pa : 0 ≤ (I 2 a).toInt) (pb : 0 ≤ (I 2 b).toInt) (h : bf I a b = true) (ht : tk I b p = true) : tk I a p = true := by
  rw [bf_iff] at h
  rw [tk_iff] at *
  rw [hs] at *
  omega
section CUT
variable {I : Co} {n : Nat} {s : Int32} {K : List Nat} {p : Int32}
theorem Line.pre (hO : oOK I n) (h : Line I n s K) {k : Nat} (hk : k < K.length) (ht : tk I K[k] p = true) : ∀ x, x ∈ K.take (k + 1) → tk I x p = true := by
  intro x hx
  obtain ⟨j, hj, e⟩ := List.mem_iff_getElem.mp hx
  rw [List.length_take] at hj
  rw [List.getElem_take] at e
  by_cases z : j = k
  · subst z; rw [← e]; exact ht
  · have hj2 : j < K.length := by omega
    have h1 := (List.pairwise_iff_getElem.mp h.2) j k hj2 hk (by omega)
    have ma := (h.1 _).mp (List.getElem_mem hj2)
    have mb := (h.1 _).mp (List.getElem_mem hk)
    rw [← e]
    exact bf_tk ((onS_iff.mp ma.2).2.trans (onS_iff.mp mb.2).2.symm) (hO.1 _ ma.1).1 (hO.1 _ mb.1).1 h1 ht
theorem Line.suf (hO : oOK I n) (h : Line I n s K) {k : Nat} (hk : k < K.length) (ht : tk I K[k] p = false) : ∀ x, x ∈ K.drop k → tk I x p = false := by
  intro x hx
  cases hx9 : tk I x p with
  | false => rfl
  | true =>
    exfalso
    obtain ⟨j, hj, e⟩ := List.mem_iff_getElem.mp hx
    rw [List.length_drop] at hj
    rw [List.getElem_drop] at e
    have hkj : k + j < K.length := by omega
    have h9 := h.pre hO (p := p) hkj (by rw [e]; exact hx9) K[k] (by
      rw [List.mem_iff_getElem]
      exact ⟨k, by rw [List.length_take]; omega, by rw [List.getElem_take]⟩)
    rw [ht] at h9
    cases h9
end CUT
theorem tk_b {I : Co} {o : Nat} {p q : Int32} (hs : I 1 o = 1) (h : p.toInt ≤ q.toInt) (ht : tk I o p = false) : tk I o q = false := by
  cases h9 : tk I o q with
  | false => rfl
  | true =>
    have h8 : ¬ tk I o p = true := by rw [ht]; decide
    rw [tk_iff] at *
    rw [hs, i_1] at *
    omega
theorem tk_s {I : Co} {o : Nat} {p q : Int32} (hs : I 1 o = 0) (h : p.toInt ≤ q.toInt) (ht : tk I o p = true) : tk I o q = true := by
  rw [tk_iff] at *
  rw [hs, i0] at *
  omega
