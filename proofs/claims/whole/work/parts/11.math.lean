/-! The state in numbers: columns of orders (0 owner, 1 buys, 2 price, 3 left, 4 shown, 5 rank, 6 life, 7 traded, 8 peak) -/
abbrev Co : Type := Nat → Nat → Int32
def s1 (I : Co) (f o : Nat) (v : Int32) : Co := va_up I f (upd (I f) o v)
theorem s1_f {I : Co} {f f' o : Nat} {v : Int32} (h : f' ≠ f) : s1 I f o v f' = I f' := if_neg h
theorem s1_c (I : Co) (f o : Nat) (v : Int32) : s1 I f o v f = upd (I f) o v := if_pos rfl
theorem s1_ss (I : Co) (f o : Nat) (v : Int32) : s1 I f o v f o = v := by rw [s1_c]; exact if_pos rfl
theorem s1_so {I : Co} {f o o' : Nat} {v : Int32} (h : o' ≠ o) : s1 I f o v f o' = I f o' := by rw [s1_c]; exact if_neg h
theorem s1_o {I : Co} {f f' o o' : Nat} {v : Int32} (h : o' ≠ o) : s1 I f o v f' o' = I f' o' := by
  by_cases hf : f' = f
  · subst hf; exact s1_so h
  · rw [s1_f hf]
def b2i (b : Bool) : Int32 := if b = true then 1 else 0
/-- a stands before b -/
def bf (I : Co) (a b : Nat) : Bool := if I 2 a = I 2 b then decide (I 5 a < I 5 b) else (decide (I 2 a = 0) || (decide (0 < I 2 b) && (if I 1 a = 0 then decide (I 2 a < I 2 b) else decide (I 2 b < I 2 a))))
def rs (I : Co) (o : Nat) : Bool := decide (0 ≤ I 5 o)
def onS (I : Co) (s : Int32) (o : Nat) : Bool := rs I o && decide (I 1 o = s)
theorem i0 : (0 : Int32).toInt = 0 := by decide
theorem bf_iff (I : Co) (a b : Nat) : bf I a b = true ↔ (((I 2 a).toInt = (I 2 b).toInt ∧ (I 5 a).toInt < (I 5 b).toInt) ∨ ((I 2 a).toInt ≠ (I 2 b).toInt ∧ ((I 2 a).toInt = 0 ∨ (0 < (I 2 b).toInt ∧ (((I 1 a).toInt = 0 ∧ (I 2 a).toInt < (I 2 b).toInt) ∨ ((I 1 a).toInt ≠ 0 ∧ (I 2 b).toInt < (I 2 a).toInt)))))) := by
  have e2 : ∀ x : Int32, x = 0 ↔ x.toInt = 0 := fun x => by rw [← Int32.toInt_inj, i0]
  have e3 : ∀ x : Int32, 0 < x ↔ 0 < x.toInt := fun x => by rw [Int32.lt_iff_toInt_lt, i0]
  unfold bf
  by_cases h1 : I 2 a = I 2 b
  · rw [if_pos h1, decide_eq_true_eq, Int32.lt_iff_toInt_lt, h1]
    simp
  · have h1' : (I 2 a).toInt ≠ (I 2 b).toInt := fun h => h1 (Int32.toInt_inj.mp h)
    rw [if_neg h1]
    by_cases h2 : I 1 a = 0
    · have h2' := (e2 _).mp h2
      rw [if_pos h2]
      simp only [Bool.or_eq_true, Bool.and_eq_true, decide_eq_true_eq, Int32.lt_iff_toInt_lt, i0, e2, h2']
      simp [h1']
    · have h2' : (I 1 a).toInt ≠ 0 := fun h => h2 ((e2 _).mpr h)
      rw [if_neg h2]
      simp only [Bool.or_eq_true, Bool.and_eq_true, decide_eq_true_eq, Int32.lt_iff_toInt_lt, i0, e2]
      simp [h1', h2']
theorem bf_irrefl (I : Co) (a : Nat) : bf I a a = false := by
  unfold bf
  rw [if_pos rfl]
  simp
theorem bf_trans {I : Co} {a b c : Nat} (hab : I 1 a = I 1 b) (hbc : I 1 b = I 1 c) (pa : 0 ≤ (I 2 a).toInt) (pb : 0 ≤ (I 2 b).toInt) (pc : 0 ≤ (I 2 c).toInt) (h1 : bf I a b = true) (h2 : bf I b c = true) : bf I a c = true := by
  rw [bf_iff] at *
  rw [hab] at *
  omega
theorem bf_asym {I : Co} {a b : Nat} (hab : I 1 a = I 1 b) (pa : 0 ≤ (I 2 a).toInt) (pb : 0 ≤ (I 2 b).toInt) (h1 : bf I a b = true) : bf I b a = false := by
  cases h : bf I b a with
  | false => rfl
  | true =>
    rw [bf_iff] at *
    rw [hab] at *
    omega
theorem bf_total {I : Co} {a b : Nat} (hab : I 1 a = I 1 b) (pa : 0 ≤ (I 2 a).toInt) (pb : 0 ≤ (I 2 b).toInt) (hr : I 5 a = I 5 b → a = b) (h : bf I a b = false) : a = b ∨ bf I b a = true := by
  by_cases e : a = b
  · exact Or.inl e
  · refine Or.inr ?_
    have hr' : (I 5 a).toInt ≠ (I 5 b).toInt := fun z => e (hr (Int32.toInt_inj.mp z))
    have h' : ¬ bf I a b = true := by rw [h]; decide
    rw [bf_iff] at *
    rw [hab] at *
    omega
/-- the orders are in order: prices, sides, ranks -/
def oOK (I : Co) (n : Nat) : Prop := (∀ o, o < n → 0 ≤ (I 2 o).toInt ∧ (I 2 o).toInt ≤ 2000 ∧ (I 1 o = 0 ∨ I 1 o = 1)) ∧ ∀ a b, a < n → b < n → rs I a = true → rs I b = true → I 5 a = I 5 b → a = b
/-- the line of a side -/
def Line (I : Co) (n : Nat) (s : Int32) (L : List Nat) : Prop := (∀ o, o ∈ L ↔ (o < n ∧ onS I s o = true)) ∧ L.Pairwise (fun a b => bf I a b = true)
theorem onS_iff {I : Co} {s : Int32} {o : Nat} : onS I s o = true ↔ (rs I o = true ∧ I 1 o = s) := by
  unfold onS
  rw [Bool.and_eq_true, decide_eq_true_eq]
def fst (I : Co) (s : Int32) : Nat → Option Nat
  | 0 => none
  | k + 1 => match fst I s k with
    | none => if onS I s k = true then some k else none
    | some f => if (onS I s k && bf I k f) = true then some k else some f
theorem fst_none {I : Co} {s : Int32} : ∀ {k : Nat}, fst I s k = none → ∀ o, o < k → onS I s o = false := by
  intro k
  induction k with
  | zero => intro _ o h; omega
  | succ k ih =>
    intro h o ho
    unfold fst at h
    cases hf : fst I s k with
    | none =>
      rw [hf] at h
      by_cases hk : onS I s k = true
      · simp [hk] at h
      · rcases Nat.lt_succ_iff_lt_or_eq.mp ho with h1 | h1
        · exact ih hf o h1
        · subst h1; simpa using hk
    | some f =>
      rw [hf] at h
      dsimp only at h
      split at h <;> cases h
theorem fst_some {I : Co} {s : Int32} {n : Nat} (hI : oOK I n) : ∀ {k f : Nat}, k ≤ n → fst I s k = some f → f < k ∧ onS I s f = true ∧ ∀ o, o < k → onS I s o = true → o = f ∨ bf I f o = true := by
  intro k
  induction k with
  | zero => intro f _ h; cases h
  | succ k ih =>
    intro f hk h
    unfold fst at h
    cases hf : fst I s k with
    | none =>
      rw [hf] at h
      dsimp only at h
      split at h
      · cases h
        rename_i hs
        refine ⟨Nat.lt_succ_self k, hs, fun o ho hs' => ?_⟩
        rcases Nat.lt_succ_iff_lt_or_eq.mp ho with h1 | h1
        · rw [fst_none hf o h1] at hs'; cases hs'
        · exact Or.inl h1
      · cases h
    | some g =>
      obtain ⟨h1, h2, h3⟩ := ih (by omega) hf
      rw [hf] at h
      dsimp only at h
      have side : ∀ x y, onS I s x = true → onS I s y = true → I 1 x = I 1 y := fun x y hx hy => (onS_iff.mp hx).2.trans (onS_iff.mp hy).2.symm
      split at h
      · cases h
        rename_i hs
        rw [Bool.and_eq_true] at hs
        refine ⟨Nat.lt_succ_self k, hs.1, fun o ho hs' => ?_⟩
        rcases Nat.lt_succ_iff_lt_or_eq.mp ho with q | q
        · rcases h3 o q hs' with e | e
          · subst e; exact Or.inr hs.2
          · exact Or.inr (bf_trans (side _ _ hs.1 h2) (side _ _ h2 hs') (hI.1 k (by omega)).1 (hI.1 g (by omega)).1 (hI.1 o (by omega)).1 hs.2 e)
        · exact Or.inl q
      · cases h
        rename_i hs
        refine ⟨by omega, h2, fun o ho hs' => ?_⟩
        rcases Nat.lt_succ_iff_lt_or_eq.mp ho with q | q
        · exact h3 o q hs'
        · subst q
          have hb : bf I o f = false := by
            cases hb : bf I o f with
            | false => rfl
            | true => exact absurd (by rw [hs', hb]; rfl) hs
          exact bf_total (side _ _ hs' h2) (hI.1 o (by omega)).1 (hI.1 f (by omega)).1 (fun e => hI.2 o f (by omega) (by omega) (onS_iff.mp hs').1 (onS_iff.mp h2).1 e) hb
theorem Line.hd {I : Co} {s : Int32} {n : Nat} {L : List Nat} (hI : oOK I n) (h : Line I n s L) : fst I s n = L.head? := by
  cases hf : fst I s n with
  | none =>
    cases L with
    | nil => rfl
    | cons a t =>
      obtain ⟨h1, h2⟩ := (h.1 a).mp List.mem_cons_self
      rw [fst_none hf a h1] at h2
      cases h2
  | some f =>
    obtain ⟨h1, h2, h3⟩ := fst_some hI (Nat.le_refl n) hf
    have hm := (h.1 f).mpr ⟨h1, h2⟩
    cases L with
    | nil => cases hm
    | cons a t =>
      obtain ⟨q1, q2⟩ := (h.1 a).mp List.mem_cons_self
      rcases h3 a q1 q2 with e | e
      · rw [e]; rfl
      · rcases List.mem_cons.mp hm with e' | e'
        · rw [e']; rfl
        · have hb := List.rel_of_pairwise_cons h.2 e'
          have := bf_asym ((onS_iff.mp h2).2.trans (onS_iff.mp q2).2.symm) (hI.1 f h1).1 (hI.1 a q1).1 e
          rw [hb] at this
          cases this
/-- sums over the first k -/
def gs (f : Nat → Int64) : Nat → Int64
  | 0 => 0
  | k + 1 => gs f k + f k
theorem gs_congr {f g : Nat → Int64} : ∀ {k : Nat}, (∀ o, o < k → f o = g o) → gs f k = gs g k := by
  intro k
  induction k with
  | zero => intro _; rfl
  | succ k ih =>
    intro h
    show gs f k + f k = gs g k + g k
    rw [ih (fun o ho => h o (by omega)), h k (by omega)]
theorem gs_add (f g : Nat → Int64) : ∀ k : Nat, gs (fun o => f o + g o) k = gs f k + gs g k := by
  intro k
  induction k with
  | zero => show (0 : Int64) = 0 + 0; decide
  | succ k ih =>
    show gs (fun o => f o + g o) k + (f k + g k) = (gs f k + f k) + (gs g k + g k)
    rw [ih, Int64.add_assoc, Int64.add_assoc, ← Int64.add_assoc (gs g k) (f k) (g k), Int64.add_comm (gs g k) (f k), Int64.add_assoc (f k) (gs g k) (g k)]
theorem gs_zero : ∀ k : Nat, gs (fun _ => 0) k = 0 := by
  intro k
  induction k with
  | zero => rfl
  | succ k ih => show gs (fun _ => 0) k + 0 = 0; rw [ih]; decide
theorem gs_one {a : Nat} {v : Int64} : ∀ {k : Nat}, gs (fun o => if o = a then v else 0) k = if a < k then v else 0 := by
  intro k
  induction k with
  | zero => rfl
  | succ k ih =>
    show gs (fun o => if o = a then v else 0) k + (if k = a then v else 0) = _
    rw [ih]
    by_cases h : k = a
    · subst h; rw [if_neg (Nat.lt_irrefl _), if_pos rfl, if_pos (Nat.lt_succ_self _), Int64.zero_add]
    · by_cases h2 : a < k
      · rw [if_pos h2, if_neg h, if_pos (by omega), Int64.add_zero]
      · rw [if_neg h2, if_neg h, if_neg (by omega), Int64.add_zero]
def lsum (f : Nat → Int64) : List Nat → Int64
  | [] => 0
  | a :: t => f a + lsum f t
theorem gs_list {f : Nat → Int64} {n : Nat} : ∀ {L : List Nat}, L.Nodup → (∀ o, o ∈ L → o < n) → gs (fun o => if o ∈ L then f o else 0) n = lsum f L := by
  intro L
  induction L with
  | nil =>
    intro _ _
    rw [gs_congr (g := fun _ => 0) (fun o _ => by simp), gs_zero]
    rfl
  | cons a t ih =>
    intro hn hl
    have hn' := List.nodup_cons.mp hn
    have e : gs (fun o => if o ∈ a :: t then f o else 0) n = gs (fun o => (if o = a then f a else 0) + (if o ∈ t then f o else 0)) n := by
      apply gs_congr
      intro o _
      by_cases h : o = a
      · subst h; rw [if_pos List.mem_cons_self, if_pos rfl, if_neg hn'.1, Int64.add_zero]
      · by_cases h2 : o ∈ t
        · rw [if_pos (List.mem_cons_of_mem _ h2), if_neg h, if_pos h2, Int64.zero_add]
        · rw [if_neg (by simp [h, h2]), if_neg h, if_neg h2, Int64.zero_add]
    rw [e, gs_add, gs_one, if_pos (hl a List.mem_cons_self), ih hn'.2 (fun o ho => hl o (List.mem_cons_of_mem _ ho))]
    rfl
theorem Line.nodup {I : Co} {s : Int32} {n : Nat} {L : List Nat} (h : Line I n s L) : L.Nodup := by
  refine h.2.imp ?_
  intro a b hab e
  subst e
  rw [bf_irrefl] at hab
  cases hab
theorem Line.sum {I : Co} {s : Int32} {n : Nat} {L : List Nat} (h : Line I n s L) (f : Nat → Int64) : gs (fun o => if onS I s o = true then f o else 0) n = lsum f L := by
  rw [← gs_list h.nodup (fun o ho => ((h.1 o).mp ho).1)]
  apply gs_congr
  intro o ho
  by_cases hs : onS I s o = true
  · rw [if_pos hs, if_pos ((h.1 o).mpr ⟨ho, hs⟩)]
  · rw [if_neg hs, if_neg (fun hm => hs ((h.1 o).mp hm).2)]
