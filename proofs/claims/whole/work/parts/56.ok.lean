/-! What a call may be given; what it does, in numbers -/
def rg (lo hi x : Int32) : Bool := decide (lo ≤ x) && decide (x ≤ hi)
theorem rg_lo {lo hi x : Int32} (h : x < lo) : rg lo hi x = false := by unfold rg; rw [decide_eq_false (Int32.not_le.mpr h), Bool.false_and]
theorem rg_hi {lo hi x : Int32} (h : hi < x) : rg lo hi x = false := by unfold rg; rw [decide_eq_false (Int32.not_le.mpr h), Bool.and_false]
theorem rg_in {lo hi x : Int32} (h1 : ¬ x < lo) (h2 : ¬ hi < x) : rg lo hi x = true := by unfold rg; rw [decide_eq_true (Int32.not_lt.mp h1), decide_eq_true (Int32.not_lt.mp h2)]; rfl
theorem rg_l {lo hi x : Int32} (h : rg lo hi x = true) : ¬ x < lo := fun z => by rw [rg_lo z] at h; cases h
theorem rg_h {lo hi x : Int32} (h : rg lo hi x = true) : ¬ hi < x := fun z => by rw [rg_hi z] at h; cases h
theorem rg_i {lo hi x : Int32} (h : rg lo hi x = true) : lo.toInt ≤ x.toInt ∧ x.toInt ≤ hi.toInt := ⟨Int32.le_iff_toInt_le.mp (Int32.not_lt.mp (rg_l h)), Int32.le_iff_toInt_le.mp (Int32.not_lt.mp (rg_h h))⟩
def fpk (q k : Int32) : Bool := decide (k = 0) || decide (q ≤ 50 * k)
def oBand (σ : St) (r b : Int32) : St := (σ.1, (sph σ, r, b, srk σ), σ.2.2)
def clr (a : AU) (w : Int32) : Int64 := if w = 0 then a.1.toInt64 else if w = 1 then a.2.1 else a.2.2
def och (I : Co) (k : Nat) (w : Int32) : Int32 := if w = 0 then I 0 k else if w = 1 then I 1 k else if w = 2 then I 2 k else if w = 3 then I 3 k else if w = 4 then I 4 k else if w = 5 then I 5 k else if w = 6 then I 6 k else if w = 7 then I 7 k else I 8 k
def dS (I : Co) (b p : Int32) : List Nat → Int64
  | [] => 0
  | r :: t => (if I 2 r = p then (if b = 0 then (I 4 r).toInt64 else (I 3 r).toInt64) else 0) + dS I b p t
theorem dS_app {I : Co} {b p : Int32} {r : Nat} : ∀ {t : List Nat}, dS I b p (t ++ [r]) = dS I b p t + (if I 2 r = p then (if b = 0 then (I 4 r).toInt64 else (I 3 r).toInt64) else 0) := by
  intro t
  induction t with
  | nil => show _ + 0 = 0 + _; rw [Int64.add_zero, Int64.zero_add]
  | cons x t ih => show _ + dS I b p (t ++ [r]) = _ + dS I b p t + _; rw [ih, Int64.add_assoc]
theorem dS_up {I : Co} {b p : Int32} {K : List Nat} {i : Nat} (h : i < K.length) : dS I b p (K.take (i + 1)) = dS I b p (K.take i) + (if I 2 K[i] = p then (if b = 0 then (I 4 K[i]).toInt64 else (I 3 K[i]).toInt64) else 0) := by rw [take_s h, dS_app]
/-- all of an owner's orders end -/
def xCan (σ : St) (w : Int32) : Nat → St × Nat
  | 0 => (σ, 0)
  | k + 1 => if sI (xCan σ w k).1 0 k = w ∧ ¬ sI (xCan σ w k).1 5 k = -1 then (xEnd (xCan σ w k).1 k, (xCan σ w k).2 + 1) else xCan σ w k
theorem can_sn (σ : St) (w : Int32) : ∀ k, sn (xCan σ w k).1 = sn σ ∧ (xCan σ w k).2 ≤ k ∧ (xCan σ w k).1.2 = σ.2 := by
  intro k
  induction k with
  | zero => exact ⟨rfl, Nat.le_refl _, rfl⟩
  | succ k ih =>
    unfold xCan
    split
    · exact ⟨ih.1, by show _ + 1 ≤ _; omega, ih.2.2⟩
    · exact ⟨ih.1, by omega, ih.2.2⟩
