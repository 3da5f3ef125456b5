/-! Nothing is astray, in numbers -/
def ctd (σ : St) (o : Nat) : Bool := (decide (sph σ = 1) && decide (sbd σ = 0)) && (match fst (sI σ) (opp (sI σ 1 o)) (sn σ) with
  | none => false
  | some r => tk (sI σ) o (sI σ 2 r))
/-- no two that rest could trade -/
def NX (σ : St) : Prop := sph σ = 1 → sbd σ = 0 → ∀ a b, a < sn σ → b < sn σ → rs (sI σ) a = true → rs (sI σ) b = true → ¬ sI σ 1 a = sI σ 1 b → tk (sI σ) a (sI σ 2 b) = false
/-- of one that doesn't rest nothing is left -/
def NZ (σ : St) : Prop := ∀ o, o < sn σ → rs (sI σ) o = false → sI σ 3 o = 0 ∧ sI σ 4 o = 0
theorem fst_on {σ : St} {L : Nat → List Nat} {b : Int32} {r : Nat} (hB : InvB σ) (hL : LN σ L) (hb : b = 0 ∨ b = 1) (h : fst (sI σ) b (sn σ) = some r) : r < sn σ ∧ rs (sI σ) r = true ∧ sI σ 1 r = b := by
  have hLj : Line (sI σ) (sn σ) b (L (sj b)) := sj_val hb hL
  rw [hLj.hd hB.2.1] at h
  have hm := (hLj.1 r).mp (List.mem_of_mem_head? h)
  exact ⟨hm.1, (onS_iff.mp hm.2).1, (onS_iff.mp hm.2).2⟩
theorem ctd_no {σ : St} {L : Nat → List Nat} {o : Nat} (hB : InvB σ) (hL : LN σ L) (hX : NX σ) (ho : o < sn σ) (hr : rs (sI σ) o = true) : ctd σ o = false := by
  unfold ctd
  rcases hf : fst (sI σ) (opp (sI σ 1 o)) (sn σ) with _ | r
  · exact Bool.and_false _
  · obtain ⟨h1, h2, h3⟩ := fst_on hB hL (opp_or _) hf
    by_cases hp : sph σ = 1
    · by_cases hb : sbd σ = 0
      · show ((decide (sph σ = 1) && decide (sbd σ = 0)) && tk (sI σ) o (sI σ 2 r)) = false
        rw [hX hp hb o r ho h1 hr h2 (fun z => opp_ne (hB.2.1.1 o ho).2.2 (h3.symm.trans z.symm)), Bool.and_false]
      · rw [decide_eq_false hb, Bool.and_false, Bool.false_and]
    · rw [decide_eq_false hp, Bool.false_and, Bool.false_and]
def wrg (I : Co) (o : Nat) : Bool := (decide (I 5 o = -1) || decide (I 3 o < 1) || decide (100000 < I 3 o)) || (decide (I 4 o < 1) || decide ((if I 8 o = 0 then I 3 o else (if I 8 o < I 3 o then I 8 o else I 3 o)) < I 4 o) || (decide (I 8 o = 0) && decide (¬ I 4 o = I 3 o)))
theorem wrg_no {I : Co} {o : Nat} (hp : 0 ≤ (I 8 o).toInt) (hr : rs I o = true) (h : Rok I o) : wrg I o = false := by
  obtain ⟨h1, h2, h3, h4, h5⟩ := h
  rw [rs_iff] at hr
  have e1 : ¬ I 5 o = -1 := fun z => by rw [z, i_m1] at hr; omega
  have e2 : ¬ I 3 o < 1 := fun z => by have := Int32.lt_iff_toInt_lt.mp z; rw [i_1] at this; omega
  have e3 : ¬ 100000 < I 3 o := fun z => by have := Int32.lt_iff_toInt_lt.mp z; rw [show (100000 : Int32).toInt = 100000 by decide] at this; omega
  have e4 : ¬ I 4 o < 1 := fun z => by have := Int32.lt_iff_toInt_lt.mp z; rw [i_1] at this; omega
  have e5 : ¬ shw I o < I 4 o := fun z => by
    have h9 := Int32.lt_iff_toInt_lt.mp z
    rw [shw_int hp] at h9
    split at h9
    · rename_i q; have := h4 q; omega
    · have := h5 (by omega)
      split at h9 <;> omega
  have e6 : (decide (I 8 o = 0) && decide (¬ I 4 o = I 3 o)) = false := by
    by_cases q : I 8 o = 0
    · have e9 : I 4 o = I 3 o := Int32.toInt_inj.mp (h4 (by rw [q, i0]))
      rw [show decide (¬ I 4 o = I 3 o) = false from decide_eq_false (fun z => z e9), Bool.and_false]
    · rw [decide_eq_false q, Bool.false_and]
  unfold wrg
  rw [shw_eq hp, decide_eq_false e1, decide_eq_false e2, decide_eq_false e3, decide_eq_false e4, decide_eq_false e5, e6]
  rfl
theorem rs_ne {σ : St} {o : Nat} (hB : InvB σ) (ho : o < sn σ) : rs (sI σ) o = true ↔ ¬ sI σ 5 o = -1 := by
  have h9 := (hB.2.2.1 o ho).2.2.1
  rw [rs_iff]
  constructor
  · intro h z; rw [z, i_m1] at h; omega
  · intro h
    have h8 : (sI σ 5 o).toInt ≠ -1 := fun z => h (Int32.toInt_inj.mp (z.trans i_m1.symm))
    omega
/-- how many rest -/
def cnt (I : Co) : Nat → Nat
  | 0 => 0
  | k + 1 => if rs I k = true then cnt I k + 1 else cnt I k
theorem cnt_le (I : Co) : ∀ k, cnt I k ≤ k := by
  intro k
  induction k with
  | zero => exact Nat.le_refl _
  | succ k ih => unfold cnt; split <;> omega
def rsl (I : Co) : Nat → List Nat
  | 0 => []
  | k + 1 => if rs I k = true then k :: rsl I k else rsl I k
theorem rsl_len (I : Co) : ∀ k, (rsl I k).length = cnt I k := by
  intro k
  induction k with
  | zero => rfl
  | succ k ih =>
    unfold rsl cnt
    split
    · rw [List.length_cons, ih]
    · exact ih
theorem rsl_mem (I : Co) (x : Nat) : ∀ k, x ∈ rsl I k ↔ (x < k ∧ rs I x = true) := by
  intro k
  induction k with
  | zero => exact ⟨fun h => (by cases h), fun h => absurd h.1 (Nat.not_lt_zero _)⟩
  | succ k ih =>
    unfold rsl
    split
    · rename_i h
      rw [List.mem_cons, ih]
      constructor
      · rintro (e | e)
        · subst e; exact ⟨by omega, h⟩
        · exact ⟨by omega, e.2⟩
      · rintro ⟨h1, h2⟩
        by_cases e : x = k
        · exact Or.inl e
        · exact Or.inr ⟨by omega, h2⟩
    · rename_i h
      rw [ih]
      constructor
      · rintro ⟨h1, h2⟩; exact ⟨by omega, h2⟩
      · rintro ⟨h1, h2⟩
        refine ⟨?_, h2⟩
        have : x ≠ k := fun e => h (e ▸ h2)
        omega
theorem rsl_nd (I : Co) : ∀ k, (rsl I k).Nodup := by
  intro k
  induction k with
  | zero => exact List.nodup_nil
  | succ k ih =>
    unfold rsl
    split
    · refine List.nodup_cons.mpr ⟨fun h => ?_, ih⟩
      have := ((rsl_mem I k k).mp h).1
      omega
    · exact ih
theorem nd_sub : ∀ (L F : List Nat), L.Nodup → (∀ x, x ∈ L → x ∈ F) → L.length ≤ F.length := by
  intro L
  induction L with
  | nil => intro F _ _; exact Nat.zero_le _
  | cons a t ih =>
    intro F hn h
    have hn' := List.nodup_cons.mp hn
    have ha := h a List.mem_cons_self
    have h1 := ih (F.erase a) hn'.2 (fun x hx => (List.mem_erase_of_ne (a := x) (b := a) (fun z => hn'.1 (by rw [← z]; exact hx))).mpr (h x (List.mem_cons_of_mem _ hx)))
    rw [List.length_erase_of_mem ha] at h1
    have := List.length_pos_of_mem ha
    rw [List.length_cons]
    omega
theorem cnt_eq {σ : St} {L : Nat → List Nat} (hB : InvB σ) (hL : LN σ L) : cnt (sI σ) (sn σ) = (L 1).length + (L 2).length := by
  rw [← rsl_len, ← List.length_append]
  have m1 := hL.1.1
  have m2 := hL.2.1
  refine Nat.le_antisymm (nd_sub _ _ (rsl_nd _ _) (fun x hx => ?_)) (nd_sub _ _ (List.nodup_append.mpr ⟨hL.1.nodup, hL.2.nodup, fun a ha b hb e => ?_⟩) (fun x hx => ?_))
  · obtain ⟨h1, h2⟩ := (rsl_mem _ x _).mp hx
    rw [List.mem_append]
    rcases (hB.2.1.1 x h1).2.2 with e | e
    · exact Or.inr ((m2 x).mpr ⟨h1, onS_iff.mpr ⟨h2, e⟩⟩)
    · exact Or.inl ((m1 x).mpr ⟨h1, onS_iff.mpr ⟨h2, e⟩⟩)
  · have h1 := (onS_iff.mp ((m1 a).mp ha).2).2
    have h2 := (onS_iff.mp ((m2 b).mp hb).2).2
    rw [e, h2] at h1
    exact absurd h1 (by decide)
  · rcases List.mem_append.mp hx with h | h
    · have := (m1 x).mp h; exact (rsl_mem _ x _).mpr ⟨this.1, (onS_iff.mp this.2).1⟩
    · have := (m2 x).mp h; exact (rsl_mem _ x _).mpr ⟨this.1, (onS_iff.mp this.2).1⟩
theorem nI_dif {a b c : Nat} (h : c = a + b) : nI c - nI a - nI b = 0 := by
  rw [h, show nI (a + b) = nI a + nI b from (Int32.ofNat_add a b), Int32.add_comm, Int32.add_sub_cancel, Int32.sub_self]
