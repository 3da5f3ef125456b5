/-! Orders that come into a line and leave it -/
theorem pw_ins {R : Nat → Nat → Prop} {o : Nat} : ∀ {k : Nat} {L : List Nat}, L.Pairwise R → (∀ x, x ∈ L.take k → R x o) → (∀ x, x ∈ L.drop k → R o x) → k ≤ L.length → (L.insertIdx k o).Pairwise R := by
  intro k
  induction k with
  | zero =>
    intro L hp _ h2 _
    rw [List.insertIdx_zero]
    exact List.pairwise_cons.mpr ⟨fun x hx => h2 x (by rw [List.drop_zero]; exact hx), hp⟩
  | succ k ih =>
    intro L hp h1 h2 hk
    cases L with
    | nil => simp at hk
    | cons a t =>
      rw [List.insertIdx_succ_cons]
      have hp' := List.pairwise_cons.mp hp
      have hk' : k ≤ t.length := by simpa using hk
      refine List.pairwise_cons.mpr ⟨fun x hx => ?_, ih hp'.2 (fun x hx => h1 x (by rw [List.take_succ_cons]; exact List.mem_cons_of_mem _ hx)) (fun x hx => h2 x (by rw [List.drop_succ_cons]; exact hx)) hk'⟩
      rcases (List.mem_insertIdx hk').mp hx with e | e
      · rw [e]
        exact h1 a (by rw [List.take_succ_cons]; exact List.mem_cons_self)
      · exact hp'.1 x e
theorem map_ins {f : Nat → Nat} {o : Nat} : ∀ {k : Nat} {L : List Nat}, (L.insertIdx k o).map f = (L.map f).insertIdx k (f o) := by
  intro k
  induction k with
  | zero => intro L; rfl
  | succ k ih =>
    intro L
    cases L with
    | nil => rfl
    | cons a t =>
      rw [List.insertIdx_succ_cons, List.map_cons, List.map_cons, List.insertIdx_succ_cons, ih]
theorem map_del {f : Nat → Nat} : ∀ {k : Nat} {L : List Nat}, (L.eraseIdx k).map f = (L.map f).eraseIdx k := by
  intro k
  induction k with
  | zero => intro L; cases L <;> rfl
  | succ k ih =>
    intro L
    cases L with
    | nil => rfl
    | cons a t =>
      rw [List.eraseIdx_cons_succ, List.map_cons, List.map_cons, List.eraseIdx_cons_succ, ih]
theorem bf_cols {I J : Co} (h1 : J 1 = I 1) (h2 : J 2 = I 2) (h5 : J 5 = I 5) (a b : Nat) : bf J a b = bf I a b := by
  unfold bf
  rw [h1, h2, h5]
theorem onS_cols {I J : Co} (h1 : J 1 = I 1) (h5 : J 5 = I 5) (s : Int32) (a : Nat) : onS J s a = onS I s a := by
  unfold onS rs
  rw [h1, h5]
theorem Line.cols {I J : Co} {n : Nat} {s : Int32} {L : List Nat} (h1 : J 1 = I 1) (h2 : J 2 = I 2) (h5 : J 5 = I 5) (h : Line I n s L) : Line J n s L := by
  refine ⟨fun o => ?_, h.2.imp ?_⟩
  · rw [onS_cols h1 h5]; exact h.1 o
  · intro a b hab
    rw [bf_cols h1 h2 h5]; exact hab
theorem oOK.cols {I J : Co} {n : Nat} (h1 : J 1 = I 1) (h2 : J 2 = I 2) (h5 : J 5 = I 5) (h : oOK I n) : oOK J n := by
  unfold oOK rs at *
  rw [h1, h2, h5]
  exact h
/-- at two orders that didn't change -/
theorem bf_at {I J : Co} {a b : Nat} (ha : J 1 a = I 1 a) (h2a : J 2 a = I 2 a) (h2b : J 2 b = I 2 b) (h5a : J 5 a = I 5 a) (h5b : J 5 b = I 5 b) : bf J a b = bf I a b := by
  unfold bf
  rw [ha, h2a, h2b, h5a, h5b]
/-- an order leaves -/
theorem Line.del {I J : Co} {n o k : Nat} {s : Int32} {L : List Nat} (h : Line I n s L) (hk : L[k]? = some o) (ho : onS J s o = false) (hJ : ∀ x, x ≠ o → J 1 x = I 1 x ∧ J 2 x = I 2 x ∧ J 5 x = I 5 x) : Line J n s (L.eraseIdx k) := by
  have hn := h.nodup
  have mem : ∀ x, x ∈ L.eraseIdx k ↔ (x ∈ L ∧ x ≠ o) := by
    intro x
    rw [List.mem_eraseIdx_iff_getElem?]
    constructor
    · rintro ⟨i, hi, hx⟩
      refine ⟨List.mem_of_getElem? hx, fun e => hi ?_⟩
      subst e
      exact (List.getElem?_inj (List.getElem?_eq_some_iff.mp hx).1 hn).mp (hx.trans hk.symm)
    · rintro ⟨hx, hne⟩
      obtain ⟨i, hi⟩ := List.getElem?_of_mem hx
      refine ⟨i, fun e => hne ?_, hi⟩
      subst e
      exact Option.some.inj (hi.symm.trans hk)
  refine ⟨fun x => ?_, ?_⟩
  · rw [mem]
    by_cases e : x = o
    · subst e
      constructor
      · rintro ⟨-, z⟩; exact absurd rfl z
      · rintro ⟨-, z⟩; rw [ho] at z; cases z
    · obtain ⟨e1, -, e5⟩ := hJ x e
      have : onS J s x = onS I s x := by unfold onS rs; rw [e1, e5]
      rw [this]
      exact ⟨fun z => (h.1 x).mp z.1, fun z => ⟨(h.1 x).mpr z, e⟩⟩
  · have hp := h.2.sublist (List.eraseIdx_sublist L k)
    refine List.Pairwise.imp_of_mem ?_ hp
    intro a b ha hb hab
    obtain ⟨a1, a2, a5⟩ := hJ a ((mem a).mp ha).2
    obtain ⟨b1, b2, b5⟩ := hJ b ((mem b).mp hb).2
    rw [bf_at a1 a2 b2 a5 b5]
    exact hab
/-- an order comes in: k is where those begin that it stands before -/
theorem Line.ins {I J : Co} {n o k : Nat} {s : Int32} {L : List Nat} (h : Line I n s L) (hOK : oOK J n) (hno : o ∉ L) (hon : o < n) (ho : onS J s o = true) (hJ : ∀ x, x ≠ o → J 1 x = I 1 x ∧ J 2 x = I 2 x ∧ J 5 x = I 5 x) (hk : k ≤ L.length) (hhi : ∀ x, x ∈ L.drop k → bf J o x = true) (hlo : ∀ x, L[k - 1]? = some x → 0 < k → bf J o x = false) : Line J n s (L.insertIdx k o) := by
  have ne : ∀ x, x ∈ L → x ≠ o := fun x hx e => hno (e ▸ hx)
  have memJ : ∀ x, x ∈ L → x < n ∧ onS J s x = true := by
    intro x hx
    obtain ⟨e1, -, e5⟩ := hJ x (ne x hx)
    have : onS J s x = onS I s x := by unfold onS rs; rw [e1, e5]
    rw [this]
    exact (h.1 x).mp hx
  have hp : L.Pairwise (fun a b => bf J a b = true) := by
    refine List.Pairwise.imp_of_mem ?_ h.2
    intro a b ha hb hab
    obtain ⟨a1, a2, a5⟩ := hJ a (ne a ha)
    obtain ⟨b1, b2, b5⟩ := hJ b (ne b hb)
    rw [bf_at a1 a2 b2 a5 b5]
    exact hab
  have side : ∀ x y, onS J s x = true → onS J s y = true → J 1 x = J 1 y := fun x y hx hy => (onS_iff.mp hx).2.trans (onS_iff.mp hy).2.symm
  have low : ∀ x, x ∈ L.take k → bf J x o = true := by
    intro x hx
    obtain ⟨j, hj⟩ := List.getElem?_of_mem hx
    rw [List.getElem?_take] at hj
    split at hj
    · rename_i hjk
      have hxL := List.mem_of_getElem? hj
      obtain ⟨xn, xs⟩ := memJ x hxL
      have hlt : k - 1 < L.length := by omega
      have hl : L[k - 1]? = some L[k - 1] := List.getElem?_eq_getElem hlt
      have hyL : L[k - 1] ∈ L := List.getElem_mem hlt
      obtain ⟨yn, ys⟩ := memJ _ hyL
      have hb := hlo _ hl (by omega)
      have hyo : bf J L[k - 1] o = true := by
        rcases bf_total (side _ _ ho ys) (hOK.1 o hon).1 (hOK.1 _ yn).1 (fun e => hOK.2 o _ hon yn (onS_iff.mp ho).1 (onS_iff.mp ys).1 e) hb with e | e
        · exact absurd e.symm (ne _ hyL)
        · exact e
      by_cases e : j = k - 1
      · subst e
        rw [hl] at hj
        cases hj
        exact hyo
      · have hxy : bf J x L[k - 1] = true := by
          have hjl : j < L.length := by omega
          have hxe : L[j] = x := by rw [List.getElem?_eq_getElem hjl] at hj; exact Option.some.inj hj
          rw [← hxe]
          exact List.pairwise_iff_getElem.mp hp j (k - 1) hjl hlt (by omega)
        exact bf_trans (side _ _ xs ys) (side _ _ ys ho) (hOK.1 _ xn).1 (hOK.1 _ yn).1 (hOK.1 o hon).1 hxy hyo
    · cases hj
  refine ⟨fun x => ?_, pw_ins hp low hhi hk⟩
  rw [List.mem_insertIdx hk]
  constructor
  · rintro (e | e)
    · subst e; exact ⟨hon, ho⟩
    · exact memJ x e
  · rintro ⟨hx, hs⟩
    by_cases e : x = o
    · exact Or.inl e
    · obtain ⟨e1, -, e5⟩ := hJ x e
      have : onS J s x = onS I s x := by unfold onS rs; rw [e1, e5]
      rw [this] at hs
      exact Or.inr ((h.1 x).mpr ⟨hx, hs⟩)
