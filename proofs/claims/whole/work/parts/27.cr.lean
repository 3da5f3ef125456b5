/-! The class's cells -/
def oc (I : Co) (o : Nat) : List Value := [.int (nI o), .int (I 0 o), .int (I 1 o), .int (I 8 o), .int (I 6 o), .int (I 2 o), .int (I 3 o), .int (I 4 o), .int (I 5 o), .int (I 7 o)]
/-- the orders' cells -/
def OR (M : mMap) (oa : Nat → Nat) (I : Co) (n : Nat) : Prop := ∀ o, o < n → M (oa o) = some (.inr (2, oc I o))
theorem OR.inj {M : mMap} {oa : Nat → Nat} {I : Co} {n : Nat} (h : OR M oa I n) (hn : n ≤ 250) {a b : Nat} (ha : a < n) (hb : b < n) (e : oa a = oa b) : a = b := by
  have h1 := h a ha
  rw [e, h b hb] at h1
  have h2 := congrArg (fun z => match z with | some (.inr (_, (.int v :: _))) => v | _ => (0 : Int32)) h1
  exact ((nI_eq (by omega) (by omega)).mp h2).symm
theorem OR.ne {M : mMap} {oa : Nat → Nat} {I : Co} {n : Nat} (h : OR M oa I n) (hn : n ≤ 250) {a b : Nat} (ha : a < n) (hb : b < n) (e : a ≠ b) : oa a ≠ oa b := fun z => e (h.inj hn ha hb z)
theorem oc_congr {I J : Co} {o : Nat} (h : ∀ f, f < 9 → J f o = I f o) : oc J o = oc I o := by
  unfold oc
  rw [h 0 (by omega), h 1 (by omega), h 2 (by omega), h 3 (by omega), h 4 (by omega), h 5 (by omega), h 6 (by omega), h 7 (by omega), h 8 (by omega)]
/-- one order's cell is written -/
theorem OR.set {M : mMap} {oa : Nat → Nat} {I J : Co} {n o : Nat} (h : OR M oa I n) (hn : n ≤ 250) (ho : o < n) (hJ : ∀ f x, x ≠ o → J f x = I f x) {e : va_E} (he : e = .inr (2, oc J o)) : OR (mU M (oa o) e) oa J n := by
  intro x hx
  by_cases z : x = o
  · subst z; rw [he]; exact mU_eq _ _ _
  · rw [mU_ne (h.ne hn hx ho z), oc_congr (fun f _ => hJ f x z)]
    exact h x hx
theorem OR.keep {M M' : mMap} {oa : Nat → Nat} {I : Co} {n : Nat} (h : OR M oa I n) (hk : ∀ o, o < n → M' (oa o) = M (oa o)) : OR M' oa I n := fun o ho => (hk o ho).trans (h o ho)
theorem OR.el {M : mMap} {oa : Nat → Nat} {I : Co} {n : Nat} (h : OR M oa I n) {L : List Nat} (hL : ∀ o, o ∈ L → o < n) : mEl M 2 (L.map oa) := by
  refine ⟨Or.inl rfl, fun x hx => ?_⟩
  obtain ⟨o, ho, rfl⟩ := List.mem_map.mp hx
  exact ⟨_, h o (hL o ho)⟩
/-- the trades' cells -/
def TR (M : mMap) (ta : Nat → Nat) (T : Co) (n : Nat) : Prop := ∀ i, i < n → M (ta i) = some (.inr (4, [.int (T 0 i), .int (T 1 i), .int (T 2 i), .int (T 3 i)]))
theorem AL.no {γ : mG} {M : mMap} {a r cap : Nat} {xs : List Nat} (h : AL γ M a r cap xs) (hg : M (ge γ) = none) {b : Nat} {e : va_E} (hb : M b = some e) (hk : ∀ c n f, e ≠ .inl (c, n, .inr (.inr (.inr (.inr f))))) : b ≠ r := by
  intro z
  obtain ⟨-, -, -, ⟨-, h4⟩ | ⟨-, f, h5, -⟩⟩ := h
  · rw [z, h4, hg] at hb; cases hb
  · rw [z, h5] at hb
    exact hk _ _ _ (Option.some.inj hb).symm
/-- a cell of another kind stays when a list changes -/
theorem alF.keep {γ : mG} {M M' : mMap} {a r r' cap : Nat} {xs : List Nat} (hF : alF M M' a r r') (h : AL γ M a r cap xs) (hg : M (ge γ) = none) {b : Nat} {e : va_E} (hb : M b = some e) (hk : ∀ c n f, e ≠ .inl (c, n, .inr (.inr (.inr (.inr f))))) (h0 : ∀ fs, e ≠ .inr (0, fs)) : M' b = some e := by
  refine hF.1 b e hb (fun z => ?_) (h.no hg hb hk)
  obtain ⟨⟨md, h1⟩, -⟩ := h
  rw [z, h1] at hb
  exact h0 _ (Option.some.inj hb).symm
theorem alF.keepO {γ : mG} {M M' : mMap} {a r r' cap : Nat} {xs : List Nat} (hF : alF M M' a r r') (h : AL γ M a r cap xs) (hg : M (ge γ) = none) {b ci : Nat} {fs : List Value} (hb : M b = some (.inr (ci, fs))) (h0 : ci ≠ 0) : M' b = some (.inr (ci, fs)) :=
  hF.keep h hg hb (fun _ _ _ z => by cases z) (fun _ z => by cases z; exact h0 rfl)
theorem mW.noe {γ : mG} {M : mMap} {s : State} {H : Heap} {locs : List Loc} (h : mW γ M s H locs) : M (ge γ) = none := by
  cases hg : M (ge γ) with
  | none => rfl
  | some e =>
    have h1 := h.big hg
    obtain ⟨_, -, -, -, -, -, -, h2⟩ := h.2.2.1.2.2.1
    exact absurd h1 h2
/-- the four lists: orders, buyers, sellers, trades -/
def FL4 (γ : mG) (M : mMap) (al ar cp : Nat → Nat) (xs : Nat → List Nat) : Prop := (∀ j, j < 4 → AL γ M (al j) (ar j) (cp j) (xs j)) ∧ (∀ i j, i < 4 → j < 4 → al i = al j → i = j) ∧ ∀ i j, i < 4 → j < 4 → 0 < cp i → 0 < cp j → ar i = ar j → i = j
theorem AL.keep {γ : mG} {M M' : mMap} {a r cap : Nat} {xs : List Nat} (h : AL γ M a r cap xs) (ha : M' a = M a) (hr : 0 < cap → M' r = M r) : AL γ M' a r cap xs := by
  obtain ⟨⟨md, h1⟩, h2, h3, h4⟩ := h
  refine ⟨⟨md, ha.trans h1⟩, h2, h3, ?_⟩
  rcases h4 with ⟨h4, h5⟩ | ⟨h4, f, h5, h6⟩
  · exact Or.inl ⟨h4, h5⟩
  · exact Or.inr ⟨h4, f, (hr (by omega)).trans h5, h6⟩
theorem AL.arr {γ : mG} {M : mMap} {a r cap : Nat} {xs : List Nat} (h : AL γ M a r cap xs) (hc : 0 < cap) : ∃ f, M r = some (.inl (gA γ 3, cap, .inr (.inr (.inr (.inr f))))) := by
  obtain ⟨-, -, -, ⟨h4, -⟩ | ⟨-, f, h5, -⟩⟩ := h
  · omega
  · exact ⟨f, h5⟩
/-- a cell that is no list and no array of references is written, or a new one made -/
theorem FL4.keep {γ : mG} {M M' : mMap} {al ar cp : Nat → Nat} {xs : Nat → List Nat} (h : FL4 γ M al ar cp xs) (hk : ∀ b e, M b = some e → ((∃ fs, e = .inr (0, fs)) ∨ ∃ x, e = .inl x) → M' b = some e) : FL4 γ M' al ar cp xs := by
  refine ⟨fun j hj => ?_, h.2⟩
  have hA := h.1 j hj
  refine hA.keep ?_ (fun hc => ?_)
  · obtain ⟨⟨md, h1⟩, -⟩ := hA
    rw [h1]; exact hk _ _ h1 (Or.inl ⟨_, rfl⟩)
  · obtain ⟨f, hf⟩ := hA.arr hc
    rw [hf]; exact hk _ _ hf (Or.inr ⟨_, rfl⟩)
theorem FL4.setO {γ : mG} {M : mMap} {al ar cp : Nat → Nat} {xs : Nat → List Nat} (h : FL4 γ M al ar cp xs) {b ci : Nat} {fs : List Value} {e : va_E} (hb : M b = some (.inr (ci, fs))) (h0 : ci ≠ 0) : FL4 γ (mU M b e) al ar cp xs := by
  refine h.keep (fun q x hq hx => mU_to (fun z => ?_) hq)
  rw [z, hb] at hq
  rcases hx with ⟨fs', rfl⟩ | ⟨y, rfl⟩
  · cases hq; exact h0 rfl
  · cases hq
theorem FL4.new {γ : mG} {M : mMap} {al ar cp : Nat → Nat} {xs : Nat → List Nat} (h : FL4 γ M al ar cp xs) {q : Nat} {e : va_E} (hq : M q = none) : FL4 γ (mU M q e) al ar cp xs := h.keep (fun b x hb _ => mU_to (m_fne hb hq) hb)
/-- one of the lists changes -/
theorem FL4.step {γ : mG} {M M' : mMap} {al ar cp : Nat → Nat} {xs : Nat → List Nat} (h : FL4 γ M al ar cp xs) (hg : M (ge γ) = none) {j r' c' : Nat} {ys : List Nat} (hj : j < 4) (hF : alF M M' (al j) (ar j) r') (hA : AL γ M' (al j) r' c' ys) : FL4 γ M' al (va_up ar j r') (va_up cp j c') (fun k => if k = j then ys else xs k) := by
  have hAj := h.1 j hj
  have arne : ∀ i, i < 4 → i ≠ j → 0 < cp i → ar i ≠ ar j := by
    intro i hi hij hc z
    by_cases hcj : 0 < cp j
    · exact hij (h.2.2 i j hi hj hc hcj z)
    · obtain ⟨f, hf⟩ := (h.1 i hi).arr hc
      obtain ⟨-, -, -, ⟨-, h4⟩ | ⟨h4, -⟩⟩ := hAj
      · rw [z, h4, hg] at hf; cases hf
      · omega
  refine ⟨fun i hi => ?_, h.2.1, fun i k hi hk hci hck e => ?_⟩
  · by_cases z : i = j
    · subst z
      show AL γ M' (al i) (va_up ar i r' i) (va_up cp i c' i) (if i = i then ys else xs i)
      rw [if_pos rfl, show va_up ar i r' i = r' from if_pos rfl, show va_up cp i c' i = c' from if_pos rfl]
      exact hA
    · show AL γ M' (al i) (va_up ar j r' i) (va_up cp j c' i) (if i = j then ys else xs i)
      rw [if_neg z, show va_up ar j r' i = ar i from if_neg z, show va_up cp j c' i = cp i from if_neg z]
      have hAi := h.1 i hi
      obtain ⟨⟨md, h1⟩, -⟩ := id hAi
      refine hAi.keep ?_ (fun hc => ?_)
      · rw [h1]
        exact hF.1 _ _ h1 (fun e => z (h.2.1 i j hi hj e)) (hAj.no hg h1 (fun _ _ _ e => by cases e))
      · obtain ⟨f, hf⟩ := hAi.arr hc
        rw [hf]
        refine hF.1 _ _ hf (fun e => ?_) (arne i hi z hc)
        obtain ⟨⟨md', h1'⟩, -⟩ := hAj
        rw [e, h1'] at hf
        cases hf
  · have up : ∀ i, i ≠ j → va_up ar j r' i = ar i := fun i z => if_neg z
    have upc : ∀ i, i ≠ j → va_up cp j c' i = cp i := fun i z => if_neg z
    have upj : va_up ar j r' j = r' := if_pos rfl
    have key : ∀ i, i < 4 → i ≠ j → 0 < cp i → ar i ≠ r' := by
      intro i hi z hc e
      rcases hF.2 with e2 | e2
      · exact arne i hi z hc (e.trans e2)
      · obtain ⟨f, hf⟩ := (h.1 i hi).arr hc
        rw [e, e2] at hf
        cases hf
    by_cases zi : i = j
    · by_cases zk : k = j
      · rw [zi, zk]
      · subst zi
        rw [upj, up k zk] at e
        rw [upc k zk] at hck
        exact absurd e.symm (key k hk zk hck)
    · by_cases zk : k = j
      · subst zk
        rw [upj, up i zi] at e
        rw [upc i zi] at hci
        exact absurd e (key i hi zi hci)
      · rw [up i zi, up k zk] at e
        rw [upc i zi] at hci
        rw [upc k zk] at hck
        exact h.2.2 i k hi hk hci hck e
/-- cells of the reference and of the law: the class leaves them alone -/
def rk (e : va_E) : Prop := match e with
  | .inr (ci, _) => ci = 7 ∨ ci = 1
  | .inl (_, _, .inr (.inr (.inr (.inr _)))) => False
  | .inl _ => True
def frC (M M' : mMap) : Prop := ∀ b e, M b = some e → rk e → M' b = some e
theorem frC.rf (M : mMap) : frC M M := fun _ _ h _ => h
theorem frC.tr {M M1 M2 : mMap} (h1 : frC M M1) (h2 : frC M1 M2) : frC M M2 := fun b e h hk => h2 b e (h1 b e h hk) hk
theorem frC.setO {M : mMap} {b ci : Nat} {fs : List Value} {e : va_E} (hb : M b = some (.inr (ci, fs))) (h0 : ¬ (ci = 7 ∨ ci = 1)) : frC M (mU M b e) := by
  intro q x hq hk
  refine mU_to (fun z => ?_) hq
  rw [z, hb] at hq
  cases hq
  exact h0 hk
theorem frC.new {M : mMap} {q : Nat} {e : va_E} (hq : M q = none) : frC M (mU M q e) := fun b x hb _ => mU_to (m_fne hb hq) hb
theorem frC.al {γ : mG} {M M' : mMap} {a r r' cap : Nat} {xs : List Nat} (hF : alF M M' a r r') (h : AL γ M a r cap xs) (hg : M (ge γ) = none) : frC M M' := by
  intro b e hb hk
  refine hF.keep h hg hb (fun c n f z => ?_) (fun fs z => ?_)
  · subst z; exact hk
  · subst z; rcases hk with h | h <;> cases h
/-- the same, but for the auction's cell -/
def rkw (e : va_E) : Prop := rk e ∧ ∀ fs, e ≠ .inr (1, fs)
def frW (M M' : mMap) : Prop := ∀ b e, M b = some e → rkw e → M' b = some e
theorem frC.w {M M' : mMap} (h : frC M M') : frW M M' := fun b e hb hk => h b e hb hk.1
theorem frW.tr {M M1 M2 : mMap} (h1 : frW M M1) (h2 : frW M1 M2) : frW M M2 := fun b e h hk => h2 b e (h1 b e h hk) hk
theorem frW.setA {M : mMap} {b : Nat} {fs : List Value} {e : va_E} (hb : M b = some (.inr (1, fs))) : frW M (mU M b e) := by
  intro q x hq hk
  refine mU_to (fun z => ?_) hq
  rw [z, hb] at hq
  cases hq
  exact hk.2 _ rfl
theorem oc_2 (I : Co) (o : Nat) (v : Int32) : oc (s1 I 2 o v) o = [.int (nI o), .int (I 0 o), .int (I 1 o), .int (I 8 o), .int (I 6 o), .int v, .int (I 3 o), .int (I 4 o), .int (I 5 o), .int (I 7 o)] := by
  unfold oc
  rw [s1_ss, s1_f (f' := 0) (f := 2) (by decide), s1_f (f' := 1) (f := 2) (by decide), s1_f (f' := 8) (f := 2) (by decide), s1_f (f' := 6) (f := 2) (by decide), s1_f (f' := 3) (f := 2) (by decide), s1_f (f' := 4) (f := 2) (by decide), s1_f (f' := 5) (f := 2) (by decide), s1_f (f' := 7) (f := 2) (by decide)]
theorem oc_3 (I : Co) (o : Nat) (v : Int32) : oc (s1 I 3 o v) o = [.int (nI o), .int (I 0 o), .int (I 1 o), .int (I 8 o), .int (I 6 o), .int (I 2 o), .int v, .int (I 4 o), .int (I 5 o), .int (I 7 o)] := by
  unfold oc
  rw [s1_ss, s1_f (f' := 0) (f := 3) (by decide), s1_f (f' := 1) (f := 3) (by decide), s1_f (f' := 8) (f := 3) (by decide), s1_f (f' := 6) (f := 3) (by decide), s1_f (f' := 2) (f := 3) (by decide), s1_f (f' := 4) (f := 3) (by decide), s1_f (f' := 5) (f := 3) (by decide), s1_f (f' := 7) (f := 3) (by decide)]
theorem oc_4 (I : Co) (o : Nat) (v : Int32) : oc (s1 I 4 o v) o = [.int (nI o), .int (I 0 o), .int (I 1 o), .int (I 8 o), .int (I 6 o), .int (I 2 o), .int (I 3 o), .int v, .int (I 5 o), .int (I 7 o)] := by
  unfold oc
  rw [s1_ss, s1_f (f' := 0) (f := 4) (by decide), s1_f (f' := 1) (f := 4) (by decide), s1_f (f' := 8) (f := 4) (by decide), s1_f (f' := 6) (f := 4) (by decide), s1_f (f' := 2) (f := 4) (by decide), s1_f (f' := 3) (f := 4) (by decide), s1_f (f' := 5) (f := 4) (by decide), s1_f (f' := 7) (f := 4) (by decide)]
theorem oc_5 (I : Co) (o : Nat) (v : Int32) : oc (s1 I 5 o v) o = [.int (nI o), .int (I 0 o), .int (I 1 o), .int (I 8 o), .int (I 6 o), .int (I 2 o), .int (I 3 o), .int (I 4 o), .int v, .int (I 7 o)] := by
  unfold oc
  rw [s1_ss, s1_f (f' := 0) (f := 5) (by decide), s1_f (f' := 1) (f := 5) (by decide), s1_f (f' := 8) (f := 5) (by decide), s1_f (f' := 6) (f := 5) (by decide), s1_f (f' := 2) (f := 5) (by decide), s1_f (f' := 3) (f := 5) (by decide), s1_f (f' := 4) (f := 5) (by decide), s1_f (f' := 7) (f := 5) (by decide)]
theorem oc_7 (I : Co) (o : Nat) (v : Int32) : oc (s1 I 7 o v) o = [.int (nI o), .int (I 0 o), .int (I 1 o), .int (I 8 o), .int (I 6 o), .int (I 2 o), .int (I 3 o), .int (I 4 o), .int (I 5 o), .int v] := by
  unfold oc
  rw [s1_ss, s1_f (f' := 0) (f := 7) (by decide), s1_f (f' := 1) (f := 7) (by decide), s1_f (f' := 8) (f := 7) (by decide), s1_f (f' := 6) (f := 7) (by decide), s1_f (f' := 2) (f := 7) (by decide), s1_f (f' := 3) (f := 7) (by decide), s1_f (f' := 4) (f := 7) (by decide), s1_f (f' := 5) (f := 7) (by decide)]
