/-! The class's cells, the reference's, the law's own: nobody writes another's -/
def kB (e : va_E) : Prop := match e with
  | .inr (ci, _) => ci ≠ 7
  | .inl (_, _, .inr (.inr (.inr (.inr _)))) => True
  | .inl _ => False
def frB (M M' : mMap) : Prop := ∀ b e, M b = some e → kB e → M' b = some e
theorem CB.frB {γ : mG} {M M' : mMap} {β : BK} {oa cp : Nat → Nat} {L : Nat → List Nat} {σ : St} (h : CB γ M β oa cp L σ) (hf : frB M M') : CB γ M' β oa cp L σ := by
  obtain ⟨ar, ta, ap, av, az, h1, h2, h3, h4, h5, h6, h7, h8, h9⟩ := h
  refine ⟨ar, ta, ap, av, az, hf _ _ h1 (show (6 : Nat) ≠ 7 by decide), ⟨hf _ _ h2.1 (show (3 : Nat) ≠ 7 by decide), hf _ _ h2.2 (show (3 : Nat) ≠ 7 by decide)⟩, hf _ _ h3 (show (5 : Nat) ≠ 7 by decide), hf _ _ h4 (show (1 : Nat) ≠ 7 by decide), fun o ho => hf _ _ (h5 o ho) (show (2 : Nat) ≠ 7 by decide), fun i hi => hf _ _ (h6 i hi) (show (4 : Nat) ≠ 7 by decide), fun j hj => ?_, h8, h9⟩
  obtain ⟨⟨md, a1⟩, a2, a3, a4⟩ := h7 j hj
  refine ⟨⟨md, hf _ _ a1 (show (0 : Nat) ≠ 7 by decide)⟩, a2, a3, ?_⟩
  rcases a4 with a4 | ⟨b1, f, b2, b3⟩
  · exact Or.inl a4
  · exact Or.inr ⟨b1, f, hf _ _ b2 trivial, b3⟩
/-- the law's own place for answers -/
abbrev ouc (γ : mG) (f : Nat → Int64) : va_E := .inl (gA γ 2, 1, .inr (.inl f))
theorem frB.out {γ : mG} {M : mMap} {a : Nat} {f : Nat → Int64} {e : va_E} (h : M a = some (ouc γ f)) : frB M (mU M a e) := fun b x hb hk => mU_to (fun z => by
  subst z
  rw [h] at hb
  cases hb
  exact hk) hb
theorem rcell_nb {γ : mG} {σ : St} {ε : RE} {j : Nat} : ¬ kB (rcell γ σ ε j) := by
  unfold rcell
  split
  · exact id
  · split
    · exact id
    · exact id
theorem rcell_rk {γ : mG} {σ : St} {ε : RE} {j : Nat} : rk (rcell γ σ ε j) := by
  unfold rcell
  split
  · exact trivial
  · split
    · exact trivial
    · exact trivial
theorem rcell_ou {γ : mG} {σ : St} {ε : RE} {j : Nat} {f : Nat → Int64} : rcell γ σ ε j ≠ ouc γ f := by
  unfold rcell
  split
  · intro h; injection h with h; injection h with h1 h2; injection h2 with h3 h4; cases h3
  · split
    · intro h; injection h with h; injection h with h1 h2; injection h2 with h3 h4; cases h3
    · intro h; injection h with h; injection h with h1 h2; injection h2 with h3 h4; cases h3
theorem frR.B {γ : mG} {M M' : mMap} {μ : RK} {σ : St} {ε : RE} (hR : RM γ M μ σ ε) (h : frR μ M M') : frB M M' := fun b e hb hk => by
  rw [h b (fun z => by subst z; rw [hR.1] at hb; cases hb; exact hk rfl) (fun j hj z => by subst z; rw [hR.2.1 j hj] at hb; cases hb; exact rcell_nb hk)]
  exact hb
theorem frR.out {γ : mG} {M M' : mMap} {μ : RK} {σ : St} {ε : RE} {a : Nat} {f : Nat → Int64} (hR : RM γ M μ σ ε) (h : frR μ M M') (ha : M a = some (ouc γ f)) : M' a = some (ouc γ f) := by
  rw [h a (m_kind ha hR.1 (fun z => by cases z)) (fun j hj => m_kind ha (hR.2.1 j hj) (fun z => rcell_ou z.symm))]
  exact ha
theorem RM.fr {γ : mG} {M M' : mMap} {μ : RK} {σ : St} {ε : RE} {a : Nat} {f : Nat → Int64} (hR : RM γ M μ σ ε) (ha : M a = some (ouc γ f)) (h : ∀ b e, b ≠ a → M b = some e → rk e → (∀ fs, e ≠ .inr (1, fs)) → M' b = some e) : RM γ M' μ σ ε := by
  obtain ⟨h1, h2, h3⟩ := hR
  refine ⟨h _ _ (m_kind h1 ha (fun z => by cases z)) h1 (Or.inl rfl) (fun fs z => by cases z), fun j hj => h _ _ (m_kind (h2 j hj) ha rcell_ou) (h2 j hj) rcell_rk (fun fs => rcell_ne), h3⟩
/-- what a helper leaves alone: all of the reference -/
def frL (M M' : mMap) (a : Nat) : Prop := ∀ b e, b ≠ a → M b = some e → rk e → (∀ fs, e ≠ .inr (1, fs)) → M' b = some e
theorem frL.c {M M' : mMap} {a : Nat} {e : va_E} (h : frC M M') : frL M (mU M' a e) a := fun b x hb hM hk _ => mU_to hb (h b x hM hk)
theorem frL.w {M M' : mMap} {a : Nat} {e : va_E} (h : frW M M') : frL M (mU M' a e) a := fun b x hb hM hk h1 => mU_to hb (h b x hM ⟨hk, h1⟩)
theorem frL.rf {M : mMap} {a : Nat} {e : va_E} : frL M (mU M a e) a := fun b x hb hM _ _ => mU_to hb hM
theorem frC.out {γ : mG} {M M' : mMap} {a : Nat} {f : Nat → Int64} (h : frC M M') (ha : M a = some (ouc γ f)) : M' a = some (ouc γ f) := h a _ ha trivial
theorem frW.out {γ : mG} {M M' : mMap} {a : Nat} {f : Nat → Int64} (h : frW M M') (ha : M a = some (ouc γ f)) : M' a = some (ouc γ f) := h a _ ha ⟨trivial, fun fs z => by cases z⟩
theorem kC_le : ∀ t, kC t ≤ 2 * t := by
  intro t
  induction t with
  | zero => exact Nat.le_refl _
  | succ t ih => unfold kC; have := gN_1 (cAt t) t; omega
