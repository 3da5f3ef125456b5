/-! What the book is asked, in numbers -/
theorem i_nI {x : Int32} (h : ¬ x < 0) : ∃ k : Nat, x = nI k ∧ k < 2 ^ 31 := by
  have h0 : 0 ≤ x.toInt := by
    have h9 := Int32.le_iff_toInt_le.mp (Int32.not_lt.mp h)
    rw [i0] at h9
    exact h9
  have h1 : x.toInt < 2 ^ 31 := Int32.toInt_lt x
  refine ⟨x.toInt.toNat, Int32.toInt_inj.mp ?_, by omega⟩
  rw [nI_toInt (by omega)]
  omega
theorem nI_ltm {a b : Nat} (ha : a < 2 ^ 31) (hb : b < 2 ^ 31) (h : nI a < nI b) : a < b := by
  have h9 := Int32.lt_iff_toInt_lt.mp h
  rw [nI_toInt ha, nI_toInt hb] at h9
  omega
theorem nI_lem {a b : Nat} (ha : a < 2 ^ 31) (hb : b < 2 ^ 31) (h : ¬ nI a < nI b) : b ≤ a := by
  refine Nat.le_of_not_lt (fun z => h (nI_lt z hb))
theorem nI_inj {a b : Nat} (ha : a < 2 ^ 31) (hb : b < 2 ^ 31) (h : nI a = nI b) : a = b := by
  have h9 := congrArg Int32.toInt h
  rw [nI_toInt ha, nI_toInt hb] at h9
  omega
section ACC
variable {γ : mG} {M : mMap} {β : BK} {oa cp : Nat → Nat} {L : Nat → List Nat} {σ : St}
theorem CB.alls (h : CB γ M β oa cp L σ) : ∃ r, AL γ M (bal β 0) r (cp 0) ((List.range (sn σ)).map oa) := by
  obtain ⟨ar, ta, ap, av, az, h1, h2, h3, h4, h5, h6, h7⟩ := h
  have := h7.1 0 (by omega)
  unfold lx at this
  rw [if_pos rfl] at this
  exact ⟨_, this⟩
theorem CB.keeps (h : CB γ M β oa cp L σ) : ∃ r ta, AL γ M (bal β 3) r (cp 3) ((List.range (stn σ)).map ta) ∧ TR M ta (sT σ) (stn σ) := by
  obtain ⟨ar, ta, ap, av, az, h1, h2, h3, h4, h5, h6, h7⟩ := h
  have := h7.1 3 (by omega)
  unfold lx at this
  rw [if_neg (by decide), if_pos rfl] at this
  exact ⟨_, ta, this, h6⟩
theorem CB.auct (h : CB γ M β oa cp L σ) : ∃ a : AU, M (bau β) = some (.inr (1, auc a)) := by
  obtain ⟨ar, ta, ap, av, az, h1, h2, h3, h4, h5, h6, h7⟩ := h
  exact ⟨(ap, av, az), h4⟩
theorem CB.setA (h : CB γ M β oa cp L σ) {a : AU} {e : va_E} (he : e = .inr (1, auc a)) : CB γ (mU M (bau β) e) β oa cp L σ ∧ frW M (mU M (bau β) e) := by
  obtain ⟨ar, ta, ap, av, az, h1, h2, h3, h4, h5, h6, h7⟩ := h
  subst he
  exact ⟨⟨ar, ta, a.1, a.2.1, a.2.2, mU_to (m_kind h1 h4 (fun z => by cases z)) h1, ⟨mU_to (m_kind h2.1 h4 (fun z => by cases z)) h2.1, mU_to (m_kind h2.2 h4 (fun z => by cases z)) h2.2⟩, mU_to (m_kind h3 h4 (fun z => by cases z)) h3, mU_eq _ _ _, fun i hi => mU_to (m_kind (h5 i hi) h4 (fun z => by cases z)) (h5 i hi), fun i hi => mU_to (m_kind (h6 i hi) h4 (fun z => by cases z)) (h6 i hi), h7.setO h4 (by decide)⟩, frW.setA h4⟩
end ACC
theorem rg_at {f : Nat → Nat} {n k : Nat} (h : k < n) : ((List.range n).map f)[k]? = some (f k) := by
  rw [List.getElem?_map, List.getElem?_range h]; rfl
theorem rg_len {f : Nat → Nat} {n : Nat} : ((List.range n).map f).length = n := by rw [List.length_map, List.length_range]
def tlv (σ : St) (k : Nat) (w : Int32) : Int32 := if w = 0 then sT σ 0 k else if w = 1 then sT σ 1 k else if w = 2 then sT σ 2 k else if w = 3 then sT σ 3 k else -1
def tell (σ : St) (x w : Int32) : Int32 := if x < 0 then -1 else if x < nI (stn σ) then tlv σ x.toNatClampNeg w else -1
def told (σ : St) (L : Nat → List Nat) (w : Int32) : Int64 := if w = 0 then (sph σ).toInt64 else if w = 1 then (srf σ).toInt64 else if w = 2 then (sbd σ).toInt64 else if w = 3 then (nI (sn σ)).toInt64 else if w = 4 then (nI (L 1).length).toInt64 else if w = 5 then (nI (L 2).length).toInt64 else if w = 6 then (nI (stn σ)).toInt64 else if w = 7 then sal σ else -1
def atl (K : List Nat) (x : Int32) : Int32 := if x < 0 then -1 else if x < nI K.length then nI (K.getD x.toNatClampNeg 0) else -1
