/-! Lists: what add, add(int, E) and remove do to the list that the cells hold -/
theorem nil_len {xs : List Nat} (h : xs.length = 0) : xs = [] := List.eq_nil_of_length_eq_zero h
theorem cgr_pos {n : Nat} (h : 10 ≤ n) : cgr n = n + n / 2 := if_neg (by omega)
theorem alF.remM {M : mMap} {a r : Nat} {e0 e1 e2 e3 : va_E} : alF M (mU (mU (mU (mU M a e0) r e1) a e2) r e3) a r r := ⟨fun b e h h1 h2 => mU_to h2 (mU_to h1 (mU_to h2 (mU_to h1 h))), Or.inl rfl⟩
theorem alF.remL {M : mMap} {a r : Nat} {e0 e1 e2 : va_E} : alF M (mU (mU (mU M a e0) a e1) r e2) a r r := ⟨fun b e h h1 h2 => mU_to h2 (mU_to h1 (mU_to h1 h)), Or.inl rfl⟩
theorem cc_add (l : Launch) (γ : mG) (M : mMap) (a rr cap : Nat) (xs : List Nat) (hA : AL γ M a rr cap xs) (v ci : Nat) (hV : mEl M ci (v :: xs)) (hlt : xs.length ≤ 39000) : Met l y_AL_add w_AL_add ({ frames := 6, cells := gN cap xs.length, slots := sN cap xs.length, locals := 158 } : Room) (mPc γ M [.ref a, .ref v]) (mQi γ (fun r M' => r = 1 ∧ ∃ rr', AL γ M' a rr' (cN cap xs.length) (xs ++ [v]) ∧ alF M M' a rr rr')) (gN cap xs.length) (sN cap xs.length) (mA (gz γ)) := by
  obtain ⟨⟨md, ha⟩, hle, hcap, hc⟩ := hA
  have hv : v ∈ v :: xs := List.mem_cons_self
  by_cases h : xs.length = cap
  · have e1 : gN cap xs.length = 1 := if_pos h
    have e2 : sN cap xs.length = cgr cap := if_pos h
    have e3 : cN cap xs.length = cgr cap := if_pos h
    rw [e1, e2, e3]
    rcases hc with ⟨h0, hr⟩ | ⟨h10, f, hr0, hct⟩
    · subst h0
      have hx := nil_len h
      subst hx
      subst hr
      refine (c_AL_addE l γ M a md ha v ci [v] hV hv).mono (mQi.mono ?_)
      rintro r M' ⟨hr, q, hqa, hq, rfl⟩
      exact ⟨hr, q, AL.mk (mU_eq _ _ _) (mU_to hqa (mU_eq _ _ _)) (ct_add (xs := []) (ct_nil _)) (Nat.le_of_ble_eq_true rfl) (by decide) (by decide), alF.grown hq⟩
    · subst h
      rw [cgr_pos h10]
      refine (c_AL_addF l γ M a md rr _ f ha hr0 ci xs (hV.sub (fun x h => List.mem_cons_of_mem _ h)) hct rfl (by omega) (by omega) v (v :: xs) hV hv).mono (mQi.mono ?_)
      rintro r M' ⟨hr, q, hqa, hq, rfl⟩
      exact ⟨hr, q, AL.mk (by rw [List.length_append]; exact mU_eq _ _ _) (mU_to hqa (mU_eq _ _ _)) (ct_add (ct_grow hct (Nat.le_refl _))) (by rw [List.length_append, List.length_singleton]; omega) (by omega) (by omega), alF.grown hq⟩
  · have e1 : gN cap xs.length = 0 := if_neg h
    have e2 : sN cap xs.length = 0 := if_neg h
    have e3 : cN cap xs.length = cap := if_neg h
    rw [e1, e2, e3]
    rcases hc with ⟨h0, hr⟩ | ⟨h10, f, hr0, hct⟩
    · omega
    · have hne : rr ≠ a := m_kind hr0 ha (fun z => by cases z)
      refine (c_AL_addR l γ M a md rr cap xs.length f ha hr0 (by omega) (by omega) v ci (v :: xs) hV hv).mono (mQi.mono ?_)
      rintro r M' ⟨hr, rfl⟩
      exact ⟨hr, rr, AL.mk (by rw [List.length_append]; exact mU_eq _ _ _) (mU_to hne (mU_eq _ _ _)) (ct_add hct) (by rw [List.length_append, List.length_singleton]; omega) h10 hcap, alF.room⟩
theorem cc_addAt (l : Launch) (γ : mG) (M : mMap) (a rr cap : Nat) (xs : List Nat) (hA : AL γ M a rr cap xs) (v ci : Nat) (hV : mEl M ci (v :: xs)) (hlt : xs.length ≤ 39000) (i0 : Nat) (hi : i0 ≤ xs.length) : Met l y_AL_add3 w_AL_add3 ({ frames := 5, cells := gN cap xs.length, slots := sN cap xs.length, locals := 135 } : Room) (mPc γ M [.ref a, .int (nI i0), .ref v]) (mQv γ (fun M' => ∃ rr', AL γ M' a rr' (cN cap xs.length) (xs.insertIdx i0 v) ∧ alF M M' a rr rr')) (gN cap xs.length) (sN cap xs.length) (mA (gz γ)) := by
  obtain ⟨⟨md, ha⟩, hle, hcap, hc⟩ := hA
  have hlen : (xs.insertIdx i0 v).length = xs.length + 1 := by rw [List.length_insertIdx, if_pos hi]
  by_cases h : xs.length = cap
  · have e1 : gN cap xs.length = 1 := if_pos h
    have e2 : sN cap xs.length = cgr cap := if_pos h
    have e3 : cN cap xs.length = cgr cap := if_pos h
    rw [e1, e2, e3]
    rcases hc with ⟨h0, hr⟩ | ⟨h10, f, hr0, hct⟩
    · subst h0
      have hx := nil_len h
      subst hx
      subst hr
      have hi0 : i0 = 0 := by simpa using hi
      subst hi0
      refine (c_AL_addAtE l γ M a md ha v ci [] hV rfl 0 (Nat.le_refl _)).mono (mQv.mono ?_)
      rintro M' ⟨q, hqa, hq, rfl⟩
      exact ⟨q, AL.mk (mU_eq _ _ _) (mU_to hqa (mU_eq _ _ _)) (ct_ins (xs := []) (ct_nil _) (Nat.le_refl _)) (Nat.le_of_ble_eq_true rfl) (by decide) (by decide), alF.grown hq⟩
    · subst h
      rw [cgr_pos h10]
      refine (c_AL_addAtF l γ M a md rr _ f ha hr0 v ci xs hV hct rfl (by omega) (by omega) i0 hi).mono (mQv.mono ?_)
      rintro M' ⟨q, hqa, hq, rfl⟩
      exact ⟨q, AL.mk (by rw [hlen]; exact mU_eq _ _ _) (mU_to hqa (mU_eq _ _ _)) (ct_ins (ct_grow hct (Nat.le_refl _)) hi) (by rw [hlen]; omega) (by omega) (by omega), alF.grown hq⟩
  · have e1 : gN cap xs.length = 0 := if_neg h
    have e2 : sN cap xs.length = 0 := if_neg h
    have e3 : cN cap xs.length = cap := if_neg h
    rw [e1, e2, e3]
    rcases hc with ⟨h0, hr⟩ | ⟨h10, f, hr0, hct⟩
    · omega
    · have hne : rr ≠ a := m_kind hr0 ha (fun z => by cases z)
      refine (c_AL_addAtR l γ M a md rr cap xs.length f ha hr0 (by omega) (by omega) v ci xs hV hct rfl i0 hi).mono (mQv.mono ?_)
      rintro M' rfl
      exact ⟨rr, AL.mk (by rw [hlen]; exact mU_eq _ _ _) (mU_to hne (mU_eq _ _ _)) (ct_ins hct hi) (by rw [hlen]; omega) h10 hcap, alF.room⟩
theorem cc_remove (l : Launch) (γ : mG) (M : mMap) (a rr cap : Nat) (xs : List Nat) (hA : AL γ M a rr cap xs) (ci : Nat) (hE : mEl M ci xs) (i0 : Nat) (hi : i0 < xs.length) : Met l y_AL_remove w_AL_remove ({ frames := 2, cells := 0, slots := 0, locals := 71 } : Room) (mPc γ M [.ref a, .int (nI i0)]) (mQq γ (fun r M' => r = xs[i0]? ∧ AL γ M' a rr cap (xs.eraseIdx i0) ∧ alF M M' a rr rr)) 0 0 (mA (gz γ)) := by
  obtain ⟨md, f, ha, hr0, hct, hle, hcap, h10⟩ := hA.pos hi
  obtain ⟨k, hk⟩ : ∃ k, xs.length = k + 1 := ⟨xs.length - 1, by omega⟩
  have hne : rr ≠ a := m_kind hr0 ha (fun z => by cases z)
  have hx0 : f i0 = some xs[i0] := (hct i0 hi).trans (List.getElem?_eq_getElem hi)
  have hlen : (xs.eraseIdx i0).length = k := by rw [List.length_eraseIdx, if_pos hi]; omega
  rw [hk] at ha
  by_cases h : i0 < k
  · refine (c_AL_removeM l γ M a md rr cap k f ha hr0 ci xs hE hct hk (by omega) (by omega) i0 h _ hx0).mono (mQq.mono ?_)
    rintro r M' ⟨hr, rfl⟩
    have hd := ct_del hct hi
    rw [hk] at hd
    exact ⟨hr.trans (List.getElem?_eq_getElem hi).symm, AL.mk (mU_to hne.symm (by rw [hlen]; exact mU_eq _ _ _)) (mU_eq _ _ _) hd (by omega) h10 hcap, alF.remM⟩
  · refine (c_AL_removeL l γ M a md rr cap k f ha hr0 ci xs hE hct hk (by omega) (by omega) i0 (by omega) _ hx0).mono (mQq.mono ?_)
    rintro r M' ⟨hr, rfl⟩
    have hd := ct_del0 hct (show i0 + 1 = xs.length by omega)
    rw [hk] at hd
    exact ⟨hr.trans (List.getElem?_eq_getElem hi).symm, AL.mk (mU_to hne.symm (by rw [hlen]; exact mU_eq _ _ _)) (mU_eq _ _ _) hd (by omega) h10 hcap, alF.remL⟩
