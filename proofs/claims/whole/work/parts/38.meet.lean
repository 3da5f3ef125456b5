/-! How an order that comes meets others -/
def opp (b : Int32) : Int32 := if b = 0 then 1 else 0
def tk (I : Co) (o : Nat) (p : Int32) : Bool := decide (I 2 o = 0) || (if I 1 o = 0 then decide (I 2 o ≤ p) else decide (p ≤ I 2 o))
def oPh (σ : St) (v : Int32) : St := (σ.1, (v, srf σ, sbd σ, srk σ), σ.2.2)
def xMeet : Nat → St → Nat → St
  | 0, σ, _ => σ
  | k + 1, σ, o => if 0 < sI σ 3 o then (match fst (sI σ) (opp (sI σ 1 o)) (sn σ) with
      | none => σ
      | some r => if tk (sI σ) o (sI σ 2 r) = true then (if byc (srf σ) (sbd σ) (sI σ 2 r) = true then oPh σ 2 else xMeet k (xHit σ o r) o) else σ) else σ
section MEET
variable {σ : St} {o r k : Nat}
theorem xMeet_no (h : ¬ 0 < sI σ 3 o) : xMeet (k + 1) σ o = σ := by
  unfold xMeet
  rw [if_neg h]
theorem xMeet_nil (h : 0 < sI σ 3 o) (hf : fst (sI σ) (opp (sI σ 1 o)) (sn σ) = none) : xMeet (k + 1) σ o = σ := by
  unfold xMeet
  rw [if_pos h, hf]
theorem xMeet_nt (h : 0 < sI σ 3 o) (hf : fst (sI σ) (opp (sI σ 1 o)) (sn σ) = some r) (ht : tk (sI σ) o (sI σ 2 r) = false) : xMeet (k + 1) σ o = σ := by
  unfold xMeet
  rw [if_pos h, hf]
  dsimp only
  rw [ht, if_neg (by decide)]
theorem xMeet_by (h : 0 < sI σ 3 o) (hf : fst (sI σ) (opp (sI σ 1 o)) (sn σ) = some r) (ht : tk (sI σ) o (sI σ 2 r) = true) (hb : byc (srf σ) (sbd σ) (sI σ 2 r) = true) : xMeet (k + 1) σ o = oPh σ 2 := by
  unfold xMeet
  rw [if_pos h, hf]
  dsimp only
  rw [if_pos ht, if_pos hb]
theorem xMeet_go (h : 0 < sI σ 3 o) (hf : fst (sI σ) (opp (sI σ 1 o)) (sn σ) = some r) (ht : tk (sI σ) o (sI σ 2 r) = true) (hb : byc (srf σ) (sbd σ) (sI σ 2 r) = false) : xMeet (k + 1) σ o = xMeet k (xHit σ o r) o := by
  have hb' : ¬ byc (srf σ) (sbd σ) (sI σ 2 r) = true := by rw [hb]; decide
  show (if 0 < sI σ 3 o then _ else _) = _
  rw [if_pos h, hf]
  dsimp only
  rw [if_pos ht, if_neg hb']
theorem hit_sn : sn (xHit σ o r) = sn σ := by
  unfold xHit
  split
  · rfl
  · split <;> rfl
theorem hit_tn : stn (xHit σ o r) = stn σ + 1 := by
  unfold xHit
  split
  · rfl
  · split <;> rfl
theorem hit_p4 : sph (xHit σ o r) = sph σ ∧ srf (xHit σ o r) = srf σ ∧ sbd (xHit σ o r) = sbd σ ∧ (srk (xHit σ o r) = srk σ ∨ srk (xHit σ o r) = srk σ + 1) := by
  unfold xHit
  split
  · exact ⟨rfl, rfl, rfl, Or.inl rfl⟩
  · split
    · exact ⟨rfl, rfl, rfl, Or.inr rfl⟩
    · exact ⟨rfl, rfl, rfl, Or.inl rfl⟩
/-- away from r only the trade shows -/
theorem hit_at {f x : Nat} (h : x ≠ r) : sI (xHit σ o r) f x = sI (xHit0 σ o r) f x := by
  unfold xHit
  split
  · show s1 (s1 (s1 (sI (xHit0 σ o r)) 3 r 0) 4 r 0) 5 r (-1) f x = _
    rw [s1_o h, s1_o h, s1_o h]
  · split
    · show s1 (s1 (sI (xHit0 σ o r)) 5 r (srk (xHit0 σ o r))) 4 r _ f x = _
      rw [s1_o h, s1_o h]
    · rfl
theorem hit_o5 (h : o ≠ r) : sI (xHit σ o r) 5 o = sI σ 5 o := by rw [hit_at h]; exact congrFun (hit_f (by decide) (by decide) (by decide)) o
theorem hit_o1 (h : o ≠ r) : sI (xHit σ o r) 1 o = sI σ 1 o := by rw [hit_at h]; exact congrFun (hit_f (by decide) (by decide) (by decide)) o
theorem hit_oc {f : Nat} (h : o ≠ r) (h3 : f ≠ 3) (h4 : f ≠ 4) (h7 : f ≠ 7) : sI (xHit σ o r) f o = sI σ f o := by rw [hit_at h]; exact congrFun (hit_f h3 h4 h7) o
theorem hit_o3 (h : o ≠ r) : sI (xHit σ o r) 3 o = sI σ 3 o - hQ σ o r := by rw [hit_at h]; exact hit_3o h
theorem meet_tn : ∀ {k : Nat} {σ : St}, stn σ ≤ stn (xMeet k σ o) := by
  intro k
  induction k with
  | zero => intro σ; exact Nat.le_refl _
  | succ k ih =>
    intro σ
    unfold xMeet
    split
    · split
      · exact Nat.le_refl _
      · split
        · split
          · exact Nat.le_refl _
          · refine Nat.le_trans ?_ ih
            rw [hit_tn]; omega
        · exact Nat.le_refl _
    · exact Nat.le_refl _
end MEET
/-- what trades cost: cells and slots of the first t -/
def kC : Nat → Nat
  | 0 => 0
  | t + 1 => kC t + (1 + gN (cAt t) t)
def kS : Nat → Nat
  | 0 => 0
  | t + 1 => kS t + (4 + sN (cAt t) t)
theorem kC_mono : ∀ {a b : Nat}, a ≤ b → kC a ≤ kC b := by
  intro a b h
  induction h with
  | refl => exact Nat.le_refl _
  | step _ ih => exact Nat.le_trans ih (Nat.le_add_right _ _)
theorem kS_mono : ∀ {a b : Nat}, a ≤ b → kS a ≤ kS b := by
  intro a b h
  induction h with
  | refl => exact Nat.le_refl _
  | step _ ih => exact Nat.le_trans ih (Nat.le_add_right _ _)
theorem cAt_s (t : Nat) : cN (cAt t) t = cAt (t + 1) := rfl
theorem opp_ne {b : Int32} (h : b = 0 ∨ b = 1) : opp b ≠ b := by rcases h with e | e <;> subst e <;> decide
theorem opp_or (b : Int32) : opp b = 0 ∨ opp b = 1 := by
  unfold opp
  split
  · exact Or.inr rfl
  · exact Or.inl rfl
