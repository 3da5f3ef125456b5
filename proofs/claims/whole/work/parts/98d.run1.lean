/-! What holds between the calls -/
def TZ (σ : St) : Prop := ∀ x, sn σ ≤ x → sI σ 4 x = 0 ∧ sI σ 7 x = 0
def RIN (σ : St) (k : Nat) : Prop := Inv0 σ ∧ BD σ ∧ NY σ ∧ NM σ ∧ NZ σ ∧ TZ σ ∧ stn σ + phS (sI σ) (sn σ) ≤ 51 * k ∧ (srk σ).toInt ≤ 100001 * k
section RUN1
variable {σ : St} {o : Nat}
theorem hit_far {r x f : Nat} (h1 : x ≠ o) (h2 : x ≠ r) : sI (xHit σ o r) f x = sI σ f x := (hit_at h2).trans (hit_x h1 h2)
theorem meet_far {x f : Nat} : ∀ {k : Nat} {σ : St}, o < sn σ → sn σ ≤ x → sI (xMeet k σ o) f x = sI σ f x ∧ sn (xMeet k σ o) = sn σ ∧ srf (xMeet k σ o) = srf σ ∧ sbd (xMeet k σ o) = sbd σ := by
  intro k
  induction k with
  | zero => intro σ _ _; exact ⟨rfl, rfl, rfl, rfl⟩
  | succ k ih =>
    intro σ ho hx
    by_cases h3 : 0 < sI σ 3 o
    · cases hf : fst (sI σ) (opp (sI σ 1 o)) (sn σ) with
      | none => rw [xMeet_nil h3 hf]; exact ⟨rfl, rfl, rfl, rfl⟩
      | some r =>
        have hr := fst_lt hf
        cases ht : tk (sI σ) o (sI σ 2 r) with
        | false => rw [xMeet_nt h3 hf ht]; exact ⟨rfl, rfl, rfl, rfl⟩
        | true =>
          cases hb : byc (srf σ) (sbd σ) (sI σ 2 r) with
          | true => rw [xMeet_by h3 hf ht hb]; exact ⟨rfl, rfl, rfl, rfl⟩
          | false =>
            rw [xMeet_go h3 hf ht hb]
            obtain ⟨a, b, c, d⟩ := ih (σ := xHit σ o r) (by rw [hit_sn]; exact ho) (by rw [hit_sn]; exact hx)
            obtain ⟨p1, p2, p3, -⟩ := hit_p4 (σ := σ) (o := o) (r := r)
            exact ⟨a.trans (hit_far (by omega) (by omega)), b.trans hit_sn, c.trans p2, d.trans p3⟩
    · rw [xMeet_no h3]; exact ⟨rfl, rfl, rfl, rfl⟩
theorem tail_far {τ : St} {x f : Nat} (h : x ≠ o) : sI (xTail τ o) f x = sI τ f x ∧ srf (xTail τ o) = srf τ ∧ sbd (xTail τ o) = sbd τ := by
  unfold xTail
  split
  · exact ⟨rest_x h, rfl, rfl⟩
  · exact ⟨end_x h, rfl, rfl⟩
theorem come_far {g : Bool} (ho : o < sn σ) : sn (xCome g σ o) = sn σ ∧ srf (xCome g σ o) = srf σ ∧ sbd (xCome g σ o) = sbd σ ∧ ∀ x f, sn σ ≤ x → sI (xCome g σ o) f x = sI σ f x := by
  unfold xCome
  by_cases hp : sph σ = 1
  · rw [if_pos hp]
    by_cases hg : sI σ 6 o = 2 ∧ g = false
    · rw [if_pos hg]
      exact ⟨tail_sn, (tail_far (x := o + 1) (f := 0) (by omega)).2.1, (tail_far (x := o + 1) (f := 0) (by omega)).2.2, fun x f hx => (tail_far (by omega)).1⟩
    · rw [if_neg hg]
      have m := meet_far (x := sn σ) (f := 0) (k := 100000) ho (Nat.le_refl _)
      exact ⟨tail_sn.trans m.2.1, (tail_far (x := o + 1) (f := 0) (by omega)).2.1.trans m.2.2.1, (tail_far (x := o + 1) (f := 0) (by omega)).2.2.trans m.2.2.2, fun x f hx => ((tail_far (by omega)).1).trans (meet_far ho hx).1⟩
  · rw [if_neg hp]
    exact ⟨rfl, rfl, rfl, fun x f hx => rest_x (by omega)⟩
theorem come_BD {g : Bool} (ho : o < sn σ) (h : BD σ) : BD (xCome g σ o) := by
  unfold BD
  rw [(come_far ho).2.1, (come_far ho).2.2.1]
  exact h
theorem come_TZ {g : Bool} (ho : o < sn σ) (h : TZ σ) : TZ (xCome g σ o) := by
  obtain ⟨h1, -, -, h4⟩ := come_far (g := g) ho
  intro x hx
  rw [h1] at hx
  rw [h4 x 4 hx, h4 x 7 hx]
  exact h x hx
end RUN1
section PLACE
variable {σ : St} {w b p q k0 f : Int32} {g : Bool} {k : Nat}
theorem new_ny (h : NY σ) : NY (xNew σ w b p q k0 f) := by
  intro p1 x y hx hy rx ry hs
  have key : ∀ z, rs (sI (xNew σ w b p q k0 f)) z = true → z ≠ sn σ := fun z hz e => by rw [e, new_rs] at hz; cases hz
  have ex := key x rx
  have ey := key y ry
  have hx' : x < sn σ + 1 := hx
  have hy' : y < sn σ + 1 := hy
  rw [new_rso ex] at rx
  rw [new_rso ey] at ry
  rw [new_o ex, new_o ey] at hs
  rw [new_o ey, tk_at (new_o ex) (new_o ex)]
  exact h p1 x y (by omega) (by omega) rx ry hs
theorem new_nm (h : NM σ) : NM (xNew σ w b p q k0 f) := by
  intro p1 x hx rx
  have ex : x ≠ sn σ := fun e => by rw [e, new_rs] at rx; cases rx
  have hx' : x < sn σ + 1 := hx
  rw [new_rso ex] at rx
  rw [new_o ex]
  exact h p1 x (by omega) rx
theorem new_nz (h : NZ σ) : NZx (xNew σ w b p q k0 f) (sn σ) := by
  intro x hx ex hr
  have hx' : x < sn σ + 1 := hx
  rw [new_rso ex] at hr
  rw [new_o ex, new_o ex]
  exact h x (by omega) hr
theorem new_tz (h : TZ σ) : TZ (xNew σ w b p q k0 f) := by
  intro x hx
  have hx' : sn σ + 1 ≤ x := hx
  rw [new_o (by omega), new_o (by omega)]
  exact h x (by omega)
theorem new_phi : phS (sI (xNew σ w b p q k0 f)) (sn σ + 1) = phS (sI σ) (sn σ) := by
  show phS (sI (xNew σ w b p q k0 f)) (sn σ) + phO (sI (xNew σ w b p q k0 f)) (sn σ) = _
  rw [phO_no new_rs, Nat.add_zero]
  exact phS_same (fun x hx => phO_cols (new_o (by omega)) (new_o (by omega)) (new_o (by omega)) (new_o (by omega)))
theorem new_at : sI (xNew σ w b p q k0 f) 3 (sn σ) = q ∧ sI (xNew σ w b p q k0 f) 5 (sn σ) = -1 ∧ sI (xNew σ w b p q k0 f) 8 (sn σ) = k0 := ⟨new_n, new_n, new_n⟩
/-- an order is placed -/
theorem rin_place {L : Nat → List Nat} (h : RIN σ k) (hL : LN σ L) (hk : k ≤ 512) (hb : b = 0 ∨ b = 1) (hv2 : rg 0 2000 p = true) (hv3 : rg 1 100000 q = true) (hv4 : rg 0 100000 k0 = true) (hv5 : fpk q k0 = true) (hn : sn σ < 250) :
    Inv0 (xNew σ w b p q k0 f) ∧ LN (xNew σ w b p q k0 f) L ∧ stn (xCome g (xNew σ w b p q k0 f) (sn σ)) ≤ 51 * (k + 1) ∧ ((srk (xCome g (xNew σ w b p q k0 f) (sn σ))).toInt ≤ (srk σ).toInt + 100001 → Inv0 (xCome g (xNew σ w b p q k0 f) (sn σ)) → RIN (xCome g (xNew σ w b p q k0 f) (sn σ)) (k + 1)) := by
  obtain ⟨hI, hB, hY, hM, hZ, hT, hΦ, hR⟩ := h
  have hp0 := rg_i hv2
  have hq0 := rg_i hv3
  have hk0 := rg_i hv4
  rw [i0, show (2000 : Int32).toInt = 2000 by decide] at hp0
  rw [i_1, show (100000 : Int32).toInt = 100000 by decide] at hq0
  rw [i0, show (100000 : Int32).toInt = 100000 by decide] at hk0
  have hI1 : Inv0 (xNew σ w b p q k0 f) := hI.new hn hb hp0 hk0
  have hL1 : LN (xNew σ w b p q k0 f) L := hL.new
  have ho : sn σ < sn (xNew σ w b p q k0 f) := Nat.lt_succ_self _
  obtain ⟨e3, e5, e8⟩ := new_at (σ := σ) (w := w) (b := b) (p := p) (q := q) (k0 := k0) (f := f)
  have hrk : (srk (xNew σ w b p q k0 f)).toInt ≤ 500000000 := by show (srk σ).toInt ≤ _; omega
  have h50 : 0 < (sI (xNew σ w b p q k0 f) 8 (sn σ)).toInt → (sI (xNew σ w b p q k0 f) 3 (sn σ)).toInt ≤ 50 * (sI (xNew σ w b p q k0 f) 8 (sn σ)).toInt := by rw [e3, e8]; exact fpk_i hv5 hk0.1 hk0.2
  have hphi := come_phi (g := g) hI1 hL1 ho e5 (by rw [e3]; omega) h50 hrk
  have e9 : phS (sI (xNew σ w b p q k0 f)) (sn (xNew σ w b p q k0 f)) = phS (sI σ) (sn σ) := new_phi
  have e10 : stn (xNew σ w b p q k0 f) = stn σ := rfl
  rw [e9, e10] at hphi
  obtain ⟨y1, y2⟩ := come_ny (g := g) hI1 hL1 ho e5 (by rw [e3]; omega) (by rw [e3]; omega) hrk (new_ny hY) (new_nm hM)
  refine ⟨hI1, hL1, by omega, fun hs hI2 => ⟨hI2, come_BD ho hB, y1, y2, come_nz hI1 hL1 ho e5 (by rw [e3]; omega) hrk (new_nz hZ), come_TZ ho (new_tz hT), ?_, by omega⟩⟩
  rw [(come_far ho).1]
  omega
end PLACE
