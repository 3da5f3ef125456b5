/-! An order comes, in numbers -/
theorem gN_1 (c k : Nat) : gN c k ≤ 1 := by unfold gN; split <;> omega
theorem sN_b {c k : Nat} (h : k ≤ 249) : sN c k ≤ 373 := by
  unfold sN cgr
  split
  · split <;> omega
  · omega
theorem cN_b {c k : Nat} (h : k ≤ 249) (hc : c ≤ 373) : cN c k ≤ 373 := by
  unfold cN cgr
  split
  · split <;> omega
  · omega
/-- one that is in no line: its line is short -/
theorem Line.len9 {I : Co} {n o : Nat} {s : Int32} {L : List Nat} (h : Line I n s L) (hn : n ≤ 250) (ho : o < n) (hr : I 5 o = -1) : L.length ≤ 249 ∧ ∀ y, y ∈ L → y < n ∧ y ≠ o := by
  have hm : ∀ y, y ∈ L → y < n ∧ y ≠ o := fun y hy => by
    have h9 := (h.1 y).mp hy
    refine ⟨h9.1, fun z => ?_⟩
    rw [onS_iff, rs_iff, z, hr, i_m1] at h9
    omega
  have h1 := nd_len n (o :: L) (List.nodup_cons.mpr ⟨fun z => (hm o z).2 rfl, h.nodup⟩) (fun x hx => by
    rcases List.mem_cons.mp hx with e | e
    · rw [e]; exact ho
    · exact (hm x e).1)
  rw [List.length_cons] at h1
  exact ⟨by omega, hm⟩
theorem c_B_restX (l : Launch) (γ : mG) (M : mMap) (β : BK) (oa cp : Nat → Nat) (L : Nat → List Nat) (σ : St) (hC : CB γ M β oa cp L σ) (hI : Inv0 σ) (hL : LN σ L) (o : Nat) (ho : o < sn σ) (hr : sI σ 5 o = -1) (hrk : (srk σ).toInt ≤ 2000000000) (hl1 : 1 ≤ (sI σ 3 o).toInt) (hl2 : (sI σ 3 o).toInt ≤ 100000) (hl3 : 0 < (sI σ 8 o).toInt → (sI σ 3 o).toInt ≤ 50 * (sI σ 8 o).toInt) (hcp : ∀ j, j ≠ 3 → cp j ≤ 373) :
    Met l y_B_rest w_B_rest ({ frames := 7, cells := gN (cp (sj (sI σ 1 o))) ((L (sj (sI σ 1 o))).map oa).length, slots := sN (cp (sj (sI σ 1 o))) ((L (sj (sI σ 1 o))).map oa).length, locals := 182 } : Room) (mPc γ M [.ref (bx β), .ref (oa o)]) (mQv γ (fun M' => ∃ L' cp', CB γ M' β oa cp' L' (xRest σ o) ∧ Inv0 (xRest σ o) ∧ LN (xRest σ o) L' ∧ cp' 3 = cp 3 ∧ (∀ j, j ≠ 3 → cp' j ≤ 373) ∧ frC M M')) (gN (cp (sj (sI σ 1 o))) ((L (sj (sI σ 1 o))).map oa).length) (sN (cp (sj (sI σ 1 o))) ((L (sj (sI σ 1 o))).map oa).length) (mA (gz γ)) := by
  have hLj : Line (sI σ) (sn σ) (sI σ 1 o) (L (sj (sI σ 1 o))) := sj_val (hI.2.1.1 o ho).2.2 hL
  obtain ⟨h9, hm⟩ := hLj.len9 hI.1 ho hr
  refine (c_B_rest l γ M β oa cp L σ hC hI.1 o ho (hI.2.2.1 o ho).1 hm (by omega)).mono (mQv.mono (fun M' h => ?_))
  obtain ⟨k, hk, hhi, hlo, hC1, hf⟩ := h
  obtain ⟨hI1, hL1⟩ := LN.rest hI hL ho hr hrk hl1 hl2 hl3 hk hhi hlo
  refine ⟨_, _, hC1, hI1, hL1, ?_, fun j hj => ?_, hf⟩
  · exact if_neg (fun z => by have := sj_or (sI σ 1 o); omega)
  · unfold va_up
    split
    · exact cN_b (by rw [List.length_map]; exact h9) (hcp _ (by have := sj_or (sI σ 1 o); omega))
    · exact hcp j hj
theorem rest_cost {cp : Nat → Nat} {oa : Nat → Nat} {L : Nat → List Nat} {σ : St} {o : Nat} (hI : Inv0 σ) (hL : LN σ L) (ho : o < sn σ) (hr : sI σ 5 o = -1) : gN (cp (sj (sI σ 1 o))) ((L (sj (sI σ 1 o))).map oa).length ≤ 1 ∧ sN (cp (sj (sI σ 1 o))) ((L (sj (sI σ 1 o))).map oa).length ≤ 373 := by
  have hLj : Line (sI σ) (sn σ) (sI σ 1 o) (L (sj (sI σ 1 o))) := sj_val (hI.2.1.1 o ho).2.2 hL
  exact ⟨gN_1 _ _, sN_b (by rw [List.length_map]; exact (hLj.len9 hI.1 ho hr).1)⟩
def xTail (τ : St) (o : Nat) : St := if 0 < sI τ 3 o ∧ sI τ 6 o = 0 ∧ (sI τ 2 o = 0 → sph τ = 2) then xRest τ o else xEnd τ o
def xCome (g : Bool) (σ : St) (o : Nat) : St := if sph σ = 1 then xTail (if sI σ 6 o = 2 ∧ g = false then σ else xMeet 100000 σ o) o else xRest σ o
theorem tail_tn {τ : St} {o : Nat} : stn (xTail τ o) = stn τ := by unfold xTail; split <;> rfl
theorem tail_sn {τ : St} {o : Nat} : sn (xTail τ o) = sn τ := by unfold xTail; split <;> rfl
