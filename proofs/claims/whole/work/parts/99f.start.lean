/-! The law's start: what the tables and the old cells say -/
def xNar : List Cond := [.not (.castable xIS xIA), .isRef (.static "java/lang/Throwable" "UNASSIGNED_STACK" "[Ljava/lang/StackTraceElement;"), .isRef (.static "java/lang/Throwable" "SUPPRESSED_SENTINEL" "Ljava/util/List;")]
def xIds : List Nat := [10000, 49, 315, 324, 327, 330, 332, 316, 317, 68, 69, 318, 323, 328, 344, 305, 345, 307, 346, 309, 319, 320, 321, 322, 311, 334, 335, 336, 337, 296, 337, 338, 339, 340, 298, 340, 341, 342, 316, 300, 333, 294, 295, 302, 303, 304, 306, 308, 310, 10001, 10002, 314, 313, 312, 49, 315, 324, 327, 330, 332, 316, 317, 68, 69, 318, 323, 328, 344, 305, 345, 307, 346, 309, 319, 320, 321, 322, 311, 374, 375, 376, 337, 296, 337, 338, 339, 340, 298, 340, 341, 342, 316, 300, 373, 365, 366, 367, 326, 368, 369, 370, 371, 10001, 10002, 314, 313, 372]
theorem XL_is : XL = xIds.filterMap (fun i => if i < 10000 then lw_tbl[i]? else xNar[i - 10000]?) := by decide +kernel
theorem EX.start {s : State} {A : Array Value} (ht : ∀ w ∈ lw_tbl, w.before A s = true) (hn : ∀ w ∈ xNar, w.before A s = true) : EX s := by
  intro w hw
  have hw' := hw
  rw [XL_is] at hw'
  obtain ⟨i, -, hi⟩ := List.mem_filterMap.mp hw'
  refine xw_move (A := A) (List.all_eq_true.mp XL_ok w hw) (State.WarmedH.refl s) (fun _ _ h _ => h) ?_
  by_cases h : i < 10000
  · rw [if_pos h] at hi; exact ht w (List.mem_of_getElem? hi)
  · rw [if_neg h] at hi; exact hn w (List.mem_of_getElem? hi)
theorem ra_of {s : State} {A : Array Value} {ty : FieldType} (hty : ∀ C, ty ≠ .object C) (h : (Cond.arrayClass ty).before A s = true) : ∃ cA, ArrOfT s cA ty ∧ va_RA s cA ty := by
  obtain ⟨cA, kA, comp, h1, h2, h3⟩ := Cond.arrayClass_spec h
  refine ⟨cA, fun n z => ⟨fun k h => (by cases h), kA, h2, comp, h3⟩, ?_⟩
  cases ty with
  | object C => exact absurd rfl (hty C)
  | _ => exact h1
theorem lw_gamma {s : State} {b : Nat} (hts : ∀ w ∈ lw_tbl, w.before #[Value.ref b] s = true) (hgv : (Jvm.Cond.and given_1 narrow_1).before #[Value.ref b] s = true) : ∃ γ : mG, gz γ = s.heap.size ∧ mK γ s s.heap ∧ EXg γ s ∧ va_Nw nw35 s := by
  have hs := flat_of_before _ hgv
  have hG : ∀ w ∈ GG, w.before #[Value.ref b] s = true := fun w hw => hts w (List.mem_filter.mp hw).1
  have hK : ∀ c : Nat, ∃ x : ClassId × (Nat → Nat), ∀ q, vwCl[c]? = some q → u_Kn s q.1 q.2.1 q.2.2 x.1 x.2 := by
    intro c
    have one : ∀ {ci : Nat} {C : String} {T : u_T} {n k : Nat} {ty : Nat → FieldType}, mC ci C T n ty → Cond.instantiable C k ∈ GG → ∃ x : ClassId × (Nat → Nat), ∀ q, vwCl[ci]? = some q → u_Kn s q.1 q.2.1 q.2.2 x.1 x.2 := by
      intro ci C T n k ty hc hi
      obtain ⟨cC, iS, h⟩ := u_known hG hc.2.1 (hG _ hi)
      refine ⟨(cC, iS), fun q hq => ?_⟩
      rw [hc.1] at hq
      cases hq
      exact h
    by_cases h : c < 8
    · rcases (show c = 0 ∨ c = 1 ∨ c = 2 ∨ c = 3 ∨ c = 4 ∨ c = 5 ∨ c = 6 ∨ c = 7 by omega) with e | e | e | e | e | e | e | e <;> subst e
      · exact one cl_AL g71
      · exact one cl_A g127
      · exact one cl_O g379
      · exact one cl_S g97
      · exact one cl_R g540
      · exact one cl_G g110
      · exact one cl_B g63
      · exact one cl_M g683
    · refine ⟨(0, fun _ => 0), fun q hq => ?_⟩
      rw [List.getElem?_eq_none (show vwCl.length ≤ c by show 8 ≤ c; omega)] at hq
      cases hq
  obtain ⟨c0, a0, r0⟩ := ra_of (fun C z => by cases z) (hG _ g767)
  obtain ⟨c1, a1, r1⟩ := ra_of (fun C z => by cases z) (hG _ g768)
  obtain ⟨c2, a2, r2⟩ := ra_of (fun C z => by cases z) (hG _ g769)
  have hover : (Cond.arrayOver (.object "java/lang/Object")).before #[Value.ref b] s = true := hts _ (List.mem_of_getElem? (i := 478) (by decide +kernel))
  obtain ⟨comp, c3, k3, o1, -, o3, o4, o5⟩ := Cond.arrayOver_spec hover
  have hA : ∀ a : Nat, a < s.heap.size → ¬ mA s.heap.size a := fun a ha h => absurd ha (Nat.not_lt.mpr h)
  have hlen := va_eqt (hs (Cond.eq (.length (.static "java/util/ArrayList" "DEFAULTCAPACITY_EMPTY_ELEMENTDATA" "[Ljava/lang/Object;")) (.int 0)) (by decide +kernel))
  obtain ⟨t, ht, hT⟩ := va_Tof (A := mA s.heap.size) (N := 0) (f := fun _ => .null) (by decide) (hs (Cond.arrayOf (.static "java/util/ArrayList" "DEFAULTCAPACITY_EMPTY_ELEMENTDATA" "[Ljava/lang/Object;") (.object "java/lang/Object")) (by decide +kernel)) hlen (fun j hj => absurd hj (Nat.not_lt_zero _)) hA
  have hZ := va_Zref (A := mA s.heap.size) (hts _ (List.mem_of_getElem? (i := 83) (by decide +kernel))) (hts _ (List.mem_of_getElem? (i := 44) (by decide +kernel))) ht hA
  obtain ⟨mi, hmi⟩ := va_Mi.of (hs (Cond.isRef (.mirror "[Ljava/lang/Object;")) (by decide +kernel))
  have hdc : va_Dc s := va_Dc.of (hts _ (List.mem_of_getElem? (i := 910) (by decide +kernel)))
  have hco : va_Nw (.castable "CallBook$Order" "java/lang/Object") s := va_Nw.of rfl (hts _ (List.mem_of_getElem? (i := 916) (by decide +kernel)))
  have hct : va_Nw (.castable "CallBook$Trade" "java/lang/Object") s := va_Nw.of rfl (hts _ (List.mem_of_getElem? (i := 917) (by decide +kernel)))
  have hnw : va_Nw nw35 s := va_Nw.of rfl (hts _ (List.mem_of_getElem? (i := 128) (by decide +kernel)))
  have hEX : EX s := EX.start hts (List.forall_mem_cons.mpr ⟨hs _ (by decide +kernel), List.forall_mem_cons.mpr ⟨hs _ (by decide +kernel), List.forall_mem_cons.mpr ⟨hs _ (by decide +kernel), fun _ h => absurd h List.not_mem_nil⟩⟩⟩)
  refine ⟨((fun c => (Classical.choose (hK c)).1, fun c => (Classical.choose (hK c)).2), (fun j => if j = 0 then c0 else if j = 1 then c1 else if j = 2 then c2 else c3), s.heap.size, t, mi), rfl, ⟨⟨fun c q hq => Classical.choose_spec (hK c) q hq, fun k q hk => ?_⟩, hZ, hT, va_AO.of hover, hmi, hdc, hco, hct⟩, ⟨s, hEX, rfl, State.WarmedH.refl s, fun _ _ => rfl⟩, hnw⟩
  rcases (show k = 0 ∨ k = 1 ∨ k = 2 ∨ k = 3 ∨ 4 ≤ k by omega) with e | e | e | e | e
  · subst e; cases hk; exact ⟨a0, r0⟩
  · subst e; cases hk; exact ⟨a1, r1⟩
  · subst e; cases hk; exact ⟨a2, r2⟩
  · subst e; cases hk; exact ⟨fun n z => ⟨fun k h => (by cases h), k3, o3, comp, o4⟩, k3, comp, o3, o4, o1, o5⟩
  · have hlt : k < 4 := (List.getElem?_eq_some_iff.mp hk).1
    omega
