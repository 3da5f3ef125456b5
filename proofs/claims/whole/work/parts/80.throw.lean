/-! Calls that throw: nothing has changed, and a new object of class X flies -/
abbrev xIA : String := "java/lang/IllegalArgumentException"
abbrev xIS : String := "java/lang/IllegalStateException"
abbrev xNs : List String := ["java/lang/RuntimeException", "java/lang/Exception"]
def XL : List Cond := .not (.castable xIS xIA) :: (Bundle.ownAtoms0 "CallBook" 65 xIA xNs ++ Bundle.ownAtoms0 "CallBook" 82 xIS xNs)
def xK : Cond → Bool
  | .laysStatic .. => true
  | .isRef (.static ..) => true
  | .not (.castable ..) => true
  | c => c.tabsOnly
theorem XL_ok : XL.all xK = true := by decide +kernel
/-- the words of the throws hold at U -/
def EX (U : State) : Prop := ∀ w ∈ XL, w.before #[] U = true
theorem xw_move {w : Cond} (hk : xK w = true) {A A' : Array Value} {s U : State} (hW : s.WarmedH U.vm) (hh : ∀ (a : Nat) (ce : Cell), s.heap[a]? = some ce → ce.vm.isStatics = true → U.heap[a]? = some ce) (h : w.before A s = true) : w.before A' U = true := by
  have base : w.tabsOnly = true → w.before A' U = true := fun ht => by
    have h1 := Cond.tabsOnly_warm (args' := A') (T := U) hW w ht h
    rwa [State.setVm_self] at h1
  have hal := hW.alike
  cases w with
  | laysStatic O f d =>
    obtain ⟨c, k, i, fd, a, cell, hc, hi, hst, ha, hcell, hs, hcls, hlt, hty⟩ := Cond.laysStatic_spec h
    obtain ⟨k', hi', hek⟩ := State.fieldFound?_setVm hal hi
    have hiU : U.fieldFound? O f d = some (c, k', i, fd) := by simpa only [State.fieldFound?, State.vm_setVm] using hi'
    exact Cond.laysStatic_of (s := U) (by rw [hal.findClass]; exact hc) hiU hst (by rw [hek]; exact ha) (hh a cell hcell hs) hs hcls hlt (by rw [hek]; exact hty)
  | isRef t =>
    cases t with
    | static O f d =>
      have he : ∀ v, (Term.static O f d).eval A s none [] s = some v → (Term.static O f d).eval A' U none [] U = some v := by
        intro v hv
        cases hi : s.fieldFound? O f d with
        | none => simp [Term.eval, State.fieldNamed?, hi] at hv
        | some x =>
          obtain ⟨c, k, i, fd⟩ := x
          obtain ⟨k', hi', hek⟩ := State.fieldFound?_setVm hal hi
          have hiU : U.fieldFound? O f d = some (c, k', i, fd) := by simpa only [State.fieldFound?, State.vm_setVm] using hi'
          have hst : k'.statics = k.statics := by rw [hek]
          by_cases hf : fd.isStatic = true
          · cases ha : k.statics with
            | none => simp [Term.eval, State.fieldNamed?, hi, ha, hf] at hv
            | some a =>
              cases hc : s.heap[a]? with
              | none => simp [Term.eval, State.fieldNamed?, hi, ha, hc, hf] at hv
              | some cell =>
                by_cases hs : cell.vm.isStatics = true
                · have hU := hh a cell hc hs
                  have hst' : k'.statics = some a := hst.trans ha
                  clear hek hst
                  simp [Term.eval, State.fieldNamed?, hi, ha, hc, hs, hf] at hv
                  simp [Term.eval, State.fieldNamed?, hiU, hst', hU, hs, hf]
                  exact hv
                · simp [Term.eval, State.fieldNamed?, hi, ha, hc, hs, hf] at hv
          · simp [Term.eval, State.fieldNamed?, hi, hf] at hv
      simp only [Cond.before, Cond.holds, Cond.value] at h ⊢
      cases hv : (Term.static O f d).eval A s none [] s with
      | none => rw [hv] at h; simp at h
      | some v => rw [hv] at h; rw [he v hv]; exact h
    | _ => exact base hk
  | not c =>
    cases c with
    | castable a b =>
      simp only [Cond.before, Cond.holds, Cond.value, hal.findClass, hal.assignable] at h ⊢
      exact h
    | _ => exact base hk
  | _ => exact base hk
theorem EX.use {U : State} (h : EX U) {w : Cond} (hw : w ∈ XL) (A : Array Value) : w.before A U = true :=
  xw_move (List.all_eq_true.mp XL_ok w hw) (State.WarmedH.refl U) (fun _ _ h _ => h) (h w hw)
theorem EX.moved {s U : State} (hW : s.WarmedH U.vm) (hh : ∀ (a : Nat) (ce : Cell), s.heap[a]? = some ce → ce.vm.isStatics = true → U.heap[a]? = some ce) (h : EX s) : EX U := fun w hw =>
  xw_move (List.all_eq_true.mp XL_ok w hw) hW hh (h w hw)
