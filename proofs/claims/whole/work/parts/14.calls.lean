/-! Rows of calls: a callee's words, its room, its world -/
theorem b2i_0 {b : Bool} : b2i b = 0 ↔ b = false := by cases b <;> decide
theorem b2i_n0 {b : Bool} : ¬ b2i b = 0 ↔ b = true := by cases b <;> decide
theorem b2i_t : b2i true = 1 := rfl
theorem b2i_f : b2i false = 0 := rfl
theorem b2i_nar (b : Bool) : narrow .boolean (.int (b2i b)) = .int (b2i b) := by cases b <;> rfl
theorem m_l4 {a b c d : Cond} (ha : a ∈ GG) (hb : b ∈ GG) (hc : c ∈ GG) (hd : d ∈ GG) : ∀ w ∈ [a, b, c, d], w ∈ GG := List.forall_mem_cons.mpr ⟨ha, List.forall_mem_cons.mpr ⟨hb, List.forall_mem_cons.mpr ⟨hc, List.forall_mem_cons.mpr ⟨hd, fun _ h => absurd h List.not_mem_nil⟩⟩⟩⟩
theorem m_l3 {a b c : Cond} (ha : a ∈ GG) (hb : b ∈ GG) (hc : c ∈ GG) : ∀ w ∈ [a, b, c], w ∈ GG := List.forall_mem_cons.mpr ⟨ha, List.forall_mem_cons.mpr ⟨hb, List.forall_mem_cons.mpr ⟨hc, fun _ h => absurd h List.not_mem_nil⟩⟩⟩
section MCW
variable {p : Program} {R : Room} {s : State} {m : MethodId} {c : Code} {args : Array Value} {own : String} {index maxL mc ms nL : Nat} {y : MethodName} {bytes cc : ByteArray} {ret : Option FieldType} {rm : Room} {c0 : Cond}
theorem m_cwV (n : Nat) (S : CallFix p m c cc nL s args (c0 :: GG) own) (hl : Cond.methodLink own index y ∈ GG) (hi : Cond.instanceMethod y ∈ GG) (hs : Cond.selects y.cls y y ∈ GG) (hini : Cond.initialized y.cls ∈ GG) (hc : Cond.code y bytes maxL ret ∈ GG) (hrc : rm.cells = mc) (hrs : rm.slots = ms)
    (hd : y.cls ≠ "java/lang/invoke/MethodHandle" ∧ y.cls ≠ "java/lang/invoke/VarHandle" ∧ (parseMethodDescriptor y.desc).map (fun d => d.parameters.length) = some n) (hR : rm.frames + 1 ≤ R.frames ∧ 8 + (maxL + 11) + rm.locals ≤ R.locals) : CallW R s args own y.cls index y bytes maxL ret (Cond.code y bytes maxL ret :: GG) rm mc ms n :=
  cwV n S.2.2.2.2 (gga (ggs (m_l4 hl hi hs hini)) (gg hc)) rfl hrc hrs ⟨rfl, hd⟩ hR
theorem m_cwS (n : Nat) (S : CallFix p m c cc nL s args (c0 :: GG) own) (hl : Cond.methodLink own index y ∈ GG) (hi : Cond.static y ∈ GG) (hini : Cond.initialized y.cls ∈ GG) (hc : Cond.code y bytes maxL ret ∈ GG) (hrc : rm.cells = mc) (hrs : rm.slots = ms)
    (hd : y.cls ≠ "java/lang/invoke/MethodHandle" ∧ y.cls ≠ "java/lang/invoke/VarHandle" ∧ (parseMethodDescriptor y.desc).map (fun d => d.parameters.length) = some n) (hR : rm.frames + 1 ≤ R.frames ∧ 8 + (maxL + 11) + rm.locals ≤ R.locals) : CallB R s args own index y bytes maxL ret (Cond.code y bytes maxL ret :: GG) rm mc ms n ∧ (Cond.static y).before args s = true :=
  ⟨callB_of n S.2.2.2.2 (gg hc) rfl hrc hrs (S.2.2.2.2 _ (gc hini)) (S.2.2.2.2 _ (gc hl)) hd hR, S.2.2.2.2 _ (gc hi)⟩
theorem m_cwI (n : Nat) (S : CallFix p m c cc nL s args (c0 :: GG) own) (hl : Cond.methodLink own index y ∈ GG) (hi : Cond.instanceMethod y ∈ GG) (hini : Cond.initialized y.cls ∈ GG) (hc : Cond.code y bytes maxL none ∈ GG) (hy : y.name = "<init>") (hrc : rm.cells = mc) (hrs : rm.slots = ms)
    (hd : y.cls ≠ "java/lang/invoke/MethodHandle" ∧ y.cls ≠ "java/lang/invoke/VarHandle" ∧ (parseMethodDescriptor y.desc).map (fun d => d.parameters.length) = some n) (hR : rm.frames + 1 ≤ R.frames ∧ 8 + (maxL + 11) + rm.locals ≤ R.locals) : CallB R s args own index y bytes maxL none (Cond.code y bytes maxL none :: GG) rm mc ms n ∧ y.name = "<init>" ∧ (Cond.instanceMethod y).before args s = true :=
  cwI n S.2.2.2.2 (gg hc) rfl hrc hrs (S.2.2.2.2 _ (gc hini)) (S.2.2.2.2 _ (gc hl)) (S.2.2.2.2 _ (gc hi)) hy hd hR
end MCW
