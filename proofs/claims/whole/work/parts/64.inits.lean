/-! A book is made: what is needed -/
abbrev nw35 : Cond := Cond.methodLinkNest "CallBook" 35 ⟨"CallBook$Auction", "<init>", "()V"⟩ "CallBook"
def mPcN (γ : mG) (M : mMap) (As : List Value) : Array Value → State → Prop := va_Pc As (fun U => (mH γ M U.heap ∧ mK γ U U.heap) ∧ va_Nw nw35 U)
theorem m_enterN {l : Launch} {γ : mG} {M : mMap} {As : List Value} {y : MethodName} {rm : Room} {Qc : Array Value → State → Outcome → State → Prop} {mc ms : Nat} {free : Addr → Prop} {cc : ByteArray} {maxL : Nat} {ret : Option FieldType}
    (hy : plainName y.cls = true) (hn : (lg_sl As).length ≤ maxL)
    (body : ∀ (p : Program) (e : Env) (s : State) (m : MethodId) (below : List Frame) (meth : Method) (c : Code) (ls : Array Slot), CallFix p m c cc maxL s As.toArray (Cond.code y cc maxL ret :: GG) y.cls → meth.sig.returnType = ret → meth.locks = false → meth.name = y.name → lv_has ls maxL (lv_args 0 As) → mW γ M s s.heap [] → va_Nw nw35 s →
      W p l e rm s m As.toArray below meth c s.heap [] 0 0 (MQ below Qc As.toArray s mc ms free) (F0 m 0 ls [])) : Met l y (Cond.code y cc maxL ret :: GG) rm (mPcN γ M As) Qc mc ms free := by
  refine Met.ofW (cc := cc) (maxL := maxL) (ret := ret) hy rfl ?_
  intro p e s m args below meth c s₁ B hml hv
  obtain ⟨rfl, ⟨hH, hK⟩, hN⟩ := hv
  have hl := lv_entry As (n := maxL) hn
  rw [lg_entry_eq]
  exact body p e s m below meth c _ ⟨B.exec, B.bytes, hml, findClass_of_methodNamed B.named, atoms_spec (ws := Cond.code y cc maxL ret :: GG) B.pre⟩ B.returns B.notSynchronized (name_of_methodNamed B.named B.method).1 hl (mW.of hH hK) hN
section MCN
variable {p : Program} {R : Room} {s : State} {m : MethodId} {args : Array Value} {c : Code} {cc bytes : ByteArray} {nL maxL mc ms index : Nat} {own host : String} {y : MethodName} {rm : Room} {c0 : Cond}
theorem m_cwIN (n : Nat) (S : CallFix p m c cc nL s args (c0 :: GG) own) (hl : va_Nw (.methodLinkNest own index y host) s) (hi : Cond.instanceMethod y ∈ GG) (hini : Cond.initialized y.cls ∈ GG) (hc : Cond.code y bytes maxL none ∈ GG) (hy : y.name = "<init>") (hrc : rm.cells = mc) (hrs : rm.slots = ms)
    (hd : y.cls ≠ "java/lang/invoke/MethodHandle" ∧ y.cls ≠ "java/lang/invoke/VarHandle" ∧ (parseMethodDescriptor y.desc).map (fun d => d.parameters.length) = some n) (hR : rm.frames + 1 ≤ R.frames ∧ 8 + (maxL + 11) + rm.locals ≤ R.locals) : va_CN R s args own index y host bytes maxL none (Cond.code y bytes maxL none :: GG) rm mc ms n ∧ y.name = "<init>" ∧ (Cond.instanceMethod y).before args s = true :=
  ⟨va_cnB n S.2.2.2.2 (gg hc) rfl hrc hrs hl (S.2.2.2.2 _ (gc hini)) hd hR, hy, S.2.2.2.2 _ (gc hi)⟩
end MCN
/-- a book at its start -/
def σ0 : St := ((0, fun _ _ => 0), (0, 1000, 0, 0), (0, fun _ _ => 0, 0))
def β0 (a q0 l1 l2 l3 q1 q2 q3 q4 : Nat) : BK := (a, fun j => if j = 0 then q0 else if j = 1 then l1 else if j = 2 then l2 else l3, fun j => if j = 1 then q1 else q2, q3, q4)
theorem AL.fresh {γ : mG} {M : mMap} {a : Nat} (h : M a = some (.inr (0, [.int 0, .ref (ge γ), .int 0]))) : AL γ M a (ge γ) 0 [] := ⟨⟨0, by rw [h]; rfl⟩, Nat.le_refl _, by decide, Or.inl ⟨rfl, rfl⟩⟩
theorem CB.start {γ : mG} {M : mMap} {a q0 l1 l2 l3 q1 q2 q3 q4 : Nat} (h : M a = some (.inr (6, [.ref q0, .ref q1, .ref q2, .ref q3, .ref q4, .int 0, .int 1000, .int 0, .int 0]))) (h0 : M q0 = some (.inr (0, [.int 0, .ref (ge γ), .int 0]))) (h1 : M l1 = some (.inr (0, [.int 0, .ref (ge γ), .int 0]))) (h2 : M l2 = some (.inr (0, [.int 0, .ref (ge γ), .int 0]))) (h3 : M l3 = some (.inr (0, [.int 0, .ref (ge γ), .int 0])))
    (s1 : M q1 = some (.inr (3, [.ref l1]))) (s2 : M q2 = some (.inr (3, [.ref l2]))) (s3 : M q3 = some (.inr (5, [.ref l3, .long 0]))) (s4 : M q4 = some (.inr (1, [.int 0, .long 0, .long 0]))) (n01 : q0 ≠ l1) (n02 : q0 ≠ l2) (n03 : q0 ≠ l3) (n12 : l1 ≠ l2) (n13 : l1 ≠ l3) (n23 : l2 ≠ l3) : CB γ M (β0 a q0 l1 l2 l3 q1 q2 q3 q4) (fun _ => 0) (fun _ => 0) (fun _ => []) σ0 := by
  refine ⟨fun _ => ge γ, fun _ => 0, 0, 0, 0, h, ⟨s1, s2⟩, s3, s4, fun o ho => absurd ho (Nat.not_lt_zero _), fun i hi => absurd hi (Nat.not_lt_zero _), ⟨fun j hj => ?_, fun i j hi hj e => ?_, fun i j _ _ hc => absurd hc (Nat.lt_irrefl 0)⟩⟩
  · rcases (show j = 0 ∨ j = 1 ∨ j = 2 ∨ j = 3 by omega) with e | e | e | e <;> subst e
    · exact AL.fresh h0
    · exact AL.fresh h1
    · exact AL.fresh h2
    · exact AL.fresh h3
  · rcases (show i = 0 ∨ i = 1 ∨ i = 2 ∨ i = 3 by omega) with z | z | z | z <;> rcases (show j = 0 ∨ j = 1 ∨ j = 2 ∨ j = 3 by omega) with y | y | y | y <;> subst z <;> subst y
    all_goals first
      | rfl
      | exact absurd e n01
      | exact absurd e n02
      | exact absurd e n03
      | exact absurd e n12
      | exact absurd e n13
      | exact absurd e n23
      | exact absurd e n01.symm
      | exact absurd e n02.symm
      | exact absurd e n03.symm
      | exact absurd e n12.symm
      | exact absurd e n13.symm
      | exact absurd e n23.symm
