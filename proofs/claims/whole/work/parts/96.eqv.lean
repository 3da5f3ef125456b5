/-! What the reference works out is what the class works out -/
theorem opp_is {b c : Int32} (hb : b = 0 ∨ b = 1) (hc : c = 0 ∨ c = 1) : (¬ c = b) ↔ c = opp b := by
  rcases hb with e | e <;> rcases hc with e2 | e2 <;> subst e <;> subst e2 <;> decide
theorem cut_iff {σ : St} {o r : Nat} : ∀ {k : Nat}, cutN σ o r k = true ↔ (byc (srf σ) (sbd σ) (sI σ 2 r) = true ∨ ∃ x, x < k ∧ cutP σ o r x = true) := by
  intro k
  induction k with
  | zero => exact ⟨fun h => Or.inl h, fun h => h.elim id (fun ⟨x, hx, _⟩ => absurd hx (Nat.not_lt_zero _))⟩
  | succ k ih =>
    show (cutN σ o r k || cutP σ o r k) = true ↔ _
    rw [Bool.or_eq_true, ih]
    constructor
    · rintro ((h | ⟨x, hx, h⟩) | h)
      · exact Or.inl h
      · exact Or.inr ⟨x, by omega, h⟩
      · exact Or.inr ⟨k, by omega, h⟩
    · rintro (h | ⟨x, hx, h⟩)
      · exact Or.inl (Or.inl h)
      · by_cases e : x = k
        · subst e; exact Or.inr h
        · exact Or.inl (Or.inr ⟨x, by omega, h⟩)
theorem cutP_iff {σ : St} {o r x : Nat} : cutP σ o r x = true ↔ (rs (sI σ) x = true ∧ sI σ 1 x = sI σ 1 r ∧ bf (sI σ) x r = true ∧ (byc (srf σ) (sbd σ) (sI σ 2 x) = true ∨ tk (sI σ) o (sI σ 2 x) = false)) := by
  unfold cutP
  rw [Bool.and_eq_true, Bool.and_eq_true, Bool.and_eq_true, decide_eq_true_iff, Bool.or_eq_true, Bool.not_eq_true']
section COV
variable {σ : St} {o : Nat} {b : Int32} {K : List Nat}
def gdr (σ : St) (o r : Nat) : Prop := tk (sI σ) o (sI σ 2 r) = true ∧ byc (srf σ) (sbd σ) (sI σ 2 r) = false
def fcv (σ : St) (o r : Nat) : Int64 := if (tk (sI σ) o (sI σ 2 r) && !cutN σ o r (sn σ)) = true then (sI σ 3 r).toInt64 else 0
theorem lsum_0 {f : Nat → Int64} : ∀ {t : List Nat}, (∀ r, r ∈ t → f r = 0) → lsum f t = 0 := by
  intro t
  induction t with
  | nil => intro _; rfl
  | cons x t ih =>
    intro h
    show f x + lsum f t = 0
    rw [h x List.mem_cons_self, ih (fun r hr => h r (List.mem_cons_of_mem _ hr)), Int64.add_zero]
theorem avl_sum (hO : oOK (sI σ) (sn σ)) (hK : Line (sI σ) (sn σ) b K) : ∀ {t pre : List Nat} {a : Int64}, K = pre ++ t → (∀ x, x ∈ pre → gdr σ o x) → avl σ o t a = a + lsum (fcv σ o) t := by
  intro t
  induction t with
  | nil => intro pre a _ _; show a = a + 0; rw [Int64.add_zero]
  | cons r t ih =>
    intro pre a hKe hg
    have hin : ∀ x, x ∈ K → x < sn σ ∧ rs (sI σ) x = true ∧ sI σ 1 x = b := fun x hx => ⟨((hK.1 x).mp hx).1, (onS_iff.mp ((hK.1 x).mp hx).2).1, (onS_iff.mp ((hK.1 x).mp hx).2).2⟩
    have hrK : r ∈ K := by rw [hKe]; exact List.mem_append_right _ List.mem_cons_self
    have hr := hin r hrK
    have hpw := hK.2
    rw [hKe, List.pairwise_append] at hpw
    have hpt := List.pairwise_cons.mp hpw.2.1
    show avl σ o (r :: t) a = a + (fcv σ o r + lsum (fcv σ o) t)
    by_cases hgd : gdr σ o r
    · have hcut : cutN σ o r (sn σ) = false := by
        cases hc : cutN σ o r (sn σ) with
        | false => rfl
        | true =>
          rcases cut_iff.mp hc with h | ⟨x, hx, h⟩
          · rw [hgd.2] at h; cases h
          · obtain ⟨h1, h2, h3, h4⟩ := cutP_iff.mp h
            have hxK : x ∈ K := (hK.1 x).mpr ⟨hx, onS_iff.mpr ⟨h1, h2.trans hr.2.2⟩⟩
            rw [hKe] at hxK
            rcases List.mem_append.mp hxK with hp | hp
            · have g := hg x hp
              rcases h4 with h4 | h4
              · rw [g.2] at h4; cases h4
              · rw [g.1] at h4; cases h4
            · rcases List.mem_cons.mp hp with e | hp
              · subst e; rw [bf_irrefl] at h3; cases h3
              · have h5 := hpt.1 x hp
                have h6 := bf_asym (h2.symm) (hO.1 r hr.1).1 (hO.1 x hx).1 h5
                rw [h6] at h3; cases h3
      have hf : fcv σ o r = (sI σ 3 r).toInt64 := by unfold fcv; rw [hgd.1, hcut]; rfl
      rw [avl_go hgd.1 hgd.2, ih (pre := pre ++ [r]) (by rw [hKe, List.append_assoc]; rfl) (fun x hx => by
        rcases List.mem_append.mp hx with h | h
        · exact hg x h
        · rw [List.mem_singleton.mp h]; exact hgd), hf, Int64.add_assoc]
    · have ha : avl σ o (r :: t) a = a := by
        by_cases ht : tk (sI σ) o (sI σ 2 r) = true
        · exact avl_by (by cases hb : byc (srf σ) (sbd σ) (sI σ 2 r) with
            | true => rfl
            | false => exact absurd ⟨ht, hb⟩ hgd)
        · exact avl_nt (by simpa using ht)
      have hbad : byc (srf σ) (sbd σ) (sI σ 2 r) = true ∨ tk (sI σ) o (sI σ 2 r) = false := by
        cases hb : byc (srf σ) (sbd σ) (sI σ 2 r) with
        | true => exact Or.inl rfl
        | false =>
          cases ht : tk (sI σ) o (sI σ 2 r) with
          | true => exact absurd ⟨ht, hb⟩ hgd
          | false => exact Or.inr rfl
      have h0 : fcv σ o r = 0 := by
        unfold fcv
        rcases hbad with h | h
        · rw [cut_iff.mpr (Or.inl h), Bool.not_true, Bool.and_false]; rfl
        · rw [h, Bool.false_and]; rfl
      have h1 : lsum (fcv σ o) t = 0 := lsum_0 (fun x hx => by
        have hxK : x ∈ K := by rw [hKe]; exact List.mem_append_right _ (List.mem_cons_of_mem _ hx)
        have hc : cutN σ o x (sn σ) = true := cut_iff.mpr (Or.inr ⟨r, hr.1, cutP_iff.mpr ⟨hr.2.1, hr.2.2.trans (hin x hxK).2.2.symm, hpt.1 x hx, hbad⟩⟩)
        unfold fcv
        rw [hc, Bool.not_true, Bool.and_false]; rfl)
      rw [ha, h0, h1, Int64.add_zero, Int64.add_zero]
theorem cov_cgw {L : Nat → List Nat} (hI : Inv0 σ) (hL : LN σ L) (ho : o < sn σ) : cov σ o = cgw σ (L (sj (opp (sI σ 1 o)))) o := by
  have hO := hI.2.1
  have hb := (hO.1 o ho).2.2
  have hK : Line (sI σ) (sn σ) (opp (sI σ 1 o)) (L (sj (opp (sI σ 1 o)))) := sj_val (opp_or _) hL
  have e1 : gsum σ o (sn σ) = lsum (fcv σ o) (L (sj (opp (sI σ 1 o)))) := by
    rw [← hK.sum]
    unfold gsum
    refine gs_congr (fun r hr => ?_)
    have hk : goes σ o r = (onS (sI σ) (opp (sI σ 1 o)) r && (tk (sI σ) o (sI σ 2 r) && !cutN σ o r (sn σ))) := by
      unfold goes onS
      rw [show decide (¬ sI σ 1 r = sI σ 1 o) = decide (sI σ 1 r = opp (sI σ 1 o)) from decide_eq_decide.mpr (opp_is hb (hO.1 r hr).2.2), Bool.and_assoc]
    rw [hk]
    by_cases h : onS (sI σ) (opp (sI σ 1 o)) r = true
    · rw [if_pos h, h, Bool.true_and]; rfl
    · rw [if_neg h, if_neg (by rw [Bool.and_eq_true]; exact fun z => h z.1)]
  unfold cov cgw
  rw [e1, avl_sum (o := o) hO hK (pre := []) rfl (fun x hx => by cases hx), Int64.zero_add]
end COV
section CNT
variable {I : Co} {n : Nat} {b : Int32} {K : List Nat}
theorem dR_dS (hK : Line I n b K) {p f : Int32} : dR I b p f n = dS I f p K := by
  have e : ∀ t : List Nat, lsum (fun r => if I 2 r = p then (if f = 0 then (I 4 r).toInt64 else (I 3 r).toInt64) else 0) t = dS I f p t := by
    intro t
    induction t with
    | nil => rfl
    | cons x t ih => show _ + lsum _ t = _ + dS I f p t; rw [ih]
  rw [← e, ← hK.sum]
  unfold dR
  refine gs_congr (fun o _ => ?_)
  by_cases h : onS I b o = true
  · rw [if_pos h, h, Bool.true_and]
    by_cases h2 : I 2 o = p
    · rw [if_pos h2, decide_eq_true h2]; rfl
    · rw [if_neg h2, decide_eq_false h2]; rfl
  · rw [if_neg h, if_neg (by rw [Bool.and_eq_true]; exact fun z => h z.1)]
/-- counting, in numbers that don't run over -/
def gN2 (P : Nat → Bool) : Nat → Nat
  | 0 => 0
  | k + 1 => gN2 P k + (if P k = true then 1 else 0)
def lN2 (P : Nat → Bool) : List Nat → Nat
  | [] => 0
  | r :: t => (if P r = true then 1 else 0) + lN2 P t
theorem gN2_le {P : Nat → Bool} : ∀ k, gN2 P k ≤ k := by
  intro k
  induction k with
  | zero => exact Nat.le_refl _
  | succ k ih => show _ + (if _ then _ else _) ≤ _; split <;> omega
theorem gN2_congr {P P' : Nat → Bool} : ∀ {k : Nat}, (∀ o, o < k → P o = P' o) → gN2 P k = gN2 P' k := by
  intro k
  induction k with
  | zero => intro _; rfl
  | succ k ih => intro h; show _ + _ = _ + _; rw [ih (fun o ho => h o (by omega)), h k (by omega)]
theorem gN2_one {a : Nat} : ∀ {k : Nat}, gN2 (fun o => decide (o = a)) k = if a < k then 1 else 0 := by
  intro k
  induction k with
  | zero => rfl
  | succ k ih =>
    show gN2 _ k + (if decide (k = a) = true then 1 else 0) = _
    rw [ih]
    by_cases e : k = a
    · subst e; rw [if_neg (Nat.lt_irrefl _), if_pos (by simp), if_pos (by omega)]
    · rw [decide_eq_false e, if_neg Bool.false_ne_true]
      by_cases h : a < k
      · rw [if_pos h, if_pos (show a < k + 1 by omega)]
      · rw [if_neg h, if_neg (show ¬ a < k + 1 by omega)]
theorem gN2_or {P P' : Nat → Bool} : ∀ {k : Nat}, (∀ o, o < k → P o = true → P' o = false) → gN2 (fun o => P o || P' o) k = gN2 P k + gN2 P' k := by
  intro k
  induction k with
  | zero => intro _; rfl
  | succ k ih =>
    intro h
    show gN2 _ k + _ = gN2 P k + _ + (gN2 P' k + _)
    rw [ih (fun o ho => h o (by omega))]
    have := h k (by omega)
    cases h1 : P k <;> cases h2 : P' k <;> simp_all <;> omega
theorem gN2_list {P : Nat → Bool} : ∀ {L : List Nat}, L.Nodup → (∀ o, o ∈ L → o < n) → gN2 (fun o => decide (o ∈ L) && P o) n = lN2 P L := by
  intro L
  induction L with
  | nil =>
    intro _ _
    rw [gN2_congr (P' := fun _ => false) (fun o _ => by simp)]
    have : ∀ k, gN2 (fun _ => false) k = 0 := by
      intro k
      induction k with
      | zero => rfl
      | succ k ih => show gN2 _ k + (if false = true then 1 else 0) = 0; rw [ih]; rfl
    exact this n
  | cons a t ih =>
    intro hn hl
    have hn' := List.nodup_cons.mp hn
    have e : ∀ o, o < n → (decide (o ∈ a :: t) && P o) = ((decide (o = a) && P a) || (decide (o ∈ t) && P o)) := by
      intro o _
      by_cases h : o = a
      · subst h; simp
      · simp [h]
    rw [gN2_congr e, gN2_or (fun o _ h => by
      have h1 : o = a := of_decide_eq_true ((Bool.and_eq_true _ _).mp h).1
      subst h1; simp [hn'.1]), ih hn'.2 (fun o ho => hl o (List.mem_cons_of_mem _ ho))]
    show _ = (if P a = true then 1 else 0) + lN2 P t
    by_cases hp : P a = true
    · rw [gN2_congr (P' := fun o => decide (o = a)) (fun o _ => by rw [hp, Bool.and_true]), gN2_one, if_pos (hl a List.mem_cons_self), if_pos hp]
    · have hp' : P a = false := by simpa using hp
      rw [gN2_congr (P' := fun o => decide (o = n)) (fun o ho => by rw [hp', Bool.and_false]; exact (decide_eq_false (by omega)).symm), gN2_one, if_neg (Nat.lt_irrefl _), if_neg hp]
theorem Line.cnt {P : Nat → Bool} (hK : Line I n b K) : gN2 (fun o => onS I b o && P o) n = lN2 P K := by
  rw [← gN2_list hK.nodup (fun o ho => ((hK.1 o).mp ho).1)]
  refine gN2_congr (fun o ho => ?_)
  congr 1
  by_cases h : onS I b o = true
  · rw [h, decide_eq_true ((hK.1 o).mpr ⟨ho, h⟩)]
  · have h' : onS I b o = false := by simpa using h
    rw [h', decide_eq_false (fun z => h ((hK.1 o).mp z).2)]
theorem ctS_len (hK : Line I n b K) : ctS I b n = K.length := by
  have e : ∀ k, ctS I b k = gN2 (fun o => onS I b o && true) k := by
    intro k
    induction k with
    | zero => rfl
    | succ k ih => show _ + _ = _ + (if (onS I b k && true) = true then 1 else 0); rw [ih, Bool.and_true]
  rw [e, hK.cnt (P := fun _ => true)]
  have : ∀ t : List Nat, lN2 (fun _ => true) t = t.length := by
    intro t
    induction t with
    | nil => rfl
    | cons x t ih => show (if true = true then 1 else 0) + lN2 _ t = t.length + 1; rw [ih]; show 1 + _ = _; omega
  exact this K
theorem bfc_ix (hO : oOK I n) (hK : Line I n b K) {i : Nat} (hi : i < K.length) : bfc I b K[i] n = i := by
  have e : ∀ k, bfc I b K[i] k = gN2 (fun o => onS I b o && bf I o K[i]) k := by
    intro k
    induction k with
    | zero => rfl
    | succ k ih => show _ + _ = _ + _; rw [ih]
  rw [e, hK.cnt]
  have hin : ∀ x, x ∈ K → x < n ∧ I 1 x = b := fun x hx => ⟨((hK.1 x).mp hx).1, (onS_iff.mp ((hK.1 x).mp hx).2).2⟩
  have key : ∀ (t : List Nat) (o : Nat) (i : Nat), (∀ x, x ∈ t → x < n ∧ I 1 x = b) → t.Pairwise (fun a b => bf I a b = true) → t[i]? = some o → lN2 (fun x => bf I x o) t = i := by
    intro t
    induction t with
    | nil => intro o i _ _ h; cases h
    | cons x t ih =>
      intro o i hx hp h
      have hp' := List.pairwise_cons.mp hp
      cases i with
      | zero =>
        have e : x = o := by simpa using h
        subst e
        show (if bf I x x = true then 1 else 0) + lN2 _ t = 0
        rw [bf_irrefl, if_neg (by decide)]
        have h0 : ∀ s : List Nat, (∀ y, y ∈ s → bf I y x = false) → lN2 (fun y => bf I y x) s = 0 := by
          intro s
          induction s with
          | nil => intro _; rfl
          | cons y s ihs => intro hs; show (if bf I y x = true then 1 else 0) + lN2 _ s = 0; rw [hs y List.mem_cons_self, if_neg (by decide), ihs (fun z hz => hs z (List.mem_cons_of_mem _ hz))]
        rw [h0 t (fun y hy => bf_asym ((hx x List.mem_cons_self).2.trans (hx y (List.mem_cons_of_mem _ hy)).2.symm) (hO.1 x (hx x List.mem_cons_self).1).1 (hO.1 y (hx y (List.mem_cons_of_mem _ hy)).1).1 (hp'.1 y hy))]
      | succ i =>
        have h' : t[i]? = some o := by simpa using h
        have hm : o ∈ t := List.mem_of_getElem? h'
        show (if bf I x o = true then 1 else 0) + lN2 _ t = i + 1
        rw [hp'.1 o hm, if_pos rfl, ih o i (fun y hy => hx y (List.mem_cons_of_mem _ hy)) hp'.2 h']
        omega
  exact key K K[i] i hin hK.2 (List.getElem?_eq_getElem hi)
theorem atR_no {x : Int32} : ∀ {k : Nat}, (∀ o, o < k → onS I b o = true → ¬ nI (bfc I b o n) = x) → atR I n b x k = -1 := by
  intro k
  induction k with
  | zero => intro _; rfl
  | succ k ih =>
    intro h
    show (if _ then _ else _) = _
    rw [if_neg (fun z => h k (by omega) z.1 z.2)]
    exact ih (fun o ho => h o (by omega))
theorem atR_is {x : Int32} {o : Nat} (hs : onS I b o = true) (hx : nI (bfc I b o n) = x) : ∀ {k : Nat}, o < k → (∀ o', o' < k → onS I b o' = true → nI (bfc I b o' n) = x → o' = o) → atR I n b x k = nI o := by
  intro k
  induction k with
  | zero => intro h; exact absurd h (Nat.not_lt_zero _)
  | succ k ih =>
    intro h hu
    show (if _ then _ else _) = _
    by_cases e : k = o
    · subst e; rw [if_pos ⟨hs, hx⟩]
    · rw [if_neg (fun z => e (hu k (by omega) z.1 z.2))]
      exact ih (by omega) (fun o' h' => hu o' (by omega))
theorem atR_atl (hn : n ≤ 250) (hO : oOK I n) (hK : Line I n b K) {x : Int32} : atR I n b x n = atl K x := by
  have hlen := hK.len hn
  have hix : ∀ o, o < n → onS I b o = true → ∃ i, i < K.length ∧ K[i]? = some o ∧ bfc I b o n = i := by
    intro o ho hs
    obtain ⟨i, hi, e⟩ := List.getElem_of_mem ((hK.1 o).mpr ⟨ho, hs⟩)
    refine ⟨i, hi, by rw [List.getElem?_eq_getElem hi, e], ?_⟩
    have := bfc_ix hO hK hi
    rwa [e] at this
  unfold atl
  by_cases h0 : x < 0
  · rw [if_pos h0]
    refine atR_no (fun o ho hs => ?_)
    obtain ⟨i, hi, -, e⟩ := hix o ho hs
    rw [e]
    intro z
    rw [← z] at h0
    exact nI_pos (by omega) h0
  · rw [if_neg h0]
    by_cases h1 : x < nI K.length
    · rw [if_pos h1]
      obtain ⟨i, hi, ei⟩ := nI_is hlen h0 h1
      subst ei
      rw [nI_clamp (by omega), show K.getD i 0 = K[i] by rw [List.getD_eq_getElem?_getD, List.getElem?_eq_getElem hi]; rfl]
      have hm := (hK.1 K[i]).mp (List.getElem_mem hi)
      refine atR_is hm.2 (by rw [bfc_ix hO hK hi]) hm.1 (fun o' h' hs' e' => ?_)
      obtain ⟨j, hj, ej, e2⟩ := hix o' h' hs'
      rw [e2] at e'
      have hji : j = i := by
        have h3 := congrArg Int32.toInt e'
        rw [nI_toInt (by omega), nI_toInt (by omega)] at h3
        omega
      subst hji
      rw [List.getElem?_eq_getElem hj] at ej
      exact (Option.some.inj ej).symm
    · rw [if_neg h1]
      refine atR_no (fun o ho hs => ?_)
      obtain ⟨i, hi, -, e⟩ := hix o ho hs
      rw [e]
      intro z
      rw [← z] at h1
      exact h1 (nI_lt hi (by omega))
end CNT
theorem told_eq {σ : St} {L : Nat → List Nat} (hL : LN σ L) {w : Int32} : tld σ (ctS (sI σ) 1 (sn σ)) (ctS (sI σ) 0 (sn σ)) w = told σ L w := by
  rw [ctS_len hL.1, ctS_len hL.2, told_tld]
theorem tell_k {σ : St} {k : Nat} {w : Int32} (h : stn σ ≤ 30000) (hk : k < stn σ) : tell σ (nI k) w = tlv σ k w := by
  unfold tell
  rw [if_neg (nI_pos (by omega)), if_pos (nI_lt hk (by omega)), nI_clamp (by omega)]
theorem tell_n {σ : St} {x w : Int32} (h : stn σ ≤ 30000) (hx : ∀ k, k < stn σ → ¬ x = nI k) : tell σ x w = -1 := by
  unfold tell
  by_cases h0 : x < 0
  · rw [if_pos h0]
  · rw [if_neg h0]
    by_cases h1 : x < nI (stn σ)
    · obtain ⟨k, hk, e⟩ := nI_is2 (by omega) h0 h1
      exact absurd e (hx k hk)
    · rw [if_neg h1]
