/-! What an order could take at once -/
def avl (σ : St) (o : Nat) : List Nat → Int64 → Int64
  | [], a => a
  | r :: t, a => if tk (sI σ) o (sI σ 2 r) = true then (if byc (srf σ) (sbd σ) (sI σ 2 r) = true then a else avl σ o t (a + (sI σ 3 r).toInt64)) else a
theorem avl_nt {σ : St} {o r : Nat} {t : List Nat} {a : Int64} (h : tk (sI σ) o (sI σ 2 r) = false) : avl σ o (r :: t) a = a := by
  unfold avl
  rw [h, if_neg (by decide)]
theorem avl_by {σ : St} {o r : Nat} {t : List Nat} {a : Int64} (h : byc (srf σ) (sbd σ) (sI σ 2 r) = true) : avl σ o (r :: t) a = a := by
  unfold avl
  rw [if_pos h, ite_self]
theorem avl_go {σ : St} {o r : Nat} {t : List Nat} {a : Int64} (h : tk (sI σ) o (sI σ 2 r) = true) (hb : byc (srf σ) (sbd σ) (sI σ 2 r) = false) : avl σ o (r :: t) a = avl σ o t (a + (sI σ 3 r).toInt64) := by
  show (if _ then _ else _) = _
  rw [if_pos h, if_neg (by rw [hb]; decide)]
def cgw (σ : St) (K : List Nat) (o : Nat) : Bool := decide ((sI σ 3 o).toInt64 ≤ avl σ o K 0)
theorem drop_at {K : List Nat} {i : Nat} (h : i < K.length) : K.drop i = K[i] :: K.drop (i + 1) := List.drop_eq_getElem_cons h
theorem map_at {oa : Nat → Nat} {K : List Nat} {i : Nat} (h : i < K.length) : (K.map oa)[i]? = some (oa K[i]) := by
  rw [List.getElem?_map, List.getElem?_eq_getElem h]; rfl
