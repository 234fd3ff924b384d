/-! more words -/
theorem wi_31 : (Jvm.Cond.code ({ cls := "java/lang/Object", name := "<init>", desc := "()V" } : Jvm.MethodName) object_method_1_code (1 : Nat) (Option.none : Option Jvm.ClassFile.FieldType) : Cond) ∈ wd_all := wd_m 31 (by decide +kernel) (by decide +kernel)
theorem la_mem' {k u : Nat} : ∀ (A : List en_T) (o : Option en_T) {y : en_T}, A.foldl (la_f k u) o = some y → y ∈ A ∨ o = some y
  | [], o, y, h => Or.inr h
  | x :: A, o, y, h => by
    rw [List.foldl_cons] at h
    rcases la_mem' A _ h with h1 | h1
    · exact Or.inl (List.mem_cons_of_mem _ h1)
    · unfold la_f at h1
      split at h1
      · cases h1
        exact Or.inl List.mem_cons_self
      · exact Or.inr h1
theorem la_mem {k u : Nat} {L : List en_T} {i : Nat} {y : en_T} (h : la_L k u (L.take i) = some y) : y ∈ L := by
  rcases la_mem' (L.take i) none h with h1 | h1
  · exact List.mem_of_mem_take h1
  · cases h1
theorem la_memL {k u : Nat} {L : List en_T} {y : en_T} (h : la_L k u L = some y) : y ∈ L := by
  rcases la_mem' L none h with h1 | h1
  · exact h1
  · cases h1
theorem cd_s {L : List en_T} {n : Nat} {x : en_T} (h : L[n]? = some x) (hd : x.2.2.2 = true) : cd_L L (n + 1) = cd_L L n := by
  have e : L.getD n (0, 0, 0, false) = x := by rw [List.getD_eq_getElem?_getD, h]; rfl
  show (if (L.getD n (0, 0, 0, false)).2.2.2 = true then cd_L L n else n + 1) = _
  rw [e, if_pos hd]
theorem cd_k {L : List en_T} {n : Nat} {x : en_T} (h : L[n]? = some x) (hd : x.2.2.2 = false) : cd_L L (n + 1) = n + 1 := by
  have e : L.getD n (0, 0, 0, false) = x := by rw [List.getD_eq_getElem?_getD, h]; rfl
  show (if (L.getD n (0, 0, 0, false)).2.2.2 = true then cd_L L n else n + 1) = _
  rw [e, if_neg (by rw [hd]; decide)]
