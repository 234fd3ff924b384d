/-! pure rows for sortAsRun -/
theorem so_one (L : List en_T) : so_st (L.take 1) ++ L.drop 1 = L := by
  cases L with
  | nil => rfl
  | cons x L => simp [so_st, so_in, so_n]
theorem so_tl (L : List en_T) {i : Nat} (h : i ≤ L.length) : (so_st (L.take i)).length = i := by rw [so_st_len, List.length_take]; omega
theorem so_ci {L : List en_T} {i j : Nat} (h : i ≤ L.length) (hj : i ≤ j) : (so_st (L.take i) ++ L.drop i)[j]? = L[j]? := by
  rw [List.getElem?_append_right (by rw [so_tl L h]; exact hj), so_tl L h, List.getElem?_drop]
  congr 1
  omega
theorem nx_max {a b : Nat} (ha : a < 2 ^ 31) (hb : b < 2 ^ 31) : (if nI a < nI b then nI b else nI a) = nI (max a b) := by
  by_cases h : a < b
  · rw [if_pos ((nI_ltI ha hb).mpr h), Nat.max_eq_right (by omega)]
  · rw [if_neg (fun z => h ((nI_ltI ha hb).mp z)), Nat.max_eq_left (by omega)]
theorem nx_min {a b : Nat} (ha : a < 2 ^ 31) (hb : b < 2 ^ 31) : (if nI b < nI a then nI b else nI a) = nI (min a b) := by
  by_cases h : b < a
  · rw [if_pos ((nI_ltI hb ha).mpr h), Nat.min_eq_right (by omega)]
  · rw [if_neg (fun z => h ((nI_ltI hb ha).mp z)), Nat.min_eq_left (by omega)]
