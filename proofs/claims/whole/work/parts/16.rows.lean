/-! PURE ROWS for the walks of Row: what the places hold while entries are moved -/
theorem so_snoc (A : List en_T) (x : en_T) : so_st (A ++ [x]) = so_in x (so_st A) := by simp [so_st, List.foldl_append]
theorem ta_s {α : Type} {L : List α} {i : Nat} {x : α} (h : L[i]? = some x) : L.take (i + 1) = L.take i ++ [x] := by rw [List.take_succ, h]; rfl
theorem dr_s {α : Type} {L : List α} {i : Nat} {x : α} (h : L[i]? = some x) : L.drop i = x :: L.drop (i + 1) := by
  have hi := (List.getElem?_eq_some_iff.mp h).1
  have hv := (List.getElem?_eq_some_iff.mp h).2
  rw [List.drop_eq_getElem_cons hi, hv]
theorem ge_at {α : Type} {L : List α} {i : Nat} (h : i < L.length) : ∃ x, L[i]? = some x := ⟨L[i], List.getElem?_eq_getElem h⟩
theorem so_in_get {x : en_T} {P : List en_T} {p : Nat} (hp : so_n x P = p) (hl : p ≤ P.length) (j : Nat) : (so_in x P)[j]? = if j < p then P[j]? else if j = p then some x else P[j - 1]? := by
  unfold so_in
  rw [hp]
  have hlen : (P.take p).length = p := by rw [List.length_take]; omega
  by_cases h1 : j < p
  · rw [if_pos h1, List.getElem?_append_left (by rw [hlen]; exact h1), List.getElem?_take, if_pos h1]
  · rw [if_neg h1, List.getElem?_append_right (by rw [hlen]; omega), hlen]
    by_cases h2 : j = p
    · rw [if_pos h2, h2, Nat.sub_self]
      rfl
    · rw [if_neg h2]
      obtain ⟨k, rfl⟩ : ∃ k, j = p + 1 + k := ⟨j - p - 1, by omega⟩
      rw [show p + 1 + k - p = k + 1 by omega, List.getElem?_cons_succ, List.getElem?_drop]
      congr 1
      omega
/-- while the entry x of place i is on its way to place p: what the places hold of the i entries P before it -/
def sh_ok (w : dk_H) (f : Nat → Option Nat) (P : List en_T) (p : Nat) : Prop :=
  (∀ j y, j < p → P[j]? = some y → ∃ a, f j = some a ∧ en_at w a y) ∧ ∀ j y, p ≤ j → P[j]? = some y → ∃ a, f (j + 1) = some a ∧ en_at w a y
def sr_ok (w : dk_H) (f : Nat → Option Nat) (L : List en_T) (i : Nat) : Prop := ∀ j y, i < j → L[j]? = some y → ∃ a, f j = some a ∧ en_at w a y
theorem sh_ok.init {w : dk_H} {f : Nat → Option Nat} {P R : List en_T} (h : ra_ok w f (P ++ R)) : sh_ok w f P P.length :=
  ⟨fun j y hj hy => h j y (by rw [List.getElem?_append_left hj]; exact hy), fun j y hj hy => absurd (List.getElem?_eq_some_iff.mp hy).1 (by omega)⟩
theorem sh_ok.step {w : dk_H} {f : Nat → Option Nat} {P : List en_T} {p : Nat} (h : sh_ok w f P (p + 1)) : sh_ok w (va_up f (p + 1) (f p)) P p := by
  refine ⟨fun j y hj hy => ?_, fun j y hj hy => ?_⟩
  · obtain ⟨a, h1, h2⟩ := h.1 j y (by omega) hy
    exact ⟨a, by rw [dk_un (by omega)]; exact h1, h2⟩
  · by_cases hjp : j = p
    · subst hjp
      obtain ⟨a, h1, h2⟩ := h.1 j y (by omega) hy
      exact ⟨a, by rw [dk_us]; exact h1, h2⟩
    · obtain ⟨a, h1, h2⟩ := h.2 j y (by omega) hy
      exact ⟨a, by rw [dk_un (by omega)]; exact h1, h2⟩
theorem sr_ok.step {w : dk_H} {f : Nat → Option Nat} {L : List en_T} {i p : Nat} {v : Option Nat} (h : sr_ok w f L i) (hp : p ≤ i) : sr_ok w (va_up f p v) L i := by
  intro j y hj hy
  obtain ⟨a, h1, h2⟩ := h j y hj hy
  exact ⟨a, by rw [dk_un (by omega)]; exact h1, h2⟩
theorem sh_ok.done {w : dk_H} {f : Nat → Option Nat} {P L : List en_T} {p i ax : Nat} {x : en_T} (hP : P.length = i) (h : sh_ok w f P p) (hr : sr_ok w f L i) (hp : so_n x P = p) (hx : en_at w ax x) (hi : i < L.length) : ra_ok w (va_up f p (some ax)) (so_in x P ++ L.drop (i + 1)) := by
  have hpl : p ≤ P.length := by rw [← hp]; exact so_n_le x P
  have hlen : (so_in x P).length = i + 1 := by rw [so_in_len, hP]
  intro j y hy
  by_cases hj : j < i + 1
  · rw [List.getElem?_append_left (by rw [hlen]; exact hj), so_in_get hp hpl] at hy
    by_cases h1 : j < p
    · rw [if_pos h1] at hy
      obtain ⟨a, g1, g2⟩ := h.1 j y h1 hy
      exact ⟨a, by rw [dk_un (by omega)]; exact g1, g2⟩
    · rw [if_neg h1] at hy
      by_cases h2 : j = p
      · rw [if_pos h2] at hy
        cases hy
        subst h2
        exact ⟨ax, dk_us, hx⟩
      · rw [if_neg h2] at hy
        obtain ⟨a, g1, g2⟩ := h.2 (j - 1) y (by omega) hy
        rw [show j - 1 + 1 = j by omega] at g1
        exact ⟨a, by rw [dk_un (by omega)]; exact g1, g2⟩
  · rw [List.getElem?_append_right (by rw [hlen]; omega), hlen, List.getElem?_drop, show i + 1 + (j - (i + 1)) = j by omega] at hy
    obtain ⟨a, g1, g2⟩ := hr j y (by omega) hy
    exact ⟨a, by rw [dk_un (by omega)]; exact g1, g2⟩
theorem la_snoc (k s : Nat) (A : List en_T) (x : en_T) : la_L k s (A ++ [x]) = la_f k s (la_L k s A) x := by simp [la_L, List.foldl_append]
theorem mx_snoc (A : List en_T) (x : en_T) : mx_L (A ++ [x]) = max (mx_L A) x.2.1 := by simp [mx_L, List.foldl_append]
/-- the answer of a search: an entry, by its cell -/
def en_q (w : dk_H) (r : Option Nat) (o : Option en_T) : Prop := match o with
  | none => r = none
  | some x => ∃ a, r = some a ∧ en_at w a x
theorem en_q.fr {T : Nat → Prop} {w w1 : dk_H} {r : Option Nat} {o : Option en_T} (h : en_q w r o) (hf : dk_fr T w w1) (h0 : ¬ T 0) : en_q w1 r o := by
  cases o with
  | none => exact h
  | some x =>
    obtain ⟨a, h1, h2⟩ := h
    exact ⟨a, h1, h2.fr hf h0⟩
