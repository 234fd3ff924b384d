/-! PURE WORDS: entries (key, sequence, number, deleted), rows of them. -/
abbrev en_T : Type := Nat × Nat × Int64 × Bool
def en_ok (x : en_T) : Prop := x.1 < 1024 ∧ x.2.1 < 2 ^ 30
/-- x stands before y in the order of a run -/
def en_b (x y : en_T) : Bool := if x.1 = y.1 then decide (y.2.1 < x.2.1) else decide (x.1 < y.1)
theorem en_b_iff (x y : en_T) : en_b x y = true ↔ x.1 < y.1 ∨ (x.1 = y.1 ∧ y.2.1 < x.2.1) := by
  unfold en_b
  split
  · rename_i h
    simp only [decide_eq_true_eq]
    omega
  · rename_i h
    simp only [decide_eq_true_eq]
    omega
theorem en_b_trans {x y z : en_T} (h1 : en_b x y = true) (h2 : en_b y z = true) : en_b x z = true := by
  rw [en_b_iff] at *
  omega
theorem en_b_irr (x : en_T) : en_b x x = false := by
  cases h : en_b x x with
  | false => rfl
  | true =>
    rw [en_b_iff] at h
    omega
theorem en_b_tri {x y : en_T} (h : en_b x y = false) (hn : x.1 ≠ y.1 ∨ x.2.1 ≠ y.2.1) : en_b y x = true := by
  rw [en_b_iff]
  have h' : ¬ en_b x y = true := by rw [h]; decide
  rw [en_b_iff] at h'
  omega
theorem en_b_asym {x y : en_T} (h : en_b x y = true) : en_b y x = false := by
  cases h2 : en_b y x with
  | false => rfl
  | true =>
    rw [en_b_iff] at h h2
    omega
/-- where x comes to stand in P: behind the last that it does not stand before -/
def so_n (x : en_T) : List en_T → Nat
  | [] => 0
  | y :: P => if so_n x P = 0 ∧ en_b x y = true then 0 else so_n x P + 1
def so_in (x : en_T) (P : List en_T) : List en_T := P.take (so_n x P) ++ x :: P.drop (so_n x P)
def so_st (L : List en_T) : List en_T := L.foldl (fun P x => so_in x P) []
theorem so_n_le (x : en_T) (P : List en_T) : so_n x P ≤ P.length := by
  induction P with
  | nil => simp [so_n]
  | cons y P ih =>
    simp only [so_n, List.length_cons]
    split <;> omega
/-- a place p behind which x stands before all, and at which it does not: that is the place -/
theorem so_n_of (x : en_T) : ∀ (P : List en_T) (p : Nat), p ≤ P.length → (∀ j y, p ≤ j → P[j]? = some y → en_b x y = true) → (∀ y, 0 < p → P[p - 1]? = some y → en_b x y = false) → so_n x P = p
  | [], p, hp, _, _ => by simp at hp; simp [so_n, hp]
  | y :: P, p, hp, h1, h2 => by
    cases p with
    | zero =>
      have e := so_n_of x P 0 (Nat.zero_le _) (fun j z hj hz => h1 (j + 1) z (Nat.zero_le _) (by simpa using hz)) (fun z h => absurd h (by omega))
      have e2 := h1 0 y (Nat.le_refl _) (by simp)
      simp [so_n, e, e2]
    | succ p =>
      have hp' : p ≤ P.length := by simpa using hp
      have e := so_n_of x P p hp' (fun j z hj hz => h1 (j + 1) z (by omega) (by simpa using hz)) (fun z h hz => h2 z (by omega) (by
        obtain ⟨q, rfl⟩ : ∃ q, p = q + 1 := ⟨p - 1, by omega⟩
        simpa using hz))
      simp only [so_n, e]
      split
      · rename_i hc
        have hp0 : p = 0 := hc.1
        subst hp0
        have := h2 y (by omega) (by simp)
        rw [this] at hc
        exact absurd hc.2 (by decide)
      · rfl
theorem so_in_mem {x y : en_T} {P : List en_T} : y ∈ so_in x P ↔ y = x ∨ y ∈ P := by
  unfold so_in
  rw [List.mem_append, List.mem_cons]
  have h := List.take_append_drop (so_n x P) P
  constructor
  · rintro (h1 | h1 | h1)
    · exact Or.inr (List.mem_of_mem_take h1)
    · exact Or.inl h1
    · exact Or.inr (List.mem_of_mem_drop h1)
  · rintro (h1 | h1)
    · exact Or.inr (Or.inl h1)
    · rw [← h, List.mem_append] at h1
      rcases h1 with h1 | h1
      · exact Or.inl h1
      · exact Or.inr (Or.inr h1)
theorem so_in_len (x : en_T) (P : List en_T) : (so_in x P).length = P.length + 1 := by
  have := so_n_le x P
  simp [so_in, List.length_append, List.length_take, List.length_drop]
  omega
theorem so_fold_mem {y : en_T} : ∀ (L P : List en_T), y ∈ L.foldl (fun P x => so_in x P) P ↔ y ∈ P ∨ y ∈ L
  | [], P => by simp
  | x :: L, P => by
    rw [List.foldl_cons, so_fold_mem L, so_in_mem, List.mem_cons]
    constructor
    · rintro ((h | h) | h)
      · exact Or.inr (Or.inl h)
      · exact Or.inl h
      · exact Or.inr (Or.inr h)
    · rintro (h | h | h)
      · exact Or.inl (Or.inr h)
      · exact Or.inl (Or.inl h)
      · exact Or.inr h
theorem so_st_mem {y : en_T} {L : List en_T} : y ∈ so_st L ↔ y ∈ L := by
  unfold so_st
  rw [so_fold_mem]
  simp
theorem so_fold_len : ∀ (L P : List en_T), (L.foldl (fun P x => so_in x P) P).length = P.length + L.length
  | [], P => by simp
  | x :: L, P => by
    rw [List.foldl_cons, so_fold_len L, so_in_len, List.length_cons]
    omega
theorem so_st_len (L : List en_T) : (so_st L).length = L.length := by
  unfold so_st
  rw [so_fold_len]
  simp
/-- in the order of a run -/
def so_ok (L : List en_T) : Prop := L.Pairwise (fun x y => en_b x y = true)
theorem so_n_take (x : en_T) : ∀ (P : List en_T), so_ok P → (∀ y ∈ P, x.1 ≠ y.1 ∨ x.2.1 ≠ y.2.1) → (∀ y ∈ P.take (so_n x P), en_b y x = true) ∧ ∀ y ∈ P.drop (so_n x P), en_b x y = true
  | [], _, _ => by simp
  | z :: P, hP, hn => by
    have hP1 := (List.pairwise_cons.mp hP).1
    have hP2 := (List.pairwise_cons.mp hP).2
    obtain ⟨ih1, ih2⟩ := so_n_take x P hP2 (fun y hy => hn y (List.mem_cons_of_mem _ hy))
    by_cases hc : so_n x P = 0 ∧ en_b x z = true
    · have e : so_n x (z :: P) = 0 := by simp [so_n, hc.1, hc.2]
      rw [e]
      refine ⟨by simp, fun y hy => ?_⟩
      rw [hc.1] at ih2
      rcases List.mem_cons.mp (by simpa using hy) with rfl | h
      · exact hc.2
      · exact ih2 y (by simpa using h)
    · have e : so_n x (z :: P) = so_n x P + 1 := by simp only [so_n, if_neg hc]
      rw [e]
      refine ⟨fun y hy => ?_, fun y hy => ih2 y (by simpa using hy)⟩
      rw [List.take_succ_cons] at hy
      rcases List.mem_cons.mp hy with rfl | h
      · by_cases h0 : so_n x P = 0
        · have hz : en_b x y = false := by
            cases hb : en_b x y with
            | false => rfl
            | true => exact absurd ⟨h0, hb⟩ hc
          exact en_b_tri hz (hn y List.mem_cons_self)
        · have hpos : 0 < so_n x P := Nat.pos_of_ne_zero h0
          cases P with
          | nil => simp [so_n] at h0
          | cons u P =>
            have hu : u ∈ (u :: P).take (so_n x (u :: P)) := by
              obtain ⟨k, hk⟩ : ∃ k, so_n x (u :: P) = k + 1 := ⟨so_n x (u :: P) - 1, by omega⟩
              rw [hk, List.take_succ_cons]
              exact List.mem_cons_self
            exact en_b_trans (hP1 u List.mem_cons_self) (ih1 u hu)
      · exact ih1 y h
theorem so_in_ok {x : en_T} {P : List en_T} (hP : so_ok P) (hn : ∀ y ∈ P, x.1 ≠ y.1 ∨ x.2.1 ≠ y.2.1) : so_ok (so_in x P) := by
  obtain ⟨h1, h2⟩ := so_n_take x P hP hn
  unfold so_in so_ok
  rw [List.pairwise_append]
  refine ⟨List.Pairwise.sublist (List.take_sublist _ _) hP, List.pairwise_cons.mpr ⟨h2, List.Pairwise.sublist (List.drop_sublist _ _) hP⟩, fun a ha b hb => ?_⟩
  rcases List.mem_cons.mp hb with rfl | hb
  · exact h1 a ha
  · exact en_b_trans (h1 a ha) (h2 b hb)
/-- no two of the same key and sequence -/
def en_ap (L : List en_T) : Prop := L.Pairwise (fun x y => x.1 ≠ y.1 ∨ x.2.1 ≠ y.2.1)
theorem so_fold_ok : ∀ (L P : List en_T), so_ok P → en_ap L → (∀ x ∈ L, ∀ y ∈ P, x.1 ≠ y.1 ∨ x.2.1 ≠ y.2.1) → so_ok (L.foldl (fun P x => so_in x P) P)
  | [], P, hP, _, _ => hP
  | x :: L, P, hP, hL, hx => by
    have hL1 := (List.pairwise_cons.mp hL).1
    have hL2 := (List.pairwise_cons.mp hL).2
    rw [List.foldl_cons]
    refine so_fold_ok L _ (so_in_ok hP (hx x List.mem_cons_self)) hL2 (fun z hz y hy => ?_)
    rcases so_in_mem.mp hy with rfl | hy
    · rcases hL1 z hz with h | h
      · exact Or.inl (Ne.symm h)
      · exact Or.inr (Ne.symm h)
    · exact hx z (List.mem_cons_of_mem _ hz) y hy
theorem so_st_ok {L : List en_T} (h : en_ap L) : so_ok (so_st L) := so_fold_ok L [] List.Pairwise.nil h (fun _ _ _ h => by cases h)
/-- two rows in the order of a run with the same entries are the same row -/
theorem so_uniq : ∀ (A B : List en_T), so_ok A → so_ok B → (∀ x, x ∈ A ↔ x ∈ B) → A = B
  | [], [], _, _, _ => rfl
  | [], b :: B, _, _, h => by have := (h b).mpr List.mem_cons_self; cases this
  | a :: A, [], _, _, h => by have := (h a).mp List.mem_cons_self; cases this
  | a :: A, b :: B, hA, hB, h => by
    have hA1 := (List.pairwise_cons.mp hA).1
    have hA2 := (List.pairwise_cons.mp hA).2
    have hB1 := (List.pairwise_cons.mp hB).1
    have hB2 := (List.pairwise_cons.mp hB).2
    have hab : a = b := by
      rcases List.mem_cons.mp ((h a).mp List.mem_cons_self) with h1 | h1
      · exact h1
      · rcases List.mem_cons.mp ((h b).mpr List.mem_cons_self) with h2 | h2
        · exact h2.symm
        · have e1 := hB1 a h1
          have e2 := hA1 b h2
          rw [en_b_asym e1] at e2
          cases e2
    subst hab
    have hnA : a ∉ A := fun z => by have := hA1 a z; rw [en_b_irr] at this; cases this
    have hnB : a ∉ B := fun z => by have := hB1 a z; rw [en_b_irr] at this; cases this
    rw [so_uniq A B hA2 hB2 (fun x => by
      constructor
      · intro hx
        rcases List.mem_cons.mp ((h x).mp (List.mem_cons_of_mem _ hx)) with rfl | h1
        · exact absurd hx hnA
        · exact h1
      · intro hx
        rcases List.mem_cons.mp ((h x).mpr (List.mem_cons_of_mem _ hx)) with rfl | h1
        · exact absurd hx hnB
        · exact h1)]
/-- without the deleted ones at its end -/
def cd_L (L : List en_T) : Nat → Nat
  | 0 => 0
  | n + 1 => if (L.getD n (0, 0, 0, false)).2.2.2 = true then cd_L L n else n + 1
theorem cd_le (L : List en_T) (n : Nat) : cd_L L n ≤ n := by
  induction n with
  | zero => simp [cd_L]
  | succ n ih =>
    simp only [cd_L]
    split <;> omega
/-- the latest entry of a key up to a sequence -/
def la_f (k s : Nat) (b : Option en_T) (x : en_T) : Option en_T := if x.1 = k ∧ x.2.1 ≤ s ∧ b.all (fun y => decide (y.2.1 < x.2.1)) = true then some x else b
def la_L (k s : Nat) (L : List en_T) : Option en_T := L.foldl (la_f k s) none
def mx_L (L : List en_T) : Nat := L.foldl (fun n x => max n x.2.1) 0
