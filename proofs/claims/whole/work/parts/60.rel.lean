/-! THE RELATION of the keeper's state σ and the reference's state μ -/
abbrev en_P : Type := en_T × Option Nat
/-- the reference's entries in their order, each with its run (none: the table) -/
def ml_P (μ : md_S) : Nat → List en_P
  | 0 => []
  | i + 1 => ml_P μ i ++ [(me_e μ i, μ.rf i)]
def se_l (o : Option Nat) (P : List en_P) : List en_T := P.filterMap (fun p => if p.2 = o then some p.1 else none)
/-- the numbers of the runs of level l below n -/
def id_l (lf : Nat → Option Nat) (l n : Nat) : List Nat := (List.range n).filter (fun r => decide (lf r = some l))
theorem ml_len (μ : md_S) : ∀ i, (ml_P μ i).length = i
  | 0 => rfl
  | i + 1 => by rw [ml_P, List.length_append, ml_len μ i]; rfl
theorem ml_cong {μ ν : md_S} : ∀ {i : Nat}, (∀ j, j < i → me_e ν j = me_e μ j ∧ ν.rf j = μ.rf j) → ml_P ν i = ml_P μ i
  | 0, _ => rfl
  | i + 1, h => by
    have h1 := h i (by omega)
    rw [ml_P, ml_P, ml_cong (i := i) (fun j hj => h j (by omega)), h1.1, h1.2]
theorem ml_mem {μ : md_S} {p : en_P} : ∀ {i : Nat}, p ∈ ml_P μ i ↔ ∃ j, j < i ∧ p = (me_e μ j, μ.rf j)
  | 0 => by simp [ml_P]
  | i + 1 => by
    rw [ml_P, List.mem_append, ml_mem (i := i), List.mem_singleton]
    constructor
    · rintro (⟨j, h1, h2⟩ | h)
      · exact ⟨j, by omega, h2⟩
      · exact ⟨i, by omega, h⟩
    · rintro ⟨j, h1, h2⟩
      by_cases e : j = i
      · subst e; exact Or.inr h2
      · exact Or.inl ⟨j, by omega, h2⟩
theorem se_app (o : Option Nat) (P Q : List en_P) : se_l o (P ++ Q) = se_l o P ++ se_l o Q := List.filterMap_append
theorem se_1 (o : Option Nat) (p : en_P) : se_l o [p] = if p.2 = o then [p.1] else [] := by
  by_cases h : p.2 = o <;> simp [se_l, h]
theorem se_cons (o : Option Nat) (p : en_P) (P : List en_P) : se_l o (p :: P) = if p.2 = o then p.1 :: se_l o P else se_l o P := by
  by_cases h : p.2 = o <;> simp [se_l, h]
theorem se_mem {o : Option Nat} {P : List en_P} {x : en_T} : x ∈ se_l o P ↔ (x, o) ∈ P := by
  simp only [se_l, List.mem_filterMap]
  constructor
  · rintro ⟨⟨y, q⟩, h1, h2⟩
    by_cases h : q = o
    · subst h
      simp at h2
      subst h2
      exact h1
    · simp [h] at h2
  · intro h
    exact ⟨(x, o), h, by simp⟩
theorem se_len (μ : md_S) (o : Option Nat) : ∀ i, (se_l o (ml_P μ i)).length = ct_f (fun k9 => decide (μ.rf k9 = o)) i
  | 0 => rfl
  | i + 1 => by
    rw [ml_P, se_app, List.length_append, se_len μ o i, se_1]
    by_cases h : μ.rf i = o
    · rw [if_pos h, ct_y (p := fun k9 => decide (μ.rf k9 = o)) (decide_eq_true h)]; rfl
    · rw [if_neg h, ct_n (p := fun k9 => decide (μ.rf k9 = o)) (decide_eq_false h)]; rfl
theorem se_en (μ : md_S) (d : Nat) : ∀ i, en_r μ d i = se_l (some d) (ml_P μ i)
  | 0 => rfl
  | i + 1 => by
    rw [ml_P, se_app, se_1]
    by_cases h : μ.rf i = some d
    · rw [en_ry h, if_pos h, se_en μ d i]
    · rw [en_rn h, if_neg h, se_en μ d i, List.append_nil]
theorem id_s (lf : Nat → Option Nat) (l n : Nat) : id_l lf l (n + 1) = if lf n = some l then id_l lf l n ++ [n] else id_l lf l n := by
  rw [id_l, List.range_succ, List.filter_append]
  by_cases h : lf n = some l <;> simp [h, id_l]
theorem id_mem {lf : Nat → Option Nat} {l n r : Nat} : r ∈ id_l lf l n ↔ r < n ∧ lf r = some l := by
  simp [id_l, List.mem_filter]
theorem id_len (lf : Nat → Option Nat) (l : Nat) : ∀ n, (id_l lf l n).length = ct_f (fun k9 => decide (lf k9 = some l)) n
  | 0 => rfl
  | n + 1 => by
    rw [id_s]
    by_cases h : lf n = some l
    · rw [if_pos h, ct_y (p := fun k9 => decide (lf k9 = some l)) (decide_eq_true h), List.length_append, id_len lf l n]; rfl
    · rw [if_neg h, ct_n (p := fun k9 => decide (lf k9 = some l)) (decide_eq_false h), id_len lf l n]
theorem id_cong {lf lg : Nat → Option Nat} {l : Nat} : ∀ {n : Nat}, (∀ r, r < n → (lf r = some l ↔ lg r = some l)) → id_l lf l n = id_l lg l n
  | 0, _ => rfl
  | n + 1, h => by
    have h1 := h n (by omega)
    rw [id_s, id_s, id_cong (n := n) (fun r hr => h r (by omega))]
    by_cases e : lf n = some l
    · rw [if_pos e, if_pos (h1.mp e)]
    · rw [if_neg e, if_neg (fun z => e (h1.mpr z))]
/-- the order of the entries and of the runs -/
def pi_ok (P : List en_P) (lf : Nat → Option Nat) (rs sq : Nat) : Prop :=
  P.Pairwise (fun a b => a.1.2.1 < b.1.2.1) ∧ (∀ x o, (x, o) ∈ P → 0 < x.2.1 ∧ x.2.1 ≤ sq) ∧
  (∀ x r, (x, some r) ∈ P → r < rs ∧ ∃ l, lf r = some l) ∧ (∀ r l, r < rs → lf r = some l → ∃ x, (x, some r) ∈ P) ∧
  (∀ x y r, (x, none) ∈ P → (y, some r) ∈ P → y.2.1 < x.2.1) ∧
  (∀ x y r q l m, (x, some r) ∈ P → (y, some q) ∈ P → lf r = some l → lf q = some m → (l < m ∨ (l = m ∧ q < r)) → y.2.1 < x.2.1)
/-- table and levels hold what the list P says -/
def co_ok (tb : List en_T) (lv : Nat → List (List en_T)) (P : List en_P) (lf : Nat → Option Nat) (rs sq : Nat) : Prop :=
  tb = se_l none P ∧ (∀ l, l < 6 → lv l = (id_l lf l rs).map (fun r => so_st (se_l (some r) P))) ∧ pi_ok P lf rs sq
def rl_b (σ : kp_S) (μ : md_S) : Prop := (σ.ib = true ∧ μ.ba = some σ.ad.length ∧ ∀ (j : Nat) (x : en_T), σ.ad[j]? = some x → x = (μ.bk j, 0, μ.bv j, μ.bd j)) ∨ (σ.ib = false ∧ μ.ba = none ∧ σ.ad = [])
def rl_s (σ : kp_S) (μ : md_S) : Prop := ∀ j, j < 6 → σ.sn j = if μ.ss j = true then some (μ.sv j) else none
def rl_c (σ : kp_S) (μ : md_S) : Prop :=
  (σ.sq = μ.sq ∧ σ.sf = μ.sf ∧ σ.pr = μ.pr ∧ σ.mi = μ.mi) ∧ rl_b σ μ ∧ rl_s σ μ ∧ co_ok σ.tb σ.lv (ml_P μ μ.n) μ.lf μ.rs μ.sq ∧ σ.sf ≤ σ.tb.length
def rl_at (σ : kp_S) (μ : md_S) : Prop := rl_c σ μ ∧ md_ok μ ∧ μ.n ≤ 600 ∧ σ.tb.length < 24
theorem rl_0 : rl_at kp_0 md_0 := by
  refine ⟨⟨⟨rfl, rfl, rfl, rfl⟩, Or.inr ⟨rfl, rfl, rfl⟩, fun j _ => rfl, ⟨rfl, fun l _ => rfl, List.Pairwise.nil, fun x o h => absurd h (List.not_mem_nil), fun x r h => absurd h (List.not_mem_nil), fun r l h => absurd h (Nat.not_lt_zero r), fun x y r h => absurd h (List.not_mem_nil), fun x y r q l m h => absurd h (List.not_mem_nil)⟩, Nat.le_refl _⟩, ?_, Nat.zero_le _, Nat.zero_lt_succ _⟩
  exact ⟨fun i => Nat.zero_lt_succ _, fun i => show (0 : Nat) < 2 ^ 30 by decide, fun i r h => by cases h; decide, fun r l h => by cases h; decide, Nat.zero_le _, show (0 : Nat) < 4000 by decide, show (0 : Nat) < 2 ^ 30 by decide, fun j => show (0 : Nat) < 2 ^ 30 by decide, fun b h => (by cases h), fun j => Nat.zero_lt_succ _, show (0 : Nat) < 3 by decide⟩
/-! all entries are counted once -/
theorem le_inc {ids : List Nat} {p : en_P} (hd : ids.Nodup) (P : List en_P) : le_ct (ids.map (fun r => so_st (se_l (some r) (p :: P)))) = le_ct (ids.map (fun r => so_st (se_l (some r) P))) + if (∃ r, r ∈ ids ∧ p.2 = some r) then 1 else 0 := by
  induction ids with
  | nil => simp [le_ct]
  | cons i ids ih =>
    have h1 := (List.nodup_cons.mp hd).1
    have ih := ih (List.nodup_cons.mp hd).2
    simp only [List.map_cons, le_ct, so_st_len]
    rw [ih, se_cons]
    by_cases h : p.2 = some i
    · have hn : ¬ ∃ r, r ∈ ids ∧ p.2 = some r := by
        rintro ⟨r, h2, h3⟩
        rw [h] at h3
        cases h3
        exact h1 h2
      have hy : ∃ r, r ∈ i :: ids ∧ p.2 = some r := ⟨i, List.mem_cons_self, h⟩
      rw [if_pos h, if_neg hn, if_pos hy, List.length_cons]
      omega
    · rw [if_neg h]
      have he : (∃ r, r ∈ ids ∧ p.2 = some r) ↔ ∃ r, r ∈ i :: ids ∧ p.2 = some r := by
        constructor
        · rintro ⟨r, h2, h3⟩; exact ⟨r, List.mem_cons_of_mem _ h2, h3⟩
        · rintro ⟨r, h2, h3⟩
          rcases List.mem_cons.mp h2 with rfl | h2
          · exact absurd h3 h
          · exact ⟨r, h2, h3⟩
      by_cases hb : ∃ r, r ∈ ids ∧ p.2 = some r
      · rw [if_pos hb, if_pos (he.mp hb)]; omega
      · rw [if_neg hb, if_neg (fun z => hb (he.mpr z))]; omega
theorem id_nd (lf : Nat → Option Nat) (l n : Nat) : (id_l lf l n).Nodup := List.Nodup.sublist (List.filter_sublist) List.nodup_range
theorem lv_inc (lf : Nat → Option Nat) (rs : Nat) (p : en_P) (P : List en_P) : ∀ n, lv_ct (fun l => (id_l lf l rs).map (fun r => so_st (se_l (some r) (p :: P)))) n = lv_ct (fun l => (id_l lf l rs).map (fun r => so_st (se_l (some r) P))) n + @ite Nat (∃ r l, l < n ∧ r < rs ∧ lf r = some l ∧ p.2 = some r) (Classical.propDecidable _) 1 0
  | 0 => by simp [lv_ct]
  | n + 1 => by
    have ih := lv_inc lf rs p P n
    simp only [lv_ct]
    rw [ih, le_inc (id_nd lf n rs)]
    by_cases h : ∃ r, r ∈ id_l lf n rs ∧ p.2 = some r
    · obtain ⟨r, h1, h2⟩ := h
      have h1' := id_mem.mp h1
      rw [if_neg (c := ∃ r l, l < n ∧ r < rs ∧ lf r = some l ∧ p.2 = some r), if_pos ⟨r, h1, h2⟩, if_pos ⟨r, n, by omega, h1'.1, h1'.2, h2⟩]
      · omega
      · rintro ⟨q, l, g1, g2, g3, g4⟩
        rw [h2] at g4
        cases g4
        rw [h1'.2] at g3
        cases g3
        omega
    · rw [if_neg h]
      by_cases hb : ∃ r l, l < n ∧ r < rs ∧ lf r = some l ∧ p.2 = some r
      · obtain ⟨r, l, g1, g2⟩ := id hb
        rw [if_pos hb, if_pos ⟨r, l, by omega, g2⟩]
        omega
      · rw [if_neg hb, if_neg]
        · omega
        rintro ⟨r, l, g1, g2, g3, g4⟩
        by_cases e : l = n
        · subst e; exact h ⟨r, id_mem.mpr ⟨g2, g3⟩, g4⟩
        · exact hb ⟨r, l, by omega, g2, g3, g4⟩
theorem lv_cong {f g : Nat → List (List en_T)} : ∀ n, (∀ l, l < n → f l = g l) → lv_ct f n = lv_ct g n
  | 0, _ => rfl
  | n + 1, h => by simp only [lv_ct, lv_cong n (fun l hl => h l (by omega)), h n (by omega)]
theorem co_tot0 (lf : Nat → Option Nat) (rs : Nat) (hl : ∀ r l, lf r = some l → l < 6) : ∀ P : List en_P, (∀ x r, (x, some r) ∈ P → r < rs ∧ ∃ l, lf r = some l) → (se_l none P).length + lv_ct (fun l => (id_l lf l rs).map (fun r => so_st (se_l (some r) P))) 6 = P.length
  | [], _ => by
    have : ∀ n, lv_ct (fun l => (id_l lf l rs).map (fun r => so_st (se_l (some r) []))) n = 0 := by
      intro n
      induction n with
      | zero => rfl
      | succ n ih =>
        simp only [lv_ct, ih, Nat.zero_add]
        generalize id_l lf n rs = ids
        induction ids with
        | nil => rfl
        | cons i ids ih2 => simp only [List.map_cons, le_ct, ih2, so_st_len]; rfl
    rw [this]; rfl
  | (x, o) :: P, h => by
    have ih := co_tot0 lf rs hl P (fun x r hx => h x r (List.mem_cons_of_mem _ hx))
    rw [lv_inc, se_cons, List.length_cons]
    cases o with
    | none =>
      rw [if_pos rfl, if_neg (by rintro ⟨r, l, -, -, -, h4⟩; cases h4), List.length_cons]
      omega
    | some r =>
      obtain ⟨h1, l, h2⟩ := h x r List.mem_cons_self
      rw [if_neg (by simp), if_pos ⟨r, l, hl r l h2, h1, h2, rfl⟩]
      omega
theorem rl_n {σ : kp_S} {μ : md_S} (h : rl_c σ μ) (hm : md_ok μ) : kp_n σ = μ.n := by
  obtain ⟨-, -, -, ⟨h1, h2, h3⟩, -⟩ := h
  have e := co_tot0 μ.lf μ.rs hm.2.2.2.1 (ml_P μ μ.n) h3.2.2.1
  rw [ml_len] at e
  show σ.tb.length + lv_ct σ.lv 6 = μ.n
  rw [h1, lv_cong 6 h2]
  exact e
