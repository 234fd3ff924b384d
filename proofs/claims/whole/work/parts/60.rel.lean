/-! THE RELATION of the class's state σ and the reference's state μ -/
/-- the entries of the table, in the order of their writing, among the first i -/
def en_t (μ : md_S) : Nat → List en_T
  | 0 => []
  | i + 1 => if μ.rf i = none then en_t μ i ++ [me_e μ i] else en_t μ i
/-- the numbers of the runs of level l below n -/
def id_l (μ : md_S) (l : Nat) : Nat → List Nat
  | 0 => []
  | r + 1 => if μ.lf r = some l then id_l μ l r ++ [r] else id_l μ l r
def rl_b (σ : kp_S) (μ : md_S) : Prop := (σ.ib = true ∧ μ.ba = some σ.ad.length ∧ ∀ (j : Nat) (x : en_T), σ.ad[j]? = some x → x = (μ.bk j, 0, μ.bv j, μ.bd j)) ∨ (σ.ib = false ∧ μ.ba = none ∧ σ.ad = [])
def rl_s (σ : kp_S) (μ : md_S) : Prop := ∀ j, j < 6 → σ.sn j = if μ.ss j = true then some (μ.sv j) else none
/-- what is of the reference alone: its entries' order, its runs -/
def md_in (μ : md_S) : Prop :=
  (∀ i j, i < j → j < μ.n → μ.nf i < μ.nf j) ∧ (∀ i, i < μ.n → 0 < μ.nf i ∧ μ.nf i ≤ μ.sq) ∧
  (∀ i r, i < μ.n → μ.rf i = some r → r < μ.rs ∧ ∃ l, μ.lf r = some l) ∧ (∀ r l, r < μ.rs → μ.lf r = some l → 0 < ct_f (fun k9 => decide (μ.rf k9 = some r)) μ.n) ∧
  (∀ i j r, i < μ.n → j < μ.n → μ.rf i = none → μ.rf j = some r → μ.nf j < μ.nf i) ∧
  (∀ i j r q l m, i < μ.n → j < μ.n → μ.rf i = some r → μ.rf j = some q → μ.lf r = some l → μ.lf q = some m → (l < m ∨ (l = m ∧ q < r)) → μ.nf j < μ.nf i)
def rl_at (σ : kp_S) (μ : md_S) : Prop :=
  σ.sq = μ.sq ∧ σ.sf = μ.sf ∧ σ.pr = μ.pr ∧ σ.mi = μ.mi ∧ rl_b σ μ ∧ rl_s σ μ ∧ σ.tb = en_t μ μ.n ∧
  (∀ l, l < 6 → σ.lv l = (id_l μ l μ.rs).map (fun r => so_st (en_r μ r μ.n))) ∧ md_in μ ∧ md_ok μ ∧ μ.n ≤ 600 ∧ σ.tb.length < 24 ∧ σ.sf ≤ σ.tb.length
theorem en_t_len (μ : md_S) : ∀ i, (en_t μ i).length = ct_f (fun k9 => decide (μ.rf k9 = none)) i
  | 0 => rfl
  | i + 1 => by
    by_cases h : μ.rf i = none
    · rw [show en_t μ (i + 1) = en_t μ i ++ [me_e μ i] from if_pos h, ct_y (p := fun k9 => decide (μ.rf k9 = none)) (decide_eq_true h), List.length_append, en_t_len μ i]; rfl
    · rw [show en_t μ (i + 1) = en_t μ i from if_neg h, ct_n (p := fun k9 => decide (μ.rf k9 = none)) (decide_eq_false h), en_t_len μ i]
theorem id_l_len (μ : md_S) (l : Nat) : ∀ r, (id_l μ l r).length = ct_f (fun k9 => decide (μ.lf k9 = some l)) r
  | 0 => rfl
  | r + 1 => by
    by_cases h : μ.lf r = some l
    · rw [show id_l μ l (r + 1) = id_l μ l r ++ [r] from if_pos h, ct_y (p := fun k9 => decide (μ.lf k9 = some l)) (decide_eq_true h), List.length_append, id_l_len μ l r]; rfl
    · rw [show id_l μ l (r + 1) = id_l μ l r from if_neg h, ct_n (p := fun k9 => decide (μ.lf k9 = some l)) (decide_eq_false h), id_l_len μ l r]
/-- both are new -/
theorem rl_0 : rl_at kp_0 md_0 := by
  refine ⟨rfl, rfl, rfl, rfl, Or.inr ⟨rfl, rfl, rfl⟩, fun j _ => rfl, rfl, fun l _ => rfl, ⟨fun i j _ h => absurd h (Nat.not_lt_zero j), fun i h => absurd h (Nat.not_lt_zero i), fun i r h => absurd h (Nat.not_lt_zero i), fun r l h => absurd h (Nat.not_lt_zero r), fun i j r h => absurd h (Nat.not_lt_zero i), fun i j r q l m h => absurd h (Nat.not_lt_zero i)⟩, ?_, Nat.zero_le _, Nat.zero_lt_succ _, Nat.le_refl _⟩
  exact ⟨fun i => Nat.zero_lt_succ _, fun i => show (0 : Nat) < 2 ^ 30 by decide, fun i r h => by cases h; decide, fun r l h => by cases h; decide, Nat.zero_le _, show (0 : Nat) < 4000 by decide, show (0 : Nat) < 2 ^ 30 by decide, fun j => show (0 : Nat) < 2 ^ 30 by decide, fun b h => (by cases h), fun j => Nat.zero_lt_succ _, show (0 : Nat) < 3 by decide⟩
