/-! LEVELS: runs, the latest last. Tags tb, tb + 1, tb + 2. -/
def le_ct : List (List en_T) → Nat
  | [] => 0
  | R :: Rs => R.length + le_ct Rs
theorem le_snoc (Rs : List (List en_T)) (R : List en_T) : le_ct (Rs ++ [R]) = le_ct Rs + R.length := by
  induction Rs with
  | nil => simp [le_ct]
  | cons A Rs ih => simp only [List.cons_append, le_ct, ih]; omega
theorem le_flat (Rs : List (List en_T)) : Rs.flatten.length = le_ct Rs := by
  induction Rs with
  | nil => rfl
  | cons A Rs ih => simp only [List.flatten_cons, List.length_append, le_ct, ih]
theorem le_tk {Rs : List (List en_T)} {i : Nat} : le_ct (Rs.take i) ≤ le_ct Rs := by
  induction Rs generalizing i with
  | nil => simp [le_ct]
  | cons A Rs ih =>
    cases i with
    | zero => simp [le_ct]
    | succ i => simp only [List.take_succ_cons, le_ct]; have := @ih i; omega
theorem le_mem {Rs : List (List en_T)} {i : Nat} {R : List en_T} (h : Rs[i]? = some R) : le_ct (Rs.take i) + R.length ≤ le_ct Rs := by
  have e := ta_s h
  have h1 := @le_tk Rs (i + 1)
  rw [e, le_snoc] at h1
  exact h1
def le_rs (G : dk_G) (w : dk_H) (xs : List Nat) (Rs : List (List en_T)) : Prop := xs.length = Rs.length ∧ ∀ (i x : Nat) (R : List en_T), xs[i]? = some x → Rs[i]? = some R → rn_at G w x R
theorem le_rs.fr {G : dk_G} {T : Nat → Prop} {w w1 : dk_H} {xs : List Nat} {Rs : List (List en_T)} (H : le_rs G w xs Rs) (hf : dk_fr T w w1) (h0 : ¬ T 0) : le_rs G w1 xs Rs := ⟨H.1, fun i x R h1 h2 => (H.2 i x R h1 h2).fr hf h0⟩
theorem le_rs.el {G : dk_G} {w : dk_H} {xs : List Nat} {Rs : List (List en_T)} (H : le_rs G w xs Rs) : al_el w xs := by
  intro x hx
  obtain ⟨i, hi⟩ := List.getElem?_of_mem hx
  have hl := (List.getElem?_eq_some_iff.mp hi).1
  obtain ⟨R, hR⟩ := ge_at (L := Rs) (i := i) (by rw [← H.1]; exact hl)
  obtain ⟨r, fl, f, g, -⟩ := H.2 i x R hi hR
  exact ⟨_, g⟩
theorem le_rs.snoc {G : dk_G} {w : dk_H} {xs : List Nat} {Rs : List (List en_T)} {x : Nat} {R : List en_T} (H : le_rs G w xs Rs) (hx : rn_at G w x R) : le_rs G w (xs ++ [x]) (Rs ++ [R]) := by
  refine ⟨by simp [H.1], fun i y S h1 h2 => ?_⟩
  by_cases hi : i < xs.length
  · rw [List.getElem?_append_left hi] at h1
    rw [List.getElem?_append_left (by rw [← H.1]; exact hi)] at h2
    exact H.2 i y S h1 h2
  · rw [List.getElem?_append_right (by omega)] at h1
    rw [List.getElem?_append_right (by rw [← H.1]; omega), ← H.1] at h2
    have hz : i - xs.length < 1 := (List.getElem?_eq_some_iff.mp h1).1
    rw [show i - xs.length = 0 by omega] at h1 h2
    cases h1
    cases h2
    exact hx
def le_at (G : dk_G) (w : dk_H) (h tb : Nat) (Rs : List (List en_T)) : Prop := ∃ (al : Nat) (xs : List Nat), w h = some (tb, .inr (cx_V, [.ref al, .int (nI (le_ct Rs))])) ∧ al_at G w al (tb + 1) (tb + 2) xs ∧ le_rs G w xs Rs ∧ Rs.length ≤ 600 ∧ le_ct Rs ≤ 600
theorem le_at.fr {G : dk_G} {T : Nat → Prop} {w w1 : dk_H} {h tb : Nat} {Rs : List (List en_T)} (H : le_at G w h tb Rs) (hf : dk_fr T w w1) (h0 : ¬ T 0) (h1 : ¬ T tb) (h2 : ¬ T (tb + 1)) (h3 : ¬ T (tb + 2)) : le_at G w1 h tb Rs := by
  obtain ⟨al, xs, g1, g2, g3, g4⟩ := H
  exact ⟨al, xs, hf _ _ _ g1 h1, g2.fr hf h2 h3, g3.fr hf h0, g4⟩
def le_T (tb : Nat) : Nat → Prop := fun t => t = tb ∨ t = tb + 1 ∨ t = tb + 2
/-- the run that an int names -/
def rn_q (G : dk_G) (w : dk_H) (Rs : List (List en_T)) (k : Int32) (r : Option Nat) : Prop := (r = none ∧ ∀ (j : Nat), k = nI j → j < 2 ^ 31 → Rs.length ≤ j) ∨ ∃ (j : Nat) (R : List en_T) (a : Nat), k = nI j ∧ Rs[j]? = some R ∧ r = some a ∧ rn_at G w a R
