/-! SNAPSHOTS: six places, each with a sequence or none. Tags 13, 14, 15. -/
def sn_at (G : dk_G) (w : dk_H) (h : Nat) (sn : Nat → Option Nat) : Prop := ∃ (a1 a2 : Nat) (fs fu : Nat → Int32), w h = some (13, .inr (cx_S, [.ref a1, .ref a2])) ∧ w a1 = some (14, dk_ci G 6 fs) ∧ w a2 = some (15, dk_cz G 6 fu) ∧ ∀ j, j < 6 → fu j = bo_i (sn j).isSome ∧ ∀ s, sn j = some s → fs j = nI s ∧ s < 2 ^ 30
theorem sn_at.fr {G : dk_G} {T : Nat → Prop} {w w1 : dk_H} {h : Nat} {sn : Nat → Option Nat} (H : sn_at G w h sn) (hf : dk_fr T w w1) (h1 : ¬ T 13) (h2 : ¬ T 14) (h3 : ¬ T 15) : sn_at G w1 h sn := by
  obtain ⟨a1, a2, fs, fu, g1, g2, g3, g4⟩ := H
  exact ⟨a1, a2, fs, fu, hf _ _ _ g1 h1, hf _ _ _ g2 h2, hf _ _ _ g3 h3, g4⟩
/-- the sequence of the snapshot that an int names -/
def sn_g (sn : Nat → Option Nat) (k : Int32) : Option Nat := if k < 0 ∨ nI 6 ≤ k then none else sn k.toNatClampNeg
theorem sn_g1 {sn : Nat → Option Nat} {k : Int32} (h : k < 0) : sn_g sn k = none := if_pos (Or.inl h)
theorem sn_g2 {sn : Nat → Option Nat} {j : Nat} (h : 6 ≤ j) (hj : j < 2 ^ 31) : sn_g sn (nI j) = none := if_pos (Or.inr ((nI_leI (by decide) hj).mpr h))
theorem sn_g3 {sn : Nat → Option Nat} {j : Nat} (h : j < 6) : sn_g sn (nI j) = sn j := by
  unfold sn_g
  rw [if_neg, nI_clamp (by omega)]
  rintro (z | z)
  · exact nI_pos (by omega) z
  · exact absurd ((nI_leI (by decide) (by omega)).mp z) (by omega)
def sn_ct (sn : Nat → Option Nat) : Nat → Nat
  | 0 => 0
  | n + 1 => sn_ct sn n + (if (sn n).isSome = true then 1 else 0)
theorem sn_ctle (sn : Nat → Option Nat) (n : Nat) : sn_ct sn n ≤ n := by
  induction n with
  | zero => exact Nat.le_refl _
  | succ n ih => simp only [sn_ct]; split <;> omega
/-- a snapshot of a sequence from a on and below b -/
def sn_an (sn : Nat → Option Nat) (a b : Nat) : Nat → Bool
  | 0 => false
  | n + 1 => sn_an sn a b n || (match sn n with
    | none => false
    | some s => decide (a ≤ s) && decide (s < b))
theorem sn_any {sn : Nat → Option Nat} {a b n j s : Nat} (hj : j < n) (hs : sn j = some s) (h1 : a ≤ s) (h2 : s < b) : sn_an sn a b n = true := by
  induction n with
  | zero => exact absurd hj (by omega)
  | succ n ih =>
    by_cases e : j = n
    · subst e
      simp [sn_an, hs, h1, h2]
    · simp [sn_an, ih (by omega)]
theorem sn_an_iff {sn : Nat → Option Nat} {a b n : Nat} : sn_an sn a b n = true ↔ ∃ j s, j < n ∧ sn j = some s ∧ a ≤ s ∧ s < b := by
  constructor
  · intro h
    induction n with
    | zero => simp [sn_an] at h
    | succ n ih =>
      simp only [sn_an, Bool.or_eq_true] at h
      rcases h with h | h
      · obtain ⟨j, s, h1, h2⟩ := ih h
        exact ⟨j, s, by omega, h2⟩
      · cases hs : sn n with
        | none => rw [hs] at h; simp at h
        | some s =>
          rw [hs] at h
          simp at h
          exact ⟨n, s, by omega, hs, h.1, h.2⟩
  · rintro ⟨j, s, h1, h2, h3, h4⟩
    exact sn_any h1 h2 h3 h4
def sn_T : Nat → Prop := fun t => t = 13 ∨ t = 14 ∨ t = 15
theorem sn_no {o : Option Nat} (h : o.isSome = false) : o = none := by
  cases o with
  | none => rfl
  | some z => cases h
