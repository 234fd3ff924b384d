/-! THE REFERENCE'S STATE: its ints, and its arrays as functions. Tags 100 (the object), 101 .. 114. rI: a run's number, or -1. -/
def rI : Option Nat → Int32
  | none => -1
  | some r => nI r
theorem rI_neg {a : Option Nat} (ha : ∀ r, a = some r → r < 2 ^ 31) : rI a < 0 ↔ a = none := by
  cases a with
  | none => exact ⟨fun _ => rfl, fun _ => by decide⟩
  | some r => exact ⟨fun h => absurd h (nI_pos (ha r rfl)), fun h => by cases h⟩
theorem rI_eq {a b : Option Nat} (ha : ∀ r, a = some r → r < 2 ^ 31) (hb : ∀ r, b = some r → r < 2 ^ 31) : rI a = rI b ↔ a = b := by
  cases a with
  | none =>
    cases b with
    | none => exact ⟨fun _ => rfl, fun _ => rfl⟩
    | some r => exact ⟨fun h => absurd (show nI r < 0 by rw [← show rI (some r) = nI r from rfl, ← h]; decide) (nI_pos (hb r rfl)), fun h => by cases h⟩
  | some q =>
    cases b with
    | none => exact ⟨fun h => absurd (show nI q < 0 by rw [← show rI (some q) = nI q from rfl, h]; decide) (nI_pos (ha q rfl)), fun h => by cases h⟩
    | some r => exact ⟨fun h => by rw [(nI_eq (ha q rfl) (hb r rfl)).mp h], fun h => by rw [h]⟩
theorem up_nI {X : Nat → Nat} {j v : Nat} : upd (fun i9 => nI (X i9)) j (nI v) = fun i9 => nI (va_up X j v i9) := by
  funext q
  by_cases e : q = j
  · subst e; rw [pk_us, dk_us]
  · rw [pk_un e, dk_un e]
theorem up_rI {X : Nat → Option Nat} {j : Nat} {v : Option Nat} : upd (fun i9 => rI (X i9)) j (rI v) = fun i9 => rI (va_up X j v i9) := by
  funext q
  by_cases e : q = j
  · subst e; rw [pk_us, dk_us]
  · rw [pk_un e, dk_un e]
theorem up_bo {X : Nat → Bool} {j : Nat} {v : Bool} : upd (fun i9 => bo_i (X i9)) j (bo_i v) = fun i9 => bo_i (va_up X j v i9) := by
  funext q
  by_cases e : q = j
  · subst e; rw [pk_us, dk_us]
  · rw [pk_un e, dk_un e]
theorem up_L {X : Nat → Int64} {j : Nat} {v : Int64} : vp_updL (fun i9 => X i9) j v = fun i9 => va_up X j v i9 := by
  funext q
  by_cases e : q = j
  · subst e; rw [pk_uLs, dk_us]
  · rw [pk_uLn e, dk_un e]
abbrev md_S : Type := Nat × Nat × Nat × Nat × Nat × (Option Nat) × Nat × Nat × (Nat → Nat) × (Nat → Nat) × (Nat → Option Nat) × (Nat → Option Nat) × (Nat → Nat) × (Nat → Nat) × (Nat → Nat) × (Nat → Int64) × (Nat → Int64) × (Nat → Bool) × (Nat → Bool) × (Nat → Bool) × (Nat → Bool) × (Nat → Bool)
abbrev md_S.er (μ : md_S) : Nat := μ.1
abbrev md_S.er' (μ : md_S) (y : Nat) : md_S := (y, μ.2)
abbrev md_S.n (μ : md_S) : Nat := μ.2.1
abbrev md_S.n' (μ : md_S) (y : Nat) : md_S := (μ.1, y, μ.2.2)
abbrev md_S.sq (μ : md_S) : Nat := μ.2.2.1
abbrev md_S.sq' (μ : md_S) (y : Nat) : md_S := (μ.1, μ.2.1, y, μ.2.2.2)
abbrev md_S.sf (μ : md_S) : Nat := μ.2.2.2.1
abbrev md_S.sf' (μ : md_S) (y : Nat) : md_S := (μ.1, μ.2.1, μ.2.2.1, y, μ.2.2.2.2)
abbrev md_S.rs (μ : md_S) : Nat := μ.2.2.2.2.1
abbrev md_S.rs' (μ : md_S) (y : Nat) : md_S := (μ.1, μ.2.1, μ.2.2.1, μ.2.2.2.1, y, μ.2.2.2.2.2)
abbrev md_S.ba (μ : md_S) : Option Nat := μ.2.2.2.2.2.1
abbrev md_S.ba' (μ : md_S) (y : Option Nat) : md_S := (μ.1, μ.2.1, μ.2.2.1, μ.2.2.2.1, μ.2.2.2.2.1, y, μ.2.2.2.2.2.2)
abbrev md_S.pr (μ : md_S) : Nat := μ.2.2.2.2.2.2.1
abbrev md_S.pr' (μ : md_S) (y : Nat) : md_S := (μ.1, μ.2.1, μ.2.2.1, μ.2.2.2.1, μ.2.2.2.2.1, μ.2.2.2.2.2.1, y, μ.2.2.2.2.2.2.2)
abbrev md_S.mi (μ : md_S) : Nat := μ.2.2.2.2.2.2.2.1
abbrev md_S.mi' (μ : md_S) (y : Nat) : md_S := (μ.1, μ.2.1, μ.2.2.1, μ.2.2.2.1, μ.2.2.2.2.1, μ.2.2.2.2.2.1, μ.2.2.2.2.2.2.1, y, μ.2.2.2.2.2.2.2.2)
abbrev md_S.kf (μ : md_S) : Nat → Nat := μ.2.2.2.2.2.2.2.2.1
abbrev md_S.kf' (μ : md_S) (y : Nat → Nat) : md_S := (μ.1, μ.2.1, μ.2.2.1, μ.2.2.2.1, μ.2.2.2.2.1, μ.2.2.2.2.2.1, μ.2.2.2.2.2.2.1, μ.2.2.2.2.2.2.2.1, y, μ.2.2.2.2.2.2.2.2.2)
abbrev md_S.nf (μ : md_S) : Nat → Nat := μ.2.2.2.2.2.2.2.2.2.1
abbrev md_S.nf' (μ : md_S) (y : Nat → Nat) : md_S := (μ.1, μ.2.1, μ.2.2.1, μ.2.2.2.1, μ.2.2.2.2.1, μ.2.2.2.2.2.1, μ.2.2.2.2.2.2.1, μ.2.2.2.2.2.2.2.1, μ.2.2.2.2.2.2.2.2.1, y, μ.2.2.2.2.2.2.2.2.2.2)
abbrev md_S.rf (μ : md_S) : Nat → Option Nat := μ.2.2.2.2.2.2.2.2.2.2.1
abbrev md_S.rf' (μ : md_S) (y : Nat → Option Nat) : md_S := (μ.1, μ.2.1, μ.2.2.1, μ.2.2.2.1, μ.2.2.2.2.1, μ.2.2.2.2.2.1, μ.2.2.2.2.2.2.1, μ.2.2.2.2.2.2.2.1, μ.2.2.2.2.2.2.2.2.1, μ.2.2.2.2.2.2.2.2.2.1, y, μ.2.2.2.2.2.2.2.2.2.2.2)
abbrev md_S.lf (μ : md_S) : Nat → Option Nat := μ.2.2.2.2.2.2.2.2.2.2.2.1
abbrev md_S.lf' (μ : md_S) (y : Nat → Option Nat) : md_S := (μ.1, μ.2.1, μ.2.2.1, μ.2.2.2.1, μ.2.2.2.2.1, μ.2.2.2.2.2.1, μ.2.2.2.2.2.2.1, μ.2.2.2.2.2.2.2.1, μ.2.2.2.2.2.2.2.2.1, μ.2.2.2.2.2.2.2.2.2.1, μ.2.2.2.2.2.2.2.2.2.2.1, y, μ.2.2.2.2.2.2.2.2.2.2.2.2)
abbrev md_S.sv (μ : md_S) : Nat → Nat := μ.2.2.2.2.2.2.2.2.2.2.2.2.1
abbrev md_S.sv' (μ : md_S) (y : Nat → Nat) : md_S := (μ.1, μ.2.1, μ.2.2.1, μ.2.2.2.1, μ.2.2.2.2.1, μ.2.2.2.2.2.1, μ.2.2.2.2.2.2.1, μ.2.2.2.2.2.2.2.1, μ.2.2.2.2.2.2.2.2.1, μ.2.2.2.2.2.2.2.2.2.1, μ.2.2.2.2.2.2.2.2.2.2.1, μ.2.2.2.2.2.2.2.2.2.2.2.1, y, μ.2.2.2.2.2.2.2.2.2.2.2.2.2)
abbrev md_S.bk (μ : md_S) : Nat → Nat := μ.2.2.2.2.2.2.2.2.2.2.2.2.2.1
abbrev md_S.bk' (μ : md_S) (y : Nat → Nat) : md_S := (μ.1, μ.2.1, μ.2.2.1, μ.2.2.2.1, μ.2.2.2.2.1, μ.2.2.2.2.2.1, μ.2.2.2.2.2.2.1, μ.2.2.2.2.2.2.2.1, μ.2.2.2.2.2.2.2.2.1, μ.2.2.2.2.2.2.2.2.2.1, μ.2.2.2.2.2.2.2.2.2.2.1, μ.2.2.2.2.2.2.2.2.2.2.2.1, μ.2.2.2.2.2.2.2.2.2.2.2.2.1, y, μ.2.2.2.2.2.2.2.2.2.2.2.2.2.2)
abbrev md_S.od (μ : md_S) : Nat → Nat := μ.2.2.2.2.2.2.2.2.2.2.2.2.2.2.1
abbrev md_S.od' (μ : md_S) (y : Nat → Nat) : md_S := (μ.1, μ.2.1, μ.2.2.1, μ.2.2.2.1, μ.2.2.2.2.1, μ.2.2.2.2.2.1, μ.2.2.2.2.2.2.1, μ.2.2.2.2.2.2.2.1, μ.2.2.2.2.2.2.2.2.1, μ.2.2.2.2.2.2.2.2.2.1, μ.2.2.2.2.2.2.2.2.2.2.1, μ.2.2.2.2.2.2.2.2.2.2.2.1, μ.2.2.2.2.2.2.2.2.2.2.2.2.1, μ.2.2.2.2.2.2.2.2.2.2.2.2.2.1, y, μ.2.2.2.2.2.2.2.2.2.2.2.2.2.2.2)
abbrev md_S.vf (μ : md_S) : Nat → Int64 := μ.2.2.2.2.2.2.2.2.2.2.2.2.2.2.2.1
abbrev md_S.vf' (μ : md_S) (y : Nat → Int64) : md_S := (μ.1, μ.2.1, μ.2.2.1, μ.2.2.2.1, μ.2.2.2.2.1, μ.2.2.2.2.2.1, μ.2.2.2.2.2.2.1, μ.2.2.2.2.2.2.2.1, μ.2.2.2.2.2.2.2.2.1, μ.2.2.2.2.2.2.2.2.2.1, μ.2.2.2.2.2.2.2.2.2.2.1, μ.2.2.2.2.2.2.2.2.2.2.2.1, μ.2.2.2.2.2.2.2.2.2.2.2.2.1, μ.2.2.2.2.2.2.2.2.2.2.2.2.2.1, μ.2.2.2.2.2.2.2.2.2.2.2.2.2.2.1, y, μ.2.2.2.2.2.2.2.2.2.2.2.2.2.2.2.2)
abbrev md_S.bv (μ : md_S) : Nat → Int64 := μ.2.2.2.2.2.2.2.2.2.2.2.2.2.2.2.2.1
abbrev md_S.bv' (μ : md_S) (y : Nat → Int64) : md_S := (μ.1, μ.2.1, μ.2.2.1, μ.2.2.2.1, μ.2.2.2.2.1, μ.2.2.2.2.2.1, μ.2.2.2.2.2.2.1, μ.2.2.2.2.2.2.2.1, μ.2.2.2.2.2.2.2.2.1, μ.2.2.2.2.2.2.2.2.2.1, μ.2.2.2.2.2.2.2.2.2.2.1, μ.2.2.2.2.2.2.2.2.2.2.2.1, μ.2.2.2.2.2.2.2.2.2.2.2.2.1, μ.2.2.2.2.2.2.2.2.2.2.2.2.2.1, μ.2.2.2.2.2.2.2.2.2.2.2.2.2.2.1, μ.2.2.2.2.2.2.2.2.2.2.2.2.2.2.2.1, y, μ.2.2.2.2.2.2.2.2.2.2.2.2.2.2.2.2.2)
abbrev md_S.df (μ : md_S) : Nat → Bool := μ.2.2.2.2.2.2.2.2.2.2.2.2.2.2.2.2.2.1
abbrev md_S.df' (μ : md_S) (y : Nat → Bool) : md_S := (μ.1, μ.2.1, μ.2.2.1, μ.2.2.2.1, μ.2.2.2.2.1, μ.2.2.2.2.2.1, μ.2.2.2.2.2.2.1, μ.2.2.2.2.2.2.2.1, μ.2.2.2.2.2.2.2.2.1, μ.2.2.2.2.2.2.2.2.2.1, μ.2.2.2.2.2.2.2.2.2.2.1, μ.2.2.2.2.2.2.2.2.2.2.2.1, μ.2.2.2.2.2.2.2.2.2.2.2.2.1, μ.2.2.2.2.2.2.2.2.2.2.2.2.2.1, μ.2.2.2.2.2.2.2.2.2.2.2.2.2.2.1, μ.2.2.2.2.2.2.2.2.2.2.2.2.2.2.2.1, μ.2.2.2.2.2.2.2.2.2.2.2.2.2.2.2.2.1, y, μ.2.2.2.2.2.2.2.2.2.2.2.2.2.2.2.2.2.2)
abbrev md_S.ss (μ : md_S) : Nat → Bool := μ.2.2.2.2.2.2.2.2.2.2.2.2.2.2.2.2.2.2.1
abbrev md_S.ss' (μ : md_S) (y : Nat → Bool) : md_S := (μ.1, μ.2.1, μ.2.2.1, μ.2.2.2.1, μ.2.2.2.2.1, μ.2.2.2.2.2.1, μ.2.2.2.2.2.2.1, μ.2.2.2.2.2.2.2.1, μ.2.2.2.2.2.2.2.2.1, μ.2.2.2.2.2.2.2.2.2.1, μ.2.2.2.2.2.2.2.2.2.2.1, μ.2.2.2.2.2.2.2.2.2.2.2.1, μ.2.2.2.2.2.2.2.2.2.2.2.2.1, μ.2.2.2.2.2.2.2.2.2.2.2.2.2.1, μ.2.2.2.2.2.2.2.2.2.2.2.2.2.2.1, μ.2.2.2.2.2.2.2.2.2.2.2.2.2.2.2.1, μ.2.2.2.2.2.2.2.2.2.2.2.2.2.2.2.2.1, μ.2.2.2.2.2.2.2.2.2.2.2.2.2.2.2.2.2.1, y, μ.2.2.2.2.2.2.2.2.2.2.2.2.2.2.2.2.2.2.2)
abbrev md_S.bd (μ : md_S) : Nat → Bool := μ.2.2.2.2.2.2.2.2.2.2.2.2.2.2.2.2.2.2.2.1
abbrev md_S.bd' (μ : md_S) (y : Nat → Bool) : md_S := (μ.1, μ.2.1, μ.2.2.1, μ.2.2.2.1, μ.2.2.2.2.1, μ.2.2.2.2.2.1, μ.2.2.2.2.2.2.1, μ.2.2.2.2.2.2.2.1, μ.2.2.2.2.2.2.2.2.1, μ.2.2.2.2.2.2.2.2.2.1, μ.2.2.2.2.2.2.2.2.2.2.1, μ.2.2.2.2.2.2.2.2.2.2.2.1, μ.2.2.2.2.2.2.2.2.2.2.2.2.1, μ.2.2.2.2.2.2.2.2.2.2.2.2.2.1, μ.2.2.2.2.2.2.2.2.2.2.2.2.2.2.1, μ.2.2.2.2.2.2.2.2.2.2.2.2.2.2.2.1, μ.2.2.2.2.2.2.2.2.2.2.2.2.2.2.2.2.1, μ.2.2.2.2.2.2.2.2.2.2.2.2.2.2.2.2.2.1, μ.2.2.2.2.2.2.2.2.2.2.2.2.2.2.2.2.2.2.1, y, μ.2.2.2.2.2.2.2.2.2.2.2.2.2.2.2.2.2.2.2.2)
abbrev md_S.ks (μ : md_S) : Nat → Bool := μ.2.2.2.2.2.2.2.2.2.2.2.2.2.2.2.2.2.2.2.2.1
abbrev md_S.ks' (μ : md_S) (y : Nat → Bool) : md_S := (μ.1, μ.2.1, μ.2.2.1, μ.2.2.2.1, μ.2.2.2.2.1, μ.2.2.2.2.2.1, μ.2.2.2.2.2.2.1, μ.2.2.2.2.2.2.2.1, μ.2.2.2.2.2.2.2.2.1, μ.2.2.2.2.2.2.2.2.2.1, μ.2.2.2.2.2.2.2.2.2.2.1, μ.2.2.2.2.2.2.2.2.2.2.2.1, μ.2.2.2.2.2.2.2.2.2.2.2.2.1, μ.2.2.2.2.2.2.2.2.2.2.2.2.2.1, μ.2.2.2.2.2.2.2.2.2.2.2.2.2.2.1, μ.2.2.2.2.2.2.2.2.2.2.2.2.2.2.2.1, μ.2.2.2.2.2.2.2.2.2.2.2.2.2.2.2.2.1, μ.2.2.2.2.2.2.2.2.2.2.2.2.2.2.2.2.2.1, μ.2.2.2.2.2.2.2.2.2.2.2.2.2.2.2.2.2.2.1, μ.2.2.2.2.2.2.2.2.2.2.2.2.2.2.2.2.2.2.2.1, y, μ.2.2.2.2.2.2.2.2.2.2.2.2.2.2.2.2.2.2.2.2.2)
abbrev md_S.bt (μ : md_S) : Nat → Bool := μ.2.2.2.2.2.2.2.2.2.2.2.2.2.2.2.2.2.2.2.2.2
abbrev md_S.bt' (μ : md_S) (y : Nat → Bool) : md_S := (μ.1, μ.2.1, μ.2.2.1, μ.2.2.2.1, μ.2.2.2.2.1, μ.2.2.2.2.2.1, μ.2.2.2.2.2.2.1, μ.2.2.2.2.2.2.2.1, μ.2.2.2.2.2.2.2.2.1, μ.2.2.2.2.2.2.2.2.2.1, μ.2.2.2.2.2.2.2.2.2.2.1, μ.2.2.2.2.2.2.2.2.2.2.2.1, μ.2.2.2.2.2.2.2.2.2.2.2.2.1, μ.2.2.2.2.2.2.2.2.2.2.2.2.2.1, μ.2.2.2.2.2.2.2.2.2.2.2.2.2.2.1, μ.2.2.2.2.2.2.2.2.2.2.2.2.2.2.2.1, μ.2.2.2.2.2.2.2.2.2.2.2.2.2.2.2.2.1, μ.2.2.2.2.2.2.2.2.2.2.2.2.2.2.2.2.2.1, μ.2.2.2.2.2.2.2.2.2.2.2.2.2.2.2.2.2.2.1, μ.2.2.2.2.2.2.2.2.2.2.2.2.2.2.2.2.2.2.2.1, μ.2.2.2.2.2.2.2.2.2.2.2.2.2.2.2.2.2.2.2.2.1, y)
abbrev md_D : Type := Nat × Nat × Nat × Nat × Nat × Nat × Nat × Nat × Nat × Nat × Nat × Nat × Nat × Nat
abbrev md_D.kf (D : md_D) : Nat := D.1
abbrev md_D.nf (D : md_D) : Nat := D.2.1
abbrev md_D.rf (D : md_D) : Nat := D.2.2.1
abbrev md_D.lf (D : md_D) : Nat := D.2.2.2.1
abbrev md_D.sv (D : md_D) : Nat := D.2.2.2.2.1
abbrev md_D.bk (D : md_D) : Nat := D.2.2.2.2.2.1
abbrev md_D.od (D : md_D) : Nat := D.2.2.2.2.2.2.1
abbrev md_D.vf (D : md_D) : Nat := D.2.2.2.2.2.2.2.1
abbrev md_D.bv (D : md_D) : Nat := D.2.2.2.2.2.2.2.2.1
abbrev md_D.df (D : md_D) : Nat := D.2.2.2.2.2.2.2.2.2.1
abbrev md_D.ss (D : md_D) : Nat := D.2.2.2.2.2.2.2.2.2.2.1
abbrev md_D.bd (D : md_D) : Nat := D.2.2.2.2.2.2.2.2.2.2.2.1
abbrev md_D.ks (D : md_D) : Nat := D.2.2.2.2.2.2.2.2.2.2.2.2.1
abbrev md_D.bt (D : md_D) : Nat := D.2.2.2.2.2.2.2.2.2.2.2.2.2
abbrev md_c (D : md_D) (μ : md_S) : va_E := .inr (cx_M, [.int (nI μ.er), .int (nI μ.n), .int (nI μ.sq), .int (nI μ.sf), .int (nI μ.rs), .int (rI μ.ba), .int (nI μ.pr), .int (nI μ.mi), .ref D.kf, .ref D.nf, .ref D.rf, .ref D.lf, .ref D.sv, .ref D.bk, .ref D.od, .ref D.vf, .ref D.bv, .ref D.df, .ref D.ss, .ref D.bd, .ref D.ks, .ref D.bt])
def md_at (G : dk_G) (w : dk_H) (h : Nat) (D : md_D) (μ : md_S) : Prop := (w h = some (100, md_c D μ)) ∧ (w D.kf = some (101, dk_ci G 700 (fun i9 => nI (μ.kf i9)))) ∧ (w D.nf = some (102, dk_ci G 700 (fun i9 => nI (μ.nf i9)))) ∧ (w D.rf = some (103, dk_ci G 700 (fun i9 => rI (μ.rf i9)))) ∧ (w D.lf = some (104, dk_ci G 5000 (fun i9 => rI (μ.lf i9)))) ∧ (w D.sv = some (105, dk_ci G 6 (fun i9 => nI (μ.sv i9)))) ∧ (w D.bk = some (106, dk_ci G 16 (fun i9 => nI (μ.bk i9)))) ∧ (w D.od = some (107, dk_ci G 700 (fun i9 => nI (μ.od i9)))) ∧ (w D.vf = some (108, dk_cl G 700 (fun i9 => μ.vf i9))) ∧ (w D.bv = some (109, dk_cl G 16 (fun i9 => μ.bv i9))) ∧ (w D.df = some (110, dk_cz G 700 (fun i9 => bo_i (μ.df i9)))) ∧ (w D.ss = some (111, dk_cz G 6 (fun i9 => bo_i (μ.ss i9)))) ∧ (w D.bd = some (112, dk_cz G 16 (fun i9 => bo_i (μ.bd i9)))) ∧ (w D.ks = some (113, dk_cz G 700 (fun i9 => bo_i (μ.ks i9)))) ∧ (w D.bt = some (114, dk_cz G 6000 (fun i9 => bo_i (μ.bt i9))))
theorem md_at.o {G : dk_G} {w : dk_H} {h : Nat} {D : md_D} {μ : md_S} (H : md_at G w h D μ) : w h = some (100, md_c D μ) := H.1
theorem md_at.kf {G : dk_G} {w : dk_H} {h : Nat} {D : md_D} {μ : md_S} (H : md_at G w h D μ) : w D.kf = some (101, dk_ci G 700 (fun i9 => nI (μ.kf i9))) := H.2.1
theorem md_at.nf {G : dk_G} {w : dk_H} {h : Nat} {D : md_D} {μ : md_S} (H : md_at G w h D μ) : w D.nf = some (102, dk_ci G 700 (fun i9 => nI (μ.nf i9))) := H.2.2.1
theorem md_at.rf {G : dk_G} {w : dk_H} {h : Nat} {D : md_D} {μ : md_S} (H : md_at G w h D μ) : w D.rf = some (103, dk_ci G 700 (fun i9 => rI (μ.rf i9))) := H.2.2.2.1
theorem md_at.lf {G : dk_G} {w : dk_H} {h : Nat} {D : md_D} {μ : md_S} (H : md_at G w h D μ) : w D.lf = some (104, dk_ci G 5000 (fun i9 => rI (μ.lf i9))) := H.2.2.2.2.1
theorem md_at.sv {G : dk_G} {w : dk_H} {h : Nat} {D : md_D} {μ : md_S} (H : md_at G w h D μ) : w D.sv = some (105, dk_ci G 6 (fun i9 => nI (μ.sv i9))) := H.2.2.2.2.2.1
theorem md_at.bk {G : dk_G} {w : dk_H} {h : Nat} {D : md_D} {μ : md_S} (H : md_at G w h D μ) : w D.bk = some (106, dk_ci G 16 (fun i9 => nI (μ.bk i9))) := H.2.2.2.2.2.2.1
theorem md_at.od {G : dk_G} {w : dk_H} {h : Nat} {D : md_D} {μ : md_S} (H : md_at G w h D μ) : w D.od = some (107, dk_ci G 700 (fun i9 => nI (μ.od i9))) := H.2.2.2.2.2.2.2.1
theorem md_at.vf {G : dk_G} {w : dk_H} {h : Nat} {D : md_D} {μ : md_S} (H : md_at G w h D μ) : w D.vf = some (108, dk_cl G 700 (fun i9 => μ.vf i9)) := H.2.2.2.2.2.2.2.2.1
theorem md_at.bv {G : dk_G} {w : dk_H} {h : Nat} {D : md_D} {μ : md_S} (H : md_at G w h D μ) : w D.bv = some (109, dk_cl G 16 (fun i9 => μ.bv i9)) := H.2.2.2.2.2.2.2.2.2.1
theorem md_at.df {G : dk_G} {w : dk_H} {h : Nat} {D : md_D} {μ : md_S} (H : md_at G w h D μ) : w D.df = some (110, dk_cz G 700 (fun i9 => bo_i (μ.df i9))) := H.2.2.2.2.2.2.2.2.2.2.1
theorem md_at.ss {G : dk_G} {w : dk_H} {h : Nat} {D : md_D} {μ : md_S} (H : md_at G w h D μ) : w D.ss = some (111, dk_cz G 6 (fun i9 => bo_i (μ.ss i9))) := H.2.2.2.2.2.2.2.2.2.2.2.1
theorem md_at.bd {G : dk_G} {w : dk_H} {h : Nat} {D : md_D} {μ : md_S} (H : md_at G w h D μ) : w D.bd = some (112, dk_cz G 16 (fun i9 => bo_i (μ.bd i9))) := H.2.2.2.2.2.2.2.2.2.2.2.2.1
theorem md_at.ks {G : dk_G} {w : dk_H} {h : Nat} {D : md_D} {μ : md_S} (H : md_at G w h D μ) : w D.ks = some (113, dk_cz G 700 (fun i9 => bo_i (μ.ks i9))) := H.2.2.2.2.2.2.2.2.2.2.2.2.2.1
theorem md_at.bt {G : dk_G} {w : dk_H} {h : Nat} {D : md_D} {μ : md_S} (H : md_at G w h D μ) : w D.bt = some (114, dk_cz G 6000 (fun i9 => bo_i (μ.bt i9))) := H.2.2.2.2.2.2.2.2.2.2.2.2.2.2
def md_T : Nat → Prop := fun t => 100 ≤ t ∧ t ≤ 114
theorem md_at.fr {G : dk_G} {T : Nat → Prop} {w w1 : dk_H} {h : Nat} {D : md_D} {μ : md_S} (H : md_at G w h D μ) (hf : dk_fr T w w1) (hT : ∀ t, 100 ≤ t → ¬ T t) : md_at G w1 h D μ := ⟨hf _ _ _ H.o (hT _ (by decide)), hf _ _ _ H.kf (hT _ (by decide)), hf _ _ _ H.nf (hT _ (by decide)), hf _ _ _ H.rf (hT _ (by decide)), hf _ _ _ H.lf (hT _ (by decide)), hf _ _ _ H.sv (hT _ (by decide)), hf _ _ _ H.bk (hT _ (by decide)), hf _ _ _ H.od (hT _ (by decide)), hf _ _ _ H.vf (hT _ (by decide)), hf _ _ _ H.bv (hT _ (by decide)), hf _ _ _ H.df (hT _ (by decide)), hf _ _ _ H.ss (hT _ (by decide)), hf _ _ _ H.bd (hT _ (by decide)), hf _ _ _ H.ks (hT _ (by decide)), hf _ _ _ H.bt (hT _ (by decide))⟩
/-- the numbers in the arrays are small (also behind their ends) -/
def md_ok (μ : md_S) : Prop := (∀ i, μ.kf i < 1024) ∧ (∀ i, μ.nf i < 2 ^ 30) ∧ (∀ i r, μ.rf i = some r → r < 5000) ∧ (∀ r l, μ.lf r = some l → l < 6) ∧ μ.n ≤ 640 ∧ μ.rs < 4000 ∧ μ.sq < 2 ^ 30 ∧ (∀ j, μ.sv j < 2 ^ 30) ∧ (∀ b, μ.ba = some b → b ≤ 16) ∧ (∀ j, μ.bk j < 1024) ∧ μ.er < 3
/-- how many below n have the mark -/
def ct_f (p : Nat → Bool) : Nat → Nat
  | 0 => 0
  | n + 1 => ct_f p n + if p n = true then 1 else 0
theorem ct_le (p : Nat → Bool) (n : Nat) : ct_f p n ≤ n := by
  induction n with
  | zero => exact Nat.le_refl _
  | succ n ih => simp only [ct_f]; split <;> omega
theorem ct_y {p : Nat → Bool} {n : Nat} (h : p n = true) : ct_f p (n + 1) = ct_f p n + 1 := by simp [ct_f, h]
theorem ct_n {p : Nat → Bool} {n : Nat} (h : p n = false) : ct_f p (n + 1) = ct_f p n := by simp [ct_f, h]
