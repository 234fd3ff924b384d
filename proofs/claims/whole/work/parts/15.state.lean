/-! WHAT THE CELLS MEAN: entries, rows (by their lists), and what stays (dk_fr: cells whose tags are not of T stay) -/
def dk_fr (T : Nat → Prop) (w w1 : dk_H) : Prop := ∀ (a t : Nat) (e : va_E), w a = some (t, e) → ¬ T t → w1 a = some (t, e)
theorem dk_fr.rf {T : Nat → Prop} {w : dk_H} : dk_fr T w w := fun _ _ _ h _ => h
theorem dk_fr.tr {T : Nat → Prop} {w w1 w2 : dk_H} (h1 : dk_fr T w w1) (h2 : dk_fr T w1 w2) : dk_fr T w w2 := fun a t e h n => h2 a t e (h1 a t e h n) n
theorem dk_fr.mono {T T' : Nat → Prop} {w w1 : dk_H} (h : dk_fr T w w1) (hT : ∀ t, T t → T' t) : dk_fr T' w w1 := fun a t e q n => h a t e q (fun z => n (hT t z))
theorem dk_fr.up {T : Nat → Prop} {w : dk_H} {a t : Nat} {e : va_E} {x : Option (Nat × va_E)} (ha : w a = some (t, e)) (ht : T t) : dk_fr T w (va_up w a x) := by
  intro b u f hb hu
  rw [dk_un (fun z => ?_)]
  · exact hb
  · subst z
    rw [ha] at hb
    cases hb
    exact hu ht
theorem dk_fr.upN {T : Nat → Prop} {w : dk_H} {a : Nat} {x : Option (Nat × va_E)} (ha : w a = none) : dk_fr T w (va_up w a x) := by
  intro b u f hb _
  rw [dk_un (dk_nn hb ha)]
  exact hb
theorem dk_fr.eq {T : Nat → Prop} {w w1 w2 : dk_H} (h : dk_fr T w w1) (he : w2 = w1) : dk_fr T w w2 := by rw [he]; exact h
abbrev en_c (x : en_T) : va_E := .inr (cx_E, [.int (nI x.1), .int (nI x.2.1), .long x.2.2.1, .int (bo_i x.2.2.2)])
def en_at (w : dk_H) (a : Nat) (x : en_T) : Prop := w a = some (0, en_c x)
theorem en_at.fr {T : Nat → Prop} {w w1 : dk_H} {a : Nat} {x : en_T} (h : en_at w a x) (hf : dk_fr T w w1) (h0 : ¬ T 0) : en_at w1 a x := hf a 0 _ h h0
abbrev rw_c (sl n : Nat) : va_E := .inr (cx_R, [.ref sl, .int (nI n)])
/-- the first places of an array hold these entries -/
def ra_ok (w : dk_H) (f : Nat → Option Nat) (L : List en_T) : Prop := ∀ (i : Nat) (x : en_T), L[i]? = some x → ∃ a, f i = some a ∧ en_at w a x
theorem ra_ok.fr {T : Nat → Prop} {w w1 : dk_H} {f : Nat → Option Nat} {L : List en_T} (h : ra_ok w f L) (hf : dk_fr T w w1) (h0 : ¬ T 0) : ra_ok w1 f L := by
  intro i x hx
  obtain ⟨a, h1, h2⟩ := h i x hx
  exact ⟨a, h1, h2.fr hf h0⟩
theorem ra_ok.nil {w : dk_H} {f : Nat → Option Nat} : ra_ok w f [] := fun i x h => by simp at h
theorem ra_ok.app {w : dk_H} {f : Nat → Option Nat} {L : List en_T} {a : Nat} {x : en_T} (h : ra_ok w f L) (ha : en_at w a x) : ra_ok w (va_up f L.length (some a)) (L ++ [x]) := by
  intro i y hy
  by_cases hi : i < L.length
  · rw [List.getElem?_append_left hi] at hy
    obtain ⟨b, h1, h2⟩ := h i y hy
    exact ⟨b, by rw [dk_un (by omega)]; exact h1, h2⟩
  · rw [List.getElem?_append_right (by omega)] at hy
    have hz : i - L.length < 1 := (List.getElem?_eq_some_iff.mp hy).1
    have e : i = L.length := by omega
    subst e
    rw [Nat.sub_self] at hy
    cases hy
    exact ⟨a, dk_us, ha⟩
theorem ra_ok.take {w : dk_H} {f : Nat → Option Nat} {L : List en_T} (h : ra_ok w f L) (n : Nat) : ra_ok w f (L.take n) := by
  intro i x hx
  rw [List.getElem?_take] at hx
  split at hx
  · exact h i x hx
  · cases hx
/-- a row of at most cap entries -/
def rw_at (G : dk_G) (w : dk_H) (h t0 t1 cap : Nat) (L : List en_T) : Prop := ∃ (sl : Nat) (f : Nat → Option Nat), w h = some (t0, rw_c sl L.length) ∧ w sl = some (t1, dk_ca G 3 cap f) ∧ L.length ≤ cap ∧ cap ≤ 1024 ∧ ra_ok w f L
theorem rw_at.fr {G : dk_G} {T : Nat → Prop} {w w1 : dk_H} {h t0 t1 cap : Nat} {L : List en_T} (H : rw_at G w h t0 t1 cap L) (hf : dk_fr T w w1) (h0 : ¬ T 0) (ht0 : ¬ T t0) (ht1 : ¬ T t1) : rw_at G w1 h t0 t1 cap L := by
  obtain ⟨sl, f, h1, h2, h3, h4, h5⟩ := H
  exact ⟨sl, f, hf _ _ _ h1 ht0, hf _ _ _ h2 ht1, h3, h4, h5.fr hf h0⟩
