/-! MERGING, what is kept of a level -/
theorem so_at {A : List en_T} (h : so_ok A) {i j : Nat} {x y : en_T} (hi : A[i]? = some x) (hj : A[j]? = some y) (hij : i < j) : en_b x y = true := by
  obtain ⟨hi1, hi2⟩ := List.getElem?_eq_some_iff.mp hi
  obtain ⟨hj1, hj2⟩ := List.getElem?_eq_some_iff.mp hj
  have := List.pairwise_iff_getElem.mp h i j hi1 hj1 hij
  rw [hi2, hj2] at this
  exact this
/-- seen: the newest of its key, or by a snapshot from before the next newer one -/
def sv_x (sn : Nat → Option Nat) (A : List en_T) (x : en_T) : Prop := (∀ y ∈ A, y.1 = x.1 → y.2.1 ≤ x.2.1) ∨ ∃ i s, i < 6 ∧ sn i = some s ∧ x.2.1 ≤ s ∧ ∀ y ∈ A, y.1 = x.1 → x.2.1 < y.2.1 → s < y.2.1
/-- a number that is seen is at it or behind it -/
def dv_x (sn : Nat → Option Nat) (A : List en_T) (x : en_T) : Prop := ∃ y ∈ A, sv_x sn A y ∧ y.1 = x.1 ∧ y.2.1 ≤ x.2.1 ∧ y.2.2.2 = false
theorem se_sv {sn : Nat → Option Nat} {A : List en_T} (h : so_ok A) {i : Nat} {x : en_T} (hi : A[i]? = some x) : se_o sn x (pv_o A i) = true ↔ sv_x sn A x := by
  have key : ∀ y ∈ A, y.1 = x.1 → x.2.1 < y.2.1 → ∃ p, p < i ∧ A[p]? = some y := by
    intro y hy hk hlt
    obtain ⟨p, hp⟩ := List.getElem?_of_mem hy
    refine ⟨p, ?_, hp⟩
    rcases Nat.lt_trichotomy p i with h1 | h1 | h1
    · exact h1
    · subst h1
      rw [hi] at hp
      cases hp
      omega
    · have := (en_b_iff _ _).mp (so_at h hi hp h1)
      omega
  cases i with
  | zero =>
    refine ⟨fun _ => Or.inl (fun y hy hk => ?_), fun _ => rfl⟩
    rcases Nat.lt_or_ge x.2.1 y.2.1 with h1 | h1
    · obtain ⟨p, hp, -⟩ := key y hy hk h1
      omega
    · exact h1
  | succ m =>
    have hm : m < A.length := by have := (List.getElem?_eq_some_iff.mp hi).1; omega
    obtain ⟨z, hz⟩ : ∃ z, A[m]? = some z := ⟨_, List.getElem?_eq_getElem hm⟩
    have hzx := (en_b_iff _ _).mp (so_at h hz hi (by omega))
    have e : pv_o A (m + 1) = some z := hz
    rw [e]
    by_cases hk : x.1 = z.1
    · have e2 : se_o sn x (some z) = sn_an sn x.2.1 z.2.1 6 := if_pos hk
      rw [e2, sn_an_iff]
      constructor
      · rintro ⟨j, s, h1, h2, h3, h4⟩
        refine Or.inr ⟨j, s, h1, h2, h3, fun y hy hky hlt => ?_⟩
        obtain ⟨p, hp, hpy⟩ := key y hy hky hlt
        by_cases e3 : p = m
        · subst e3
          rw [hz] at hpy
          cases hpy
          exact h4
        · have := (en_b_iff _ _).mp (so_at h hpy hz (by omega))
          omega
      · rintro (h1 | ⟨j, s, h1, h2, h3, h4⟩)
        · have := h1 z (List.mem_of_getElem? hz) hk.symm
          omega
        · exact ⟨j, s, h1, h2, h3, h4 z (List.mem_of_getElem? hz) hk.symm (by omega)⟩
    · have e2 : se_o sn x (some z) = true := if_neg hk
      rw [e2]
      refine ⟨fun _ => Or.inl (fun y hy hky => ?_), fun _ => rfl⟩
      rcases Nat.lt_or_ge x.2.1 y.2.1 with h1 | h1
      · obtain ⟨p, hp, hpy⟩ := key y hy hky h1
        exfalso
        by_cases e3 : p = m
        · subst e3
          rw [hz] at hpy
          cases hpy
          omega
        · have := (en_b_iff _ _).mp (so_at h hpy hz (by omega))
          omega
      · exact h1
theorem cd_sp (K : List en_T) : ∀ n, n ≤ K.length → (∀ a y, cd_L K n ≤ a → a < n → K[a]? = some y → y.2.2.2 = true) ∧ (0 < cd_L K n → ∃ y, K[cd_L K n - 1]? = some y ∧ y.2.2.2 = false)
  | 0, _ => ⟨fun a y _ h => absurd h (by omega), fun h => absurd h (by simp [cd_L])⟩
  | n + 1, hn => by
    obtain ⟨h1, h2⟩ := cd_sp K n (by omega)
    have hz : K[n]? = some K[n] := List.getElem?_eq_getElem (by omega)
    have e : K.getD n (0, 0, 0, false) = K[n] := by rw [List.getD_eq_getElem?_getD, hz]; rfl
    unfold cd_L
    rw [e]
    by_cases hd : K[n].2.2.2 = true
    · rw [if_pos hd]
      refine ⟨fun a y ha hb hy => ?_, h2⟩
      by_cases e3 : a = n
      · subst e3
        rw [hz] at hy
        cases hy
        exact hd
      · exact h1 a y ha (by omega) hy
    · rw [if_neg hd]
      refine ⟨fun a y ha hb => absurd hb (by omega), fun _ => ⟨K[n], hz, ?_⟩⟩
      cases hq : K[n].2.2.2 with
      | true => exact absurd hq hd
      | false => rfl
theorem mem_tk {A : List en_T} {n : Nat} {x : en_T} : x ∈ A.take n ↔ ∃ a, a < n ∧ A[a]? = some x := by
  rw [List.mem_iff_getElem?]
  constructor
  · rintro ⟨a, ha⟩
    rw [List.getElem?_take] at ha
    by_cases h : a < n
    · rw [if_pos h] at ha; exact ⟨a, h, ha⟩
    · rw [if_neg h] at ha; cases ha
  · rintro ⟨a, h, ha⟩
    exact ⟨a, by rw [List.getElem?_take, if_pos h]; exact ha⟩
theorem cut_mem {K : List en_T} (h : so_ok K) {x : en_T} : x ∈ K.take (cd_L K K.length) ↔ x ∈ K ∧ ∃ y ∈ K, (y = x ∨ en_b x y = true) ∧ y.2.2.2 = false := by
  obtain ⟨h1, h2⟩ := cd_sp K K.length (Nat.le_refl _)
  have hle := cd_le K K.length
  rw [mem_tk]
  constructor
  · rintro ⟨a, ha, hx⟩
    obtain ⟨y, hy, hd⟩ := h2 (by omega)
    refine ⟨List.mem_of_getElem? hx, y, List.mem_of_getElem? hy, ?_, hd⟩
    by_cases e : a = cd_L K K.length - 1
    · subst e
      rw [hx] at hy
      cases hy
      exact Or.inl rfl
    · exact Or.inr (so_at h hx hy (by omega))
  · rintro ⟨hx, y, hy, hxy, hd⟩
    obtain ⟨a, ha⟩ := List.getElem?_of_mem hx
    obtain ⟨b, hb⟩ := List.getElem?_of_mem hy
    have hbl := (List.getElem?_eq_some_iff.mp hb).1
    refine ⟨a, ?_, ha⟩
    rcases Nat.lt_or_ge a (cd_L K K.length) with h3 | h3
    · exact h3
    · exfalso
      have hab : a ≤ b := by
        rcases Nat.lt_or_ge b a with h4 | h4
        · have h5 := so_at h hb ha h4
          rcases hxy with rfl | hxy
          · rw [en_b_irr] at h5; cases h5
          · rw [en_b_asym h5] at hxy; cases hxy
        · exact h4
      have := h1 b y (by omega) hbl hb
      rw [hd] at this
      cases this
theorem tk_snoc {A : List en_T} {i : Nat} {x : en_T} (h : A[i]? = some x) : A.take (i + 1) = A.take i ++ [x] := by rw [List.take_add_one, h]; rfl
theorem kw_sub {sn : Nat → Option Nat} {b : Bool} {A : List en_T} : ∀ i, (kw_L sn b A i).Sublist (A.take i)
  | 0 => by simp [kw_L]
  | i + 1 => by
    have ih := kw_sub (sn := sn) (b := b) (A := A) i
    cases h : A[i]? with
    | none =>
      have e : kw_L sn b A (i + 1) = kw_L sn b A i := by simp only [kw_L, h]
      rw [e, List.take_add_one, h]
      simpa using ih
    | some x =>
      rw [kw_succ h, tk_snoc h]
      have h1 : (kw_1 sn A i x (kw_L sn b A i)).Sublist (A.take i ++ [x]) := by
        unfold kw_1
        split
        · exact List.Sublist.append_right ih [x]
        · exact List.Sublist.trans ih (List.sublist_append_left _ _)
      unfold kw_2
      split
      · exact List.Sublist.trans (List.take_sublist _ _) h1
      · exact h1
theorem kw_k1 {sn : Nat → Option Nat} {b : Bool} {A : List en_T} {i : Nat} {x : en_T} (hA : so_ok A) (h : A[i]? = some x) {y : en_T} : y ∈ kw_1 sn A i x (kw_L sn b A i) ↔ y ∈ kw_L sn b A i ∨ (y = x ∧ sv_x sn A x) := by
  unfold kw_1
  by_cases hs : se_o sn x (pv_o A i) = true
  · rw [if_pos hs, List.mem_append, List.mem_singleton]
    have := (se_sv hA h).mp hs
    constructor
    · rintro (h1 | h1)
      · exact Or.inl h1
      · exact Or.inr ⟨h1, this⟩
    · rintro (h1 | h1)
      · exact Or.inl h1
      · exact Or.inr h1.1
  · rw [if_neg hs]
    constructor
    · exact Or.inl
    · rintro (h1 | h1)
      · exact h1
      · exact absurd ((se_sv hA h).mpr h1.2) hs
theorem kw_f {sn : Nat → Option Nat} {A : List en_T} (hA : so_ok A) {y : en_T} : ∀ i, i ≤ A.length → (y ∈ kw_L sn false A i ↔ y ∈ A.take i ∧ sv_x sn A y)
  | 0, _ => by simp [kw_L]
  | i + 1, hi => by
    have h : A[i]? = some A[i] := List.getElem?_eq_getElem (by omega)
    have ih := kw_f (sn := sn) hA (y := y) i (by omega)
    rw [kw_succ h, tk_snoc h]
    have e : kw_2 false A i A[i] (kw_1 sn A i A[i] (kw_L sn false A i)) = kw_1 sn A i A[i] (kw_L sn false A i) := if_neg (fun z => by cases z.1)
    rw [e, kw_k1 hA h, ih, List.mem_append, List.mem_singleton]
    constructor
    · rintro (h1 | ⟨rfl, h2⟩)
      · exact ⟨Or.inl h1.1, h1.2⟩
      · exact ⟨Or.inr rfl, h2⟩
    · rintro ⟨h1 | rfl, h2⟩
      · exact Or.inl ⟨h1, h2⟩
      · exact Or.inr ⟨rfl, h2⟩
theorem kw_t {sn : Nat → Option Nat} {A : List en_T} (hA : so_ok A) : ∀ i, i ≤ A.length → ∀ y, (y ∈ kw_L sn true A i ↔ y ∈ A.take i ∧ sv_x sn A y ∧ ((∃ z, A[i]? = some z ∧ z.1 = y.1) ∨ dv_x sn A y))
  | 0, _, y => by simp [kw_L]
  | i + 1, hi, y => by
    have h : A[i]? = some A[i] := List.getElem?_eq_getElem (by omega)
    generalize A[i] = x at h
    have ih := kw_t (sn := sn) hA i (by omega)
    have hK1 : ∀ y, y ∈ kw_1 sn A i x (kw_L sn true A i) ↔ y ∈ A.take (i + 1) ∧ sv_x sn A y ∧ (x.1 = y.1 ∨ dv_x sn A y) := by
      intro y
      rw [kw_k1 hA h, ih y, tk_snoc h, List.mem_append, List.mem_singleton, h]
      constructor
      · rintro (⟨h1, h2, h3⟩ | ⟨rfl, h2⟩)
        · refine ⟨Or.inl h1, h2, ?_⟩
          rcases h3 with ⟨z, h4, h5⟩ | h3
          · cases h4; exact Or.inl h5
          · exact Or.inr h3
        · exact ⟨Or.inr rfl, h2, Or.inl rfl⟩
      · rintro ⟨h1 | rfl, h2, h3⟩
        · refine Or.inl ⟨h1, h2, ?_⟩
          rcases h3 with h3 | h3
          · exact Or.inl ⟨x, rfl, h3⟩
          · exact Or.inr h3
        · exact Or.inr ⟨rfl, h2⟩
    have hbound : ∀ w ∈ A.take (i + 1), w.1 ≤ x.1 := by
      intro w hw
      obtain ⟨a, ha, hwa⟩ := mem_tk.mp hw
      by_cases e : a = i
      · subst e; rw [h] at hwa; cases hwa; exact Nat.le_refl _
      · have := (en_b_iff _ _).mp (so_at hA hwa h (by omega))
        omega
    rw [kw_succ h]
    cases hh : hk_o x A[i + 1]? with
    | true =>
      have e : kw_2 true A i x (kw_1 sn A i x (kw_L sn true A i)) = kw_1 sn A i x (kw_L sn true A i) := if_neg (fun z => by rw [hh] at z; cases z.2)
      rw [e, hK1]
      cases hz : A[i + 1]? with
      | none => rw [hz] at hh; cases hh
      | some z =>
        rw [hz] at hh
        have hxz : x.1 = z.1 := of_decide_eq_true hh
        refine and_congr_right (fun _ => and_congr_right (fun _ => or_congr_left ?_))
        constructor
        · intro h1; exact ⟨z, rfl, by omega⟩
        · rintro ⟨w, h1, h2⟩; cases h1; omega
    | false =>
      have e : kw_2 true A i x (kw_1 sn A i x (kw_L sn true A i)) = (kw_1 sn A i x (kw_L sn true A i)).take (cd_L (kw_1 sn A i x (kw_L sn true A i)) (kw_1 sn A i x (kw_L sn true A i)).length) := if_pos ⟨rfl, hh⟩
      have hnx : ∀ z, A[i + 1]? = some z → x.1 ≠ z.1 := by
        intro z hz hxz
        rw [hz] at hh
        exact absurd hxz (of_decide_eq_false hh)
      have hsub1 : (kw_1 sn A i x (kw_L sn true A i)).Sublist (A.take (i + 1)) := by
        rw [tk_snoc h]
        unfold kw_1
        split
        · exact List.Sublist.append_right (kw_sub i) [x]
        · exact List.Sublist.trans (kw_sub i) (List.sublist_append_left _ _)
      have hok : so_ok (kw_1 sn A i x (kw_L sn true A i)) := List.Pairwise.sublist (List.Sublist.trans hsub1 (List.take_sublist _ _)) hA
      rw [e, cut_mem hok, hK1]
      constructor
      · rintro ⟨⟨h1, h2, h3⟩, w, hw, hwy, hd⟩
        refine ⟨h1, h2, Or.inr ?_⟩
        rcases h3 with h3 | h3
        · obtain ⟨w1, w2, -⟩ := (hK1 w).mp hw
          have hwb := hbound w w1
          refine ⟨w, List.mem_of_mem_take w1, w2, ?_, ?_, hd⟩
          · rcases hwy with rfl | hwy
            · rfl
            · have := (en_b_iff _ _).mp hwy; omega
          · rcases hwy with rfl | hwy
            · exact Nat.le_refl _
            · have := (en_b_iff _ _).mp hwy; omega
        · exact h3
      · rintro ⟨h1, h2, h3⟩
        have hdv : dv_x sn A y := by
          rcases h3 with ⟨z, h4, h5⟩ | h3
          · exfalso
            have a1 := hbound y h1
            have a2 := (en_b_iff _ _).mp (so_at hA h h4 (by omega))
            have a3 := hnx z h4
            omega
          · exact h3
        refine ⟨⟨h1, h2, Or.inr hdv⟩, ?_⟩
        obtain ⟨w, hw, ws, wk, wq, wd⟩ := hdv
        have hwt : w ∈ A.take (i + 1) := by
          obtain ⟨p, hp⟩ := List.getElem?_of_mem hw
          have hpl := (List.getElem?_eq_some_iff.mp hp).1
          rw [mem_tk]
          refine ⟨p, ?_, hp⟩
          rcases Nat.lt_or_ge p (i + 1) with h6 | h6
          · exact h6
          · exfalso
            have a1 := hbound y h1
            obtain ⟨z, hz⟩ : ∃ z, A[i + 1]? = some z := ⟨_, List.getElem?_eq_getElem (by omega)⟩
            have a2 := (en_b_iff _ _).mp (so_at hA h hz (by omega))
            have a3 := hnx z hz
            by_cases e5 : p = i + 1
            · subst e5
              rw [hz] at hp
              cases hp
              omega
            · have a4 := (en_b_iff _ _).mp (so_at hA hz hp (by omega))
              omega
        refine ⟨w, (hK1 w).mpr ⟨hwt, ws, Or.inr ⟨w, hw, ws, rfl, Nat.le_refl _, wd⟩⟩, ?_, wd⟩
        obtain ⟨p, hp⟩ := List.getElem?_of_mem hw
        obtain ⟨q, hq⟩ := List.getElem?_of_mem (List.mem_of_mem_take h1)
        rcases Nat.lt_trichotomy p q with h6 | h6 | h6
        · have := (en_b_iff _ _).mp (so_at hA hp hq h6)
          omega
        · subst h6
          rw [hp] at hq
          cases hq
          exact Or.inl rfl
        · exact Or.inr (so_at hA hq hp h6)
/-- what merging keeps -/
theorem kw_all {sn : Nat → Option Nat} {A : List en_T} (hA : so_ok A) (b : Bool) (y : en_T) : y ∈ kw_L sn b A A.length ↔ y ∈ A ∧ sv_x sn A y ∧ (b = true → dv_x sn A y) := by
  cases b with
  | false =>
    rw [kw_f hA A.length (Nat.le_refl _), List.take_length]
    exact ⟨fun h => ⟨h.1, h.2, fun z => by cases z⟩, fun h => ⟨h.1, h.2.1⟩⟩
  | true =>
    rw [kw_t hA A.length (Nat.le_refl _), List.take_length]
    constructor
    · rintro ⟨h1, h2, h3⟩
      refine ⟨h1, h2, fun _ => ?_⟩
      rcases h3 with ⟨z, h4, -⟩ | h3
      · rw [List.getElem?_eq_none (Nat.le_refl _)] at h4; cases h4
      · exact h3
    · exact fun h => ⟨h.1, h.2.1, Or.inr (h.2.2 rfl)⟩
theorem kw_ok {sn : Nat → Option Nat} {A : List en_T} (hA : so_ok A) (b : Bool) : so_ok (kw_L sn b A A.length) := List.Pairwise.sublist (List.Sublist.trans (kw_sub _) (List.take_sublist _ _)) hA
