/-! LOOKING on both sides: the latest of a key, the filters, what is probed -/
theorem la_fold {k u : Nat} : ∀ (L : List en_T) (b : Option en_T), (∀ y, b = some y → y.1 = k ∧ y.2.1 ≤ u) → (L.foldl (la_f k u) b = none → b = none ∧ ∀ y ∈ L, ¬ (y.1 = k ∧ y.2.1 ≤ u)) ∧ ∀ x, L.foldl (la_f k u) b = some x → (x ∈ L ∨ b = some x) ∧ x.1 = k ∧ x.2.1 ≤ u ∧ (∀ y ∈ L, y.1 = k → y.2.1 ≤ u → y.2.1 ≤ x.2.1) ∧ ∀ y, b = some y → y.2.1 ≤ x.2.1
  | [], b, hb => ⟨fun h => ⟨h, fun y hy => absurd hy List.not_mem_nil⟩, fun x h => ⟨Or.inr h, (hb x h).1, (hb x h).2, fun y hy => absurd hy List.not_mem_nil, fun y hy => by
      have h : b = some x := h
      rw [h] at hy
      cases hy
      exact Nat.le_refl _⟩⟩
  | z :: L, b, hb => by
    rw [List.foldl_cons]
    by_cases hc : z.1 = k ∧ z.2.1 ≤ u ∧ b.all (fun y => decide (y.2.1 < z.2.1)) = true
    · have e : la_f k u b z = some z := if_pos hc
      rw [e]
      obtain ⟨h1, h2⟩ := la_fold L (some z) (fun y hy => by cases hy; exact ⟨hc.1, hc.2.1⟩)
      refine ⟨fun h => (by cases (h1 h).1), fun x hx => ?_⟩
      obtain ⟨g1, g2, g3, g4, g5⟩ := h2 x hx
      have hz := g5 z rfl
      refine ⟨?_, g2, g3, fun y hy hk hu => ?_, fun y hy => ?_⟩
      · rcases g1 with g1 | g1
        · exact Or.inl (List.mem_cons_of_mem _ g1)
        · cases g1; exact Or.inl List.mem_cons_self
      · rcases List.mem_cons.mp hy with rfl | hy
        · exact hz
        · exact g4 y hy hk hu
      · rw [hy] at hc
        have := of_decide_eq_true hc.2.2
        omega
    · have e : la_f k u b z = b := if_neg hc
      rw [e]
      obtain ⟨h1, h2⟩ := la_fold L b hb
      refine ⟨fun h => ?_, fun x hx => ?_⟩
      · obtain ⟨g1, g2⟩ := h1 h
        refine ⟨g1, fun y hy => ?_⟩
        rcases List.mem_cons.mp hy with rfl | hy
        · intro hk
          exact hc ⟨hk.1, hk.2, by rw [g1]; rfl⟩
        · exact g2 y hy
      · obtain ⟨g1, g2, g3, g4, g5⟩ := h2 x hx
        refine ⟨?_, g2, g3, fun y hy hk hu => ?_, g5⟩
        · rcases g1 with g1 | g1
          · exact Or.inl (List.mem_cons_of_mem _ g1)
          · exact Or.inr g1
        · rcases List.mem_cons.mp hy with rfl | hy
          · cases hbb : b with
            | none => exact absurd ⟨hk, hu, by rw [hbb]; rfl⟩ hc
            | some w =>
              have h5 := g5 w hbb
              have : ¬ w.2.1 < y.2.1 := fun hlt => hc ⟨hk, hu, by rw [hbb]; exact decide_eq_true hlt⟩
              omega
          · exact g4 y hy hk hu
theorem la_no {k u : Nat} {L : List en_T} (h : la_L k u L = none) : ∀ y ∈ L, ¬ (y.1 = k ∧ y.2.1 ≤ u) := ((la_fold L none (fun y h => by cases h)).1 h).2
theorem la_so {k u : Nat} {L : List en_T} {x : en_T} (h : la_L k u L = some x) : x ∈ L ∧ x.1 = k ∧ x.2.1 ≤ u ∧ ∀ y ∈ L, y.1 = k → y.2.1 ≤ u → y.2.1 ≤ x.2.1 := by
  obtain ⟨g1, g2, g3, g4, -⟩ := (la_fold L none (fun y h => by cases h)).2 x h
  refine ⟨?_, g2, g3, g4⟩
  rcases g1 with g1 | g1
  · exact g1
  · cases g1
theorem la_is {k u : Nat} {L : List en_T} {x : en_T} (hx : x ∈ L) (hk : x.1 = k) (hu : x.2.1 ≤ u) (hm : ∀ y ∈ L, y.1 = k → y.2.1 ≤ u → y.2.1 ≤ x.2.1) (inj : ∀ y ∈ L, y.2.1 = x.2.1 → y = x) : la_L k u L = some x := by
  cases e : la_L k u L with
  | none => exact absurd ⟨hk, hu⟩ (la_no e x hx)
  | some y =>
    obtain ⟨g1, g2, g3, g4⟩ := la_so e
    have h1 := g4 x hx hk hu
    have h2 := hm y g1 g2 g3
    rw [inj y g1 (by omega)]
theorem la_nn {k u : Nat} {L : List en_T} (h : ∀ y ∈ L, ¬ (y.1 = k ∧ y.2.1 ≤ u)) : la_L k u L = none := by
  cases e : la_L k u L with
  | none => rfl
  | some y =>
    obtain ⟨g1, g2, g3, g4⟩ := la_so e
    exact absurd ⟨g2, g3⟩ (h y g1)
theorem la_eq {k u v : Nat} {A B : List en_T} (h : ∀ x, (x ∈ A ∧ x.2.1 ≤ u) ↔ (x ∈ B ∧ x.2.1 ≤ v)) (inj : ∀ x ∈ A, ∀ y ∈ A, y.2.1 = x.2.1 → y = x) : la_L k v B = la_L k u A := by
  cases e : la_L k v B with
  | none => exact (la_nn (fun y hy hc => la_no e y ((h y).mp ⟨hy, hc.2⟩).1 ⟨hc.1, ((h y).mp ⟨hy, hc.2⟩).2⟩)).symm
  | some x =>
    obtain ⟨g1, g2, g3, g4⟩ := la_so e
    obtain ⟨q1, q2⟩ := (h x).mpr ⟨g1, g3⟩
    refine (la_is q1 g2 q2 (fun y hy hk hu => ?_) (fun y hy => inj x q1 y hy)).symm
    obtain ⟨a1, a2⟩ := (h y).mp ⟨hy, hu⟩
    exact g4 y a1 hk a2
theorem nn_la {u k : Nat} : ∀ (L : List en_T) (f : Nat → Option en_T), L.foldl (nn_f u) f k = L.foldl (la_f k u) (f k)
  | [], f => rfl
  | x :: L, f => by
    rw [List.foldl_cons, List.foldl_cons, nn_la L]
    congr 1
    unfold nn_f la_f
    by_cases hk : x.1 = k
    · subst hk
      by_cases h : x.2.1 ≤ u ∧ (f x.1).all (fun y => decide (y.2.1 < x.2.1)) = true
      · rw [if_pos h, if_pos ⟨rfl, h⟩, dk_us]
      · rw [if_neg h, if_neg (fun z => h z.2)]
    · rw [if_neg (c := x.1 = k ∧ _) (fun z => hk z.1)]
      by_cases h : x.2.1 ≤ u ∧ (f x.1).all (fun y => decide (y.2.1 < x.2.1)) = true
      · rw [if_pos h, dk_un (fun z => hk z.symm)]
      · rw [if_neg h]
theorem nn_lk (u k : Nat) (L : List en_T) : nn_L u L k = la_L k u L := nn_la L _
theorem be_la (μ : md_S) (k u : Nat) : ∀ i, (be_f μ k u i).map (me_e μ) = la_L k u ((ml_P μ i).map (fun p => p.1))
  | 0 => rfl
  | i + 1 => by
    have ih := be_la μ k u i
    rw [ml_P, List.map_append, List.map_singleton, la_snoc, ← ih]
    have e0 : be_f μ k u (i + 1) = if μ.kf i = k ∧ μ.nf i ≤ u ∧ (be_f μ k u i).all (fun b => decide (μ.nf b < μ.nf i)) = true then some i else be_f μ k u i := rfl
    rw [e0]
    unfold la_f
    have e : (Option.map (me_e μ) (be_f μ k u i)).all (fun y => decide (y.2.1 < (me_e μ i, μ.rf i).1.2.1)) = (be_f μ k u i).all (fun b => decide (μ.nf b < μ.nf i)) := by
      cases be_f μ k u i <;> rfl
    rw [e]
    by_cases hc : μ.kf i = k ∧ μ.nf i ≤ u ∧ (be_f μ k u i).all (fun b => decide (μ.nf b < μ.nf i)) = true
    · exact (congrArg (Option.map (me_e μ)) (if_pos hc)).trans (Eq.symm (if_pos hc))
    · exact (congrArg (Option.map (me_e μ)) (if_neg hc)).trans (Eq.symm (if_neg hc))
theorem pi_inj {P : List en_P} {lf : Nat → Option Nat} {rs sq : Nat} (h : pi_ok P lf rs sq) {x y : en_T} {o q : Option Nat} (hx : (x, o) ∈ P) (hy : (y, q) ∈ P) (e : x.2.1 = y.2.1) : x = y ∧ o = q := by
  have hp := h.1
  clear h
  induction P with
  | nil => cases hx
  | cons p P ih =>
    obtain ⟨h1, h2⟩ := List.pairwise_cons.mp hp
    rcases List.mem_cons.mp hx with hx1 | hx1
    · rcases List.mem_cons.mp hy with hy1 | hy1
      · rw [← hx1] at hy1; cases hy1; exact ⟨rfl, rfl⟩
      · have h3 := h1 _ hy1
        rw [← hx1] at h3
        have h3 : x.2.1 < y.2.1 := h3
        omega
    · rcases List.mem_cons.mp hy with hy1 | hy1
      · have h3 := h1 _ hx1
        rw [← hy1] at h3
        have h3 : y.2.1 < x.2.1 := h3
        omega
      · exact ih hx1 hy1 h2
theorem pi_injM {P : List en_P} {lf : Nat → Option Nat} {rs sq : Nat} (h : pi_ok P lf rs sq) : ∀ x ∈ P.map (fun p => p.1), ∀ y ∈ P.map (fun p => p.1), y.2.1 = x.2.1 → y = x := by
  intro x hx y hy e
  obtain ⟨⟨x', o⟩, h1, rfl⟩ := List.mem_map.mp hx
  obtain ⟨⟨y', q⟩, h2, rfl⟩ := List.mem_map.mp hy
  exact (pi_inj h h2 h1 e).1
/-- the views of both sides see the same -/
theorem rl_vw {σ : kp_S} {μ : md_S} (h : rl_at σ μ) {v : Int32} {u : Nat} (hv : vw_u σ v = some u) : ∃ u', mu_u μ v = some u' ∧ u < 2 ^ 31 ∧ u' < 2 ^ 31 ∧ ∀ x o, (x, o) ∈ ml_P μ μ.n → (x.2.1 ≤ u ↔ x.2.1 ≤ u') := by
  unfold vw_u at hv
  by_cases e : v = -1
  · rw [if_pos e] at hv
    cases hv
    have hq := h.1.1.1
    have h7 := h.2.1.2.2.2.2.2.2.1
    refine ⟨2147483647, by rw [mu_u, if_pos e], by omega, by decide, fun x o hx => ?_⟩
    have := (h.1.2.2.2.1.2.2.2.1 x o hx).2
    omega
  · rw [if_neg e, rl_vs h] at hv
    refine ⟨u, by rw [mu_u, if_neg e]; exact hv, ?_, ?_, fun _ _ _ => Iff.rfl⟩
    all_goals
      obtain ⟨j, -, -, e3⟩ := vs_s hv
      have := h.2.1.2.2.2.2.2.2.2.1 j
      omega
theorem rl_vn {σ : kp_S} {μ : md_S} (h : rl_at σ μ) {v : Int32} (hv : vw_u σ v = none) : ¬ v = -1 ∧ vs_g μ v = none := by
  unfold vw_u at hv
  by_cases e : v = -1
  · rw [if_pos e] at hv; cases hv
  · rw [if_neg e, rl_vs h] at hv
    exact ⟨e, hv⟩
theorem nx_one {f g : Nat → Bool} {k : Nat} {r q : Int32} (hfg : ∀ j, k ≤ j → j < 1024 → f j = g j) (h1 : (∃ j, k ≤ j ∧ j < 1024 ∧ r = nI j ∧ f j = true ∧ ∀ i, k ≤ i → i < j → f i = false) ∨ (r = -1 ∧ ∀ i, k ≤ i → i < 1024 → f i = false)) (h2 : (∃ j, k ≤ j ∧ j < 1024 ∧ q = nI j ∧ g j = true ∧ ∀ i, k ≤ i → i < j → g i = false) ∨ (q = -1 ∧ ∀ i, k ≤ i → i < 1024 → g i = false)) : r = q := by
  rcases h1 with ⟨j, a1, a2, a3, a4, a5⟩ | ⟨a1, a2⟩
  · rcases h2 with ⟨i, b1, b2, b3, b4, b5⟩ | ⟨b1, b2⟩
    · have : j = i := by
        rcases Nat.lt_trichotomy j i with hl | hl | hl
        · have := b5 j a1 hl
          rw [← hfg j a1 a2, a4] at this
          cases this
        · exact hl
        · have := a5 i b1 hl
          rw [hfg i b1 b2, b4] at this
          cases this
      rw [a3, b3, this]
    · have := b2 j a1 a2
      rw [← hfg j a1 a2, a4] at this
      cases this
  · rcases h2 with ⟨i, b1, b2, b3, b4, b5⟩ | ⟨b1, b2⟩
    · have := a2 i b1 b2
      rw [hfg i b1 b2, b4] at this
      cases this
    · rw [a1, b1]
theorem rl_best {σ : kp_S} {μ : md_S} (h : rl_at σ μ) {u u' k : Nat} (hu : ∀ x o, (x, o) ∈ ml_P μ μ.n → (x.2.1 ≤ u ↔ x.2.1 ≤ u')) : la_L k u (σ.tb ++ lv_fl σ.lv 6) = (be_f μ k u' μ.n).map (me_e μ) := by
  rw [be_la]
  refine la_eq (fun x => ?_) (pi_injM h.1.2.2.2.1.2.2)
  rw [co_mem h.1.2.2.2.1 h.2.1.2.2.2.1]
  constructor
  · rintro ⟨h1, h2⟩
    obtain ⟨⟨y, o⟩, h3, rfl⟩ := List.mem_map.mp h1
    exact ⟨h1, (hu y o h3).mpr h2⟩
  · rintro ⟨h1, h2⟩
    obtain ⟨⟨y, o⟩, h3, rfl⟩ := List.mem_map.mp h1
    exact ⟨h1, (hu y o h3).mp h2⟩
theorem rl_next {σ : kp_S} {μ : md_S} (h : rl_at σ μ) {u u' k : Nat} (hu : ∀ x o, (x, o) ∈ ml_P μ μ.n → (x.2.1 ≤ u ↔ x.2.1 ≤ u')) {r q : Int32} (h1 : nx_r (nn_L u (σ.tb ++ lv_fl σ.lv 6)) k r) (h2 : nxm_r μ u' k q) : r = q := by
  refine nx_one (fun j hj hj2 => ?_) h1 h2
  have e := rl_best h (k := j) hu
  unfold lv_k lm_k
  rw [nn_lk, e]
  cases be_f μ j u' μ.n <;> rfl
theorem rl_nextR {σ : kp_S} {μ : md_S} (h : rl_at σ μ) (A : List en_T) (f : Nat → Option en_T) : rl_at ((σ.ga' A).nw' f) (μ.er' 0) := h.er (by decide)
/-! the filter of a run -/
theorem bs_se (μ : md_S) (r nb b : Nat) : ∀ i, bs_f μ r nb i b = fl_s nb (se_l (some r) (ml_P μ i)) b
  | 0 => rfl
  | i + 1 => by
    rw [bs_f, bs_se μ r nb b i, ml_P, se_app, se_1]
    unfold fl_s
    rw [List.any_append]
    by_cases h : μ.rf i = some r
    · rw [if_pos h, decide_eq_true h]; simp [me_e]
    · rw [if_neg h, decide_eq_false h]; simp
theorem sm_se (μ : md_S) (r k : Nat) : ∀ i, sm_b μ r k i = (se_l (some r) (ml_P μ i)).any (fun x => decide (x.1 = k))
  | 0 => rfl
  | i + 1 => by
    rw [sm_b, sm_se μ r k i, ml_P, se_app, se_1, List.any_append]
    by_cases h : μ.rf i = some r
    · rw [if_pos h, decide_eq_true h]; simp [me_e]
    · rw [if_neg h, decide_eq_false h]; simp
theorem any_cong {p : en_T → Bool} {A B : List en_T} (h : ∀ x, x ∈ A ↔ x ∈ B) : A.any p = B.any p := by
  cases e : B.any p with
  | true =>
    obtain ⟨x, h1, h2⟩ := List.any_eq_true.mp e
    exact List.any_eq_true.mpr ⟨x, (h x).mpr h1, h2⟩
  | false =>
    rw [List.any_eq_false] at e ⊢
    exact fun x hx => e x ((h x).mp hx)
theorem as_l_sp (μ : md_S) (r : Nat) (hk : ∀ i, μ.kf i < 1024) : ∀ i, (∀ x ∈ se_l (some r) (ml_P μ i), as_l μ r i ≤ x.1) ∧ (se_l (some r) (ml_P μ i) ≠ [] → ∃ x ∈ se_l (some r) (ml_P μ i), as_l μ r i = x.1)
  | 0 => ⟨fun x hx => (by cases hx), fun h => absurd rfl h⟩
  | i + 1 => by
    obtain ⟨h1, h2⟩ := as_l_sp μ r hk i
    rw [ml_P, se_app, se_1]
    by_cases h : μ.rf i = some r
    · rw [if_pos h]
      by_cases hc : μ.kf i < as_l μ r i
      · rw [as_ly h hc]
        refine ⟨fun x hx => ?_, fun _ => ⟨me_e μ i, by simp, rfl⟩⟩
        rcases List.mem_append.mp hx with hx | hx
        · have := h1 x hx; omega
        · rw [List.mem_singleton.mp hx]; exact Nat.le_refl _
      · rw [as_lk h (by omega)]
        refine ⟨fun x hx => ?_, fun _ => ?_⟩
        · rcases List.mem_append.mp hx with hx | hx
          · exact h1 x hx
          · rw [List.mem_singleton.mp hx]; show _ ≤ μ.kf i; omega
        · by_cases he : se_l (some r) (ml_P μ i) = []
          · exfalso
            have hz : ∀ j, se_l (some r) (ml_P μ j) = [] → as_l μ r j = 1024 := by
              intro j
              induction j with
              | zero => intro _; rfl
              | succ j ih =>
                intro hj
                rw [ml_P, se_app, se_1] at hj
                obtain ⟨g1, g2⟩ := List.append_eq_nil_iff.mp hj
                rw [as_ln, ih g1]
                intro z
                rw [if_pos z] at g2
                cases g2
            have := hz i he
            have := hk i
            omega
          · obtain ⟨x, g1, g2⟩ := h2 he
            exact ⟨x, List.mem_append_left _ g1, g2⟩
    · rw [if_neg h, List.append_nil, as_ln h]
      exact ⟨h1, h2⟩
theorem as_m_sp (μ : md_S) (r : Nat) : ∀ i, (as_m μ r i = none → se_l (some r) (ml_P μ i) = []) ∧ ∀ q, as_m μ r i = some q → (∀ x ∈ se_l (some r) (ml_P μ i), x.1 ≤ q) ∧ ∃ x ∈ se_l (some r) (ml_P μ i), q = x.1
  | 0 => ⟨fun _ => rfl, fun q h => by cases h⟩
  | i + 1 => by
    obtain ⟨h1, h2⟩ := as_m_sp μ r i
    rw [ml_P, se_app, se_1]
    by_cases h : μ.rf i = some r
    · rw [if_pos h]
      by_cases hc : (as_m μ r i).all (fun q => decide (q < μ.kf i)) = true
      · have e : as_m μ r (i + 1) = some (μ.kf i) := if_pos ⟨h, hc⟩
        rw [e]
        refine ⟨fun z => (by cases z), fun q hq => ?_⟩
        cases hq
        refine ⟨fun x hx => ?_, ⟨me_e μ i, by simp, rfl⟩⟩
        rcases List.mem_append.mp hx with hx | hx
        · cases hz : as_m μ r i with
          | none => rw [h1 hz] at hx; cases hx
          | some w =>
            rw [hz] at hc
            have g1 := of_decide_eq_true hc
            have g2 := (h2 w hz).1 x hx
            omega
        · rw [List.mem_singleton.mp hx]; exact Nat.le_refl _
      · have e : as_m μ r (i + 1) = as_m μ r i := if_neg (fun z => hc z.2)
        rw [e]
        cases hz : as_m μ r i with
        | none => rw [hz] at hc; exact absurd rfl hc
        | some w =>
          refine ⟨fun z => (by cases z), fun q hq => ?_⟩
          cases hq
          rw [hz] at hc
          have g0 : ¬ w < μ.kf i := fun z => hc (decide_eq_true z)
          obtain ⟨g1, x, g2, g3⟩ := h2 w hz
          refine ⟨fun y hy => ?_, ⟨x, List.mem_append_left _ g2, g3⟩⟩
          rcases List.mem_append.mp hy with hy | hy
          · exact g1 y hy
          · rw [List.mem_singleton.mp hy]; show μ.kf i ≤ w; omega
    · rw [if_neg h, List.append_nil, as_mn h]
      exact ⟨h1, h2⟩
theorem so_first {R : List en_T} (h : so_ok R) (hne : 0 < R.length) : ∀ x ∈ R, (R.getD 0 (0, 0, 0, false)).1 ≤ x.1 := by
  cases R with
  | nil => simp at hne
  | cons a R =>
    intro x hx
    show a.1 ≤ x.1
    rcases List.mem_cons.mp hx with rfl | hx
    · exact Nat.le_refl _
    · have := (en_b_iff a x).mp ((List.pairwise_cons.mp h).1 x hx)
      omega
theorem so_last {R : List en_T} (h : so_ok R) (hne : 0 < R.length) : ∀ x ∈ R, x.1 ≤ (R.getD (R.length - 1) (0, 0, 0, false)).1 := by
  intro x hx
  obtain ⟨i, hi⟩ := List.getElem?_of_mem hx
  have hl := (List.getElem?_eq_some_iff.mp hi).1
  have hz : R[R.length - 1]? = some R[R.length - 1] := List.getElem?_eq_getElem (by omega)
  rw [List.getD_eq_getElem?_getD, hz]
  show x.1 ≤ R[R.length - 1].1
  by_cases e : i = R.length - 1
  · subst e
    rw [hz] at hi
    cases hi
    exact Nat.le_refl _
  · have hx2 := (List.getElem?_eq_some_iff.mp hi).2
    have := List.pairwise_iff_getElem.mp h i (R.length - 1) hl (by omega) (by omega)
    rw [hx2] at this
    have := (en_b_iff _ _).mp this
    omega
theorem rn_first {R : List en_T} (hne : 0 < R.length) : R.getD 0 (0, 0, 0, false) ∈ R ∧ R.getD (R.length - 1) (0, 0, 0, false) ∈ R := by
  constructor
  · rw [List.getD_eq_getElem?_getD, List.getElem?_eq_getElem hne]
    exact List.getElem_mem _
  · rw [List.getD_eq_getElem?_getD, List.getElem?_eq_getElem (show R.length - 1 < R.length by omega)]
    exact List.getElem_mem _
theorem en_apP {P : List en_P} {lf : Nat → Option Nat} {rs sq : Nat} (h : pi_ok P lf rs sq) (o : Option Nat) : en_ap (se_l o P) := by
  unfold en_ap se_l
  rw [List.pairwise_filterMap]
  refine List.Pairwise.imp (fun {a b} hab x hx y hy => ?_) h.1
  have h1 : x = a.1 := by
    by_cases e : a.2 = o
    · simp [e] at hx; exact hx.symm
    · simp [e] at hx
  have h2 : y = b.1 := by
    by_cases e : b.2 = o
    · simp [e] at hy; exact hy.symm
    · simp [e] at hy
  right
  rw [h1, h2]
  omega
theorem rn_am {μ : md_S} {sq : Nat} (hp : pi_ok (ml_P μ μ.n) μ.lf μ.rs sq) (hm : md_ok μ) {r k : Nat} (hk : k < 1024) (hne : se_l (some r) (ml_P μ μ.n) ≠ []) : rn_m (so_st (se_l (some r) (ml_P μ μ.n))) k = am_b μ r k := by
  have hS := so_st_ok (en_apP hp (some r))
  have hmem : ∀ x, x ∈ so_st (se_l (some r) (ml_P μ μ.n)) ↔ x ∈ se_l (some r) (ml_P μ μ.n) := fun x => so_st_mem
  have hlen := so_st_len (se_l (some r) (ml_P μ μ.n))
  have hct := se_len μ (some r) μ.n
  have hpos : 0 < (so_st (se_l (some r) (ml_P μ μ.n))).length := by rw [hlen]; exact List.length_pos_iff.mpr hne
  obtain ⟨l1, l2⟩ := as_l_sp μ r hm.1 μ.n
  obtain ⟨m1, m2⟩ := as_m_sp μ r μ.n
  obtain ⟨xl, hxl, exl⟩ := l2 hne
  obtain ⟨q, eq⟩ : ∃ q, as_m μ r μ.n = some q := by
    cases hz : as_m μ r μ.n with
    | none => exact absurd (m1 hz) hne
    | some q => exact ⟨q, rfl⟩
  obtain ⟨m3, xm, hxm, exm⟩ := m2 q eq
  obtain ⟨f1, f2⟩ := rn_first hpos
  have f3 := so_first hS hpos
  have f4 := so_last hS hpos
  have e1 : ((so_st (se_l (some r) (ml_P μ μ.n))).getD 0 (0, 0, 0, false)).1 = as_l μ r μ.n := by
    have a1 := f3 xl ((hmem xl).mpr hxl)
    have a2 := l1 _ ((hmem _).mp f1)
    omega
  have e2 : ((so_st (se_l (some r) (ml_P μ μ.n))).getD ((so_st (se_l (some r) (ml_P μ μ.n))).length - 1) (0, 0, 0, false)).1 = q := by
    have a1 := f4 xm ((hmem xm).mpr hxm)
    have a2 := m3 _ ((hmem _).mp f2)
    omega
  have e3 : 64 * rn_w (so_st (se_l (some r) (ml_P μ μ.n))) = am_n μ r := by
    unfold rn_w am_n
    rw [hlen, hct]
    omega
  have e4 : ∀ b, fl_s (am_n μ r) (so_st (se_l (some r) (ml_P μ μ.n))) b = bs_f μ r (am_n μ r) μ.n b := by
    intro b
    rw [bs_se]
    exact any_cong hmem
  have hl24 := as_l_le μ r μ.n
  have hq24 := as_m_lt hm.1 r μ.n q eq
  unfold rn_m am_b fl_p
  rw [e1, e2, e3, e4, e4, e4, eq]
  show _ = (im_b (nI k) (nI (as_l μ r μ.n)) (nI q) && _ && _ && _)
  have e5 : im_b (nI k) (nI (as_l μ r μ.n)) (nI q) = (decide (as_l μ r μ.n ≤ k) && decide (k ≤ q)) := by
    unfold im_b
    congr 1
    · by_cases hc : as_l μ r μ.n ≤ k
      · rw [decide_eq_true hc, decide_eq_false (fun z => absurd ((nI_ltI (by omega) (by omega)).mp z) (by omega))]; rfl
      · rw [decide_eq_false hc, decide_eq_true ((nI_ltI (by omega) (by omega)).mpr (by omega))]; rfl
    · by_cases hc : k ≤ q
      · rw [decide_eq_true hc, decide_eq_false (fun z => absurd ((nI_ltI (by omega) (by omega)).mp z) (by omega))]; rfl
      · rw [decide_eq_false hc, decide_eq_true ((nI_ltI (by omega) (by omega)).mpr (by omega))]; rfl
  rw [e5]
  simp only [Bool.and_assoc]
/-- a run that has the key passes its own filter -/
theorem rn_has {R : List en_T} (hS : so_ok R) {x : en_T} (hx : x ∈ R) : rn_m R x.1 = true := by
  have hpos : 0 < R.length := List.length_pos_of_mem hx
  unfold rn_m
  rw [decide_eq_true (so_first hS hpos x hx), decide_eq_true (so_last hS hpos x hx), Bool.true_and, Bool.true_and]
  have : ∀ j, j < 3 → fl_s (64 * rn_w R) R (hv_k x.1 j % (64 * rn_w R)) = true := by
    intro j hj
    refine List.any_eq_true.mpr ⟨x, hx, ?_⟩
    unfold fl_x
    rcases (show j = 0 ∨ j = 1 ∨ j = 2 by omega) with rfl | rfl | rfl <;> simp
  unfold fl_p
  rw [this 0 (by omega), this 1 (by omega), this 2 (by omega)]
  rfl
