/-! A STEP OF MERGING on both sides -/
/-- the reference's entries behind a step, among the first k -/
def st_L (μ : md_S) (l t : Nat) (f : Nat → Bool) : Nat → List en_P
  | 0 => []
  | k + 1 => if at_l μ k l = true then (if f k = true then st_L μ l t f k ++ [(me_e μ k, some t)] else st_L μ l t f k) else st_L μ l t f k ++ [(me_e μ k, μ.rf k)]
theorem st_mem {μ : md_S} {l t : Nat} {f : Nat → Bool} {x : en_T} {o : Option Nat} : ∀ {k : Nat}, (x, o) ∈ st_L μ l t f k ↔ ∃ i, i < k ∧ x = me_e μ i ∧ ((at_l μ i l = true ∧ f i = true ∧ o = some t) ∨ (at_l μ i l = false ∧ o = μ.rf i))
  | 0 => by simp [st_L]
  | k + 1 => by
    have ih := st_mem (μ := μ) (l := l) (t := t) (f := f) (x := x) (o := o) (k := k)
    have up : (∃ i, i < k + 1 ∧ x = me_e μ i ∧ ((at_l μ i l = true ∧ f i = true ∧ o = some t) ∨ (at_l μ i l = false ∧ o = μ.rf i))) ↔ (∃ i, i < k ∧ x = me_e μ i ∧ ((at_l μ i l = true ∧ f i = true ∧ o = some t) ∨ (at_l μ i l = false ∧ o = μ.rf i))) ∨ (x = me_e μ k ∧ ((at_l μ k l = true ∧ f k = true ∧ o = some t) ∨ (at_l μ k l = false ∧ o = μ.rf k))) := by
      constructor
      · rintro ⟨i, h1, h2⟩
        by_cases e : i = k
        · subst e; exact Or.inr h2
        · exact Or.inl ⟨i, by omega, h2⟩
      · rintro (⟨i, h1, h2⟩ | h)
        · exact ⟨i, by omega, h2⟩
        · exact ⟨k, by omega, h⟩
    rw [up, ← ih, st_L]
    by_cases ha : at_l μ k l = true
    · rw [if_pos ha]
      by_cases hf : f k = true
      · rw [if_pos hf, List.mem_append, List.mem_singleton, Prod.mk.injEq]
        refine or_congr_right ?_
        constructor
        · rintro ⟨h1, h2⟩; exact ⟨h1, Or.inl ⟨ha, hf, h2⟩⟩
        · rintro ⟨h1, ⟨-, -, h2⟩ | ⟨h2, -⟩⟩
          · exact ⟨h1, h2⟩
          · rw [ha] at h2; cases h2
      · rw [if_neg hf]
        constructor
        · exact Or.inl
        · rintro (h | ⟨-, ⟨-, h2, -⟩ | ⟨h2, -⟩⟩)
          · exact h
          · exact absurd h2 hf
          · rw [ha] at h2; cases h2
    · rw [if_neg ha, List.mem_append, List.mem_singleton, Prod.mk.injEq]
      have ha' : at_l μ k l = false := by
        cases h : at_l μ k l with
        | true => exact absurd h ha
        | false => rfl
      refine or_congr_right ?_
      constructor
      · rintro ⟨h1, h2⟩; exact ⟨h1, Or.inr ⟨ha', h2⟩⟩
      · rintro ⟨h1, ⟨h2, -, -⟩ | ⟨-, h2⟩⟩
        · exact absurd h2 ha
        · exact ⟨h1, h2⟩
theorem st_sub (μ : md_S) (l t : Nat) (f : Nat → Bool) : ∀ k, ((st_L μ l t f k).map (fun p => p.1)).Sublist ((ml_P μ k).map (fun p => p.1))
  | 0 => by simp [st_L]
  | k + 1 => by
    have ih := st_sub μ l t f k
    rw [st_L, ml_P, List.map_append, List.map_singleton]
    split
    · split
      · rw [List.map_append, List.map_singleton]
        exact List.Sublist.append_right ih _
      · exact List.Sublist.trans ih (List.sublist_append_left _ _)
    · rw [List.map_append, List.map_singleton]
      exact List.Sublist.append_right ih _
theorem st_old (μ : md_S) (l t : Nat) (f : Nat → Bool) {o : Option Nat} (ho : o ≠ some t) (hl : ∀ r, o = some r → μ.lf r ≠ some l) : ∀ k, se_l o (st_L μ l t f k) = se_l o (ml_P μ k)
  | 0 => rfl
  | k + 1 => by
    have ih := st_old μ l t f ho hl k
    rw [st_L, ml_P, se_app, se_1]
    by_cases ha : at_l μ k l = true
    · have hne : μ.rf k ≠ o := by
        intro z
        unfold at_l at ha
        rw [z] at ha
        cases o with
        | none => cases ha
        | some r => exact hl r rfl (of_decide_eq_true ha)
      rw [if_pos ha, if_neg hne, List.append_nil, ← ih]
      split
      · rw [se_app, se_1, if_neg (fun z => ho z.symm), List.append_nil]
      · rfl
    · rw [if_neg ha, se_app, se_1, ih]
theorem sc_inv (μ : md_S) (l t : Nat) : ∀ k, k ≤ μ.n → ∃ ν m y, sc_f μ l t k = (ν, m, y) ∧ m ≤ k ∧ sa_m μ ν ∧ (∀ j, k ≤ j → me_e ν j = me_e μ j ∧ ν.rf j = μ.rf j) ∧ ml_P ν m = st_L μ l t μ.ks k ∧ (0 < y ↔ ∃ i, i < k ∧ at_l μ i l = true ∧ μ.ks i = true)
  | 0, _ => ⟨μ, 0, 0, rfl, Nat.le_refl _, ⟨rfl, rfl, rfl, rfl, rfl, rfl, rfl, rfl, rfl, rfl, rfl, rfl, rfl, rfl, rfl⟩, fun j _ => ⟨rfl, rfl⟩, rfl, ⟨fun h => absurd h (by omega), fun ⟨i, h, _⟩ => absurd h (by omega)⟩⟩
  | k + 1, hk => by
    obtain ⟨ν, m, y, e, h1, h2, h4, h5, h6⟩ := sc_inv μ l t k (by omega)
    obtain ⟨g1, g2⟩ := h4 k (Nat.le_refl _)
    have hlf : ν.lf = μ.lf := h2.2.2.2.2.2.2.2.2.1
    have hks : ν.ks = μ.ks := h2.2.2.2.2.2.2.2.2.2.2.2.2.2.2
    have hat : at_l ν k l = at_l μ k l := by unfold at_l; rw [g2, hlf]
    have hhi : ∀ o : Option Nat, ∀ j, k + 1 ≤ j → me_e (md_cq ν m k o) j = me_e μ j ∧ (md_cq ν m k o).rf j = μ.rf j := by
      intro o j hj
      obtain ⟨a1, a2⟩ := cq_hi (ν := ν) (m := m) (k := k) (o := o) (j := j) (by omega)
      obtain ⟨b1, b2⟩ := h4 j (by omega)
      exact ⟨by rw [a1, b1], by rw [a2, b2]⟩
    have hex : (∃ i, i < k + 1 ∧ at_l μ i l = true ∧ μ.ks i = true) ↔ (∃ i, i < k ∧ at_l μ i l = true ∧ μ.ks i = true) ∨ (at_l μ k l = true ∧ μ.ks k = true) := by
      constructor
      · rintro ⟨i, a1, a2⟩
        by_cases e : i = k
        · subst e; exact Or.inr a2
        · exact Or.inl ⟨i, by omega, a2⟩
      · rintro (⟨i, a1, a2⟩ | a)
        · exact ⟨i, by omega, a2⟩
        · exact ⟨k, by omega, a⟩
    by_cases ha : at_l μ k l = true
    · cases hf : μ.ks k with
      | true =>
        refine ⟨_, _, _, sc_m e (by rw [hat]; exact ha) (by rw [hks]; exact hf), by omega, h2, hhi _, ?_, ?_⟩
        · rw [cq_ml, g1, h5, st_L, if_pos ha, if_pos hf]
        · rw [hex]; exact ⟨fun _ => Or.inr ⟨ha, hf⟩, fun _ => by omega⟩
      | false =>
        refine ⟨_, _, _, sc_d e (by rw [hat]; exact ha) (by rw [hks]; exact hf), by omega, h2, fun j hj => h4 j (by omega), ?_, ?_⟩
        · rw [h5, st_L, if_pos ha, if_neg (by rw [hf]; decide)]
        · rw [hex, h6]
          constructor
          · exact Or.inl
          · rintro (a | ⟨-, a⟩)
            · exact a
            · rw [hf] at a; cases a
    · have ha' : at_l μ k l = false := by
        cases h : at_l μ k l with
        | true => exact absurd h ha
        | false => rfl
      refine ⟨_, _, _, sc_o e (by rw [hat]; exact ha'), by omega, h2, hhi _, ?_, ?_⟩
      · rw [cq_ml, g1, g2, h5, st_L, if_neg ha]
      · rw [hex, h6]
        constructor
        · exact Or.inl
        · rintro (a | ⟨a, -⟩)
          · exact a
          · exact absurd a ha
/-! which entries are of a level -/
theorem at_iff {μ : md_S} {i l : Nat} : at_l μ i l = true ↔ ∃ r, μ.rf i = some r ∧ μ.lf r = some l := by
  constructor
  · intro h
    unfold at_l at h
    cases hr : μ.rf i with
    | none => rw [hr] at h; cases h
    | some r => rw [hr] at h; exact ⟨r, rfl, of_decide_eq_true h⟩
  · rintro ⟨r, h1, h2⟩
    exact at_l1 h1 h2
theorem mg_mem {σ : kp_S} {μ : md_S} (hco : co_ok σ.tb σ.lv (ml_P μ μ.n) μ.lf μ.rs μ.sq) {l : Nat} (hl : l < 6) {x : en_T} : x ∈ mg_A σ l ↔ ∃ i, i < μ.n ∧ at_l μ i l = true ∧ x = me_e μ i := by
  rw [mg_A, so_st_mem, List.mem_flatten, hco.2.1 l hl]
  constructor
  · rintro ⟨R, h1, h2⟩
    obtain ⟨r, h3, rfl⟩ := List.mem_map.mp h1
    obtain ⟨i, h4, h5⟩ := ml_mem.mp (se_mem.mp (so_st_mem.mp h2))
    obtain ⟨e1, e2⟩ := Prod.mk.inj h5
    exact ⟨i, h4, at_iff.mpr ⟨r, e2.symm, (id_mem.mp h3).2⟩, e1⟩
  · rintro ⟨i, h1, h2, rfl⟩
    obtain ⟨r, h3, h4⟩ := at_iff.mp h2
    have h5 : (me_e μ i, some r) ∈ ml_P μ μ.n := ml_mem.mpr ⟨i, h1, by rw [h3]⟩
    exact ⟨_, List.mem_map.mpr ⟨r, id_mem.mpr ⟨(hco.2.2.2.2.1 _ r h5).1, h4⟩, rfl⟩, so_st_mem.mpr (se_mem.mpr h5)⟩
theorem mg_so {σ : kp_S} {μ : md_S} (hco : co_ok σ.tb σ.lv (ml_P μ μ.n) μ.lf μ.rs μ.sq) {l : Nat} (hl : l < 6) : so_ok (mg_A σ l) := by
  refine so_st_ok ?_
  unfold en_ap
  rw [hco.2.1 l hl, List.pairwise_flatten]
  constructor
  · intro R hR
    obtain ⟨r, h3, rfl⟩ := List.mem_map.mp hR
    refine List.Pairwise.imp (fun {a b} hab => ?_) (so_st_ok (en_apP hco.2.2 (some r)))
    have := (en_b_iff a b).mp hab
    omega
  · rw [List.pairwise_map]
    refine List.Pairwise.imp (fun {a b} hab x hx y hy => ?_) (id_nd μ.lf l μ.rs)
    right
    intro e
    have := (pi_inj hco.2.2 (se_mem.mp (so_st_mem.mp hx)) (se_mem.mp (so_st_mem.mp hy)) e).2
    exact hab (Option.some.inj this)
theorem it_iff {μ : md_S} {k l u : Nat} : it_t μ k l u = true ↔ μ.nf k ≤ u ∧ ∀ j, j < μ.n → μ.kf j = μ.kf k → at_l μ j l = true → μ.nf k < μ.nf j → u < μ.nf j := by
  unfold it_t
  rw [Bool.and_eq_true, decide_eq_true_eq]
  refine and_congr_right (fun _ => ?_)
  constructor
  · intro h j hj h1 h2 h3
    have h4 := al_t h j hj
    have h5 : it_b μ k l u j = false := by simpa using h4
    unfold it_b at h5
    rw [decide_eq_true h1, h2, decide_eq_true h3] at h5
    have h6 : decide (μ.nf j ≤ u) = false := by simpa using h5
    have := of_decide_eq_false h6
    omega
  · intro h
    cases e : al_b (fun j => !it_b μ k l u j) μ.n with
    | true => rfl
    | false =>
      obtain ⟨j, hj, h1⟩ := al_ex e
      have h2 : it_b μ k l u j = true := by simpa using h1
      unfold it_b at h2
      rw [Bool.and_eq_true, Bool.and_eq_true, Bool.and_eq_true] at h2
      have := h j hj (of_decide_eq_true h2.1.1.1) h2.1.1.2 (of_decide_eq_true h2.1.2)
      have := of_decide_eq_true h2.2
      omega
theorem kk_sv {σ : kp_S} {μ : md_S} (hco : co_ok σ.tb σ.lv (ml_P μ μ.n) μ.lf μ.rs μ.sq) (hm : md_ok μ) (hs : rl_s σ μ) {l : Nat} (hl : l < 6) {i : Nat} : kk_b μ l i = true ↔ at_l μ i l = true ∧ sv_x σ.sn (mg_A σ l) (me_e μ i) := by
  unfold kk_b
  rw [Bool.and_eq_true]
  refine and_congr_right (fun hat => ?_)
  unfold ik_b
  rw [Bool.or_eq_true]
  have key : ∀ u, (it_t μ i l u = true ↔ μ.nf i ≤ u ∧ ∀ y ∈ mg_A σ l, y.1 = (me_e μ i).1 → (me_e μ i).2.1 < y.2.1 → u < y.2.1) := by
    intro u
    rw [it_iff]
    refine and_congr_right (fun _ => ?_)
    constructor
    · intro h y hy hk hlt
      obtain ⟨j, hj, h1, rfl⟩ := (mg_mem hco hl).mp hy
      exact h j hj hk h1 hlt
    · intro h j hj h1 h2 h3
      exact h (me_e μ j) ((mg_mem hco hl).mpr ⟨j, hj, h2, rfl⟩) h1 h3
  refine or_congr ?_ ?_
  · rw [key]
    constructor
    · rintro ⟨-, h⟩ y hy hk
      rcases Nat.lt_or_ge (me_e μ i).2.1 y.2.1 with h1 | h1
      · have h2 := h y hy hk h1
        obtain ⟨j, hj, h3, rfl⟩ := (mg_mem hco hl).mp hy
        have h4 := hm.2.1 j
        have h2 : 2147483647 < μ.nf j := h2
        omega
      · exact h1
    · intro h
      refine ⟨by have := hm.2.1 i; omega, fun y hy hk hlt => ?_⟩
      have := h y hy hk
      omega
  · constructor
    · intro h
      have h0 : al_b (fun j => !(μ.ss j && it_t μ i l (μ.sv j))) 6 = false := by simpa using h
      obtain ⟨j, hj, h1⟩ := al_ex h0
      have h2 : (μ.ss j && it_t μ i l (μ.sv j)) = true := by simpa using h1
      rw [Bool.and_eq_true] at h2
      obtain ⟨h3, h4⟩ := (key _).mp h2.2
      exact ⟨j, μ.sv j, hj, by rw [hs j hj, if_pos h2.1], h3, h4⟩
    · rintro ⟨j, s, hj, h1, h2, h3⟩
      have h4 := hs j hj
      rw [h1] at h4
      by_cases hss : μ.ss j = true
      · rw [if_pos hss] at h4
        cases h4
        have h5 : al_b (fun j => !(μ.ss j && it_t μ i l (μ.sv j))) 6 = false := al_f hj (by
          show (!(μ.ss j && it_t μ i l (μ.sv j))) = false
          rw [hss, (key _).mpr ⟨h2, h3⟩]; rfl)
        rw [h5]; rfl
      · rw [if_neg hss] at h4; cases h4
/-- what the reference keeps -/
theorem tr_sv {σ : kp_S} {μ : md_S} (hco : co_ok σ.tb σ.lv (ml_P μ μ.n) μ.lf μ.rs μ.sq) (hm : md_ok μ) (hs : rl_s σ μ) {l : Nat} (hl : l < 6) {b : Bool} {f : Nat → Bool} (ht : tr_ok μ l b f) {i : Nat} (hi : i < μ.n) (hat : at_l μ i l = true) : f i = true ↔ sv_x σ.sn (mg_A σ l) (me_e μ i) ∧ (b = true → dv_x σ.sn (mg_A σ l) (me_e μ i)) := by
  have hinj : ∀ i j, i < μ.n → j < μ.n → μ.nf i = μ.nf j → me_e μ i = me_e μ j := by
    intro i j h1 h2 e
    exact (pi_inj hco.2.2 (ml_mem.mpr ⟨i, h1, rfl⟩) (ml_mem.mpr ⟨j, h2, rfl⟩) e).1
  rcases ht with ⟨rfl, h1⟩ | ⟨rfl, ⟨h1, h2⟩, h3⟩
  · rw [h1 i hi, kk_sv hco hm hs hl]
    exact ⟨fun h => ⟨h.2, fun z => by cases z⟩, fun h => ⟨hat, h.1⟩⟩
  · constructor
    · intro hf
      have key : ∀ N i, i < μ.n → μ.nf i < N → f i = true → dv_x σ.sn (mg_A σ l) (me_e μ i) := by
        intro N
        induction N with
        | zero => intro i _ h; exact absurd h (by omega)
        | succ N ih =>
          intro i hi hN hf
          obtain ⟨a1, a2⟩ := (kk_sv hco hm hs hl).mp (h1 i hi hf)
          by_cases hd : μ.df i = true
          · obtain ⟨j, b1, b2, b3, b4⟩ := h3 i hi hf hd
            obtain ⟨y, c1, c2, c3, c4, c5⟩ := ih j b1 (by omega) b2
            have c3 : y.1 = μ.kf j := c3
            have c4 : y.2.1 ≤ μ.nf j := c4
            exact ⟨y, c1, c2, c3.trans b3, by show y.2.1 ≤ μ.nf i; omega, c5⟩
          · refine ⟨me_e μ i, (mg_mem hco hl).mpr ⟨i, hi, a1, rfl⟩, a2, rfl, Nat.le_refl _, ?_⟩
            show μ.df i = false
            cases h : μ.df i with
            | true => exact absurd h hd
            | false => rfl
      exact ⟨((kk_sv hco hm hs hl).mp (h1 i hi hf)).2, fun _ => key (μ.nf i + 1) i hi (by omega) hf⟩
    · rintro ⟨h4, h5⟩
      cases hf : f i with
      | true => rfl
      | false =>
        exfalso
        obtain ⟨g1, g2⟩ := h2 i hi ((kk_sv hco hm hs hl).mpr ⟨hat, h4⟩) hf
        obtain ⟨y, c1, c2, c3, c4, c5⟩ := h5 rfl
        obtain ⟨j, hj, d1, rfl⟩ := (mg_mem hco hl).mp c1
        have c3 : μ.kf j = μ.kf i := c3
        have c4 : μ.nf j ≤ μ.nf i := c4
        have c5 : μ.df j = false := c5
        by_cases e : μ.nf j = μ.nf i
        · have h6 : (me_e μ j).2.2.2 = (me_e μ i).2.2.2 := by rw [hinj j i hj hi e]
          have h6 : μ.df j = μ.df i := h6
          rw [c5, g1] at h6
          cases h6
        · cases hfj : f j with
          | true => exact g2 j hj hfj c3 (by omega)
          | false =>
            have := (h2 j hj ((kk_sv hco hm hs hl).mpr ⟨d1, c2⟩) hfj).1
            rw [c5] at this
            cases this
