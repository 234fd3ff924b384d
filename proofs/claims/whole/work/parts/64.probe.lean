/-! WHAT A LOOK PROBES, on both sides -/
theorem lk_app {k u : Nat} {A B : List (List en_T)} : ∀ (n : Nat), n ≤ A.length → ∀ q, lk_l k u (A ++ B) n q = lk_l k u A n q
  | 0, _, q => rfl
  | n + 1, hn, q => by
    have ih := lk_app (k := k) (u := u) (A := A) (B := B) n (by omega)
    unfold lk_l
    rw [List.getElem?_append_left (by omega)]
    cases A[n]? with
    | none => exact ih q
    | some R =>
      simp only
      split
      · cases la_L k u R with
        | none => exact ih _
        | some x => rfl
      · exact ih q
theorem pm_hit {μ : md_S} {k l r : Nat} (h : μ.lf r = some l) : ∀ n, r < n → ∀ q, (pm_r μ k (some r) l n q).1 = true
  | 0, h0, q => absurd h0 (by omega)
  | n + 1, hn, q => by
    by_cases e : r = n
    · subst e
      rw [pm_y h rfl]
    · by_cases hl : μ.lf n = some l
      · rw [pm_g hl (fun z => e (Option.some.inj z))]
        exact pm_hit h n (by omega) _
      · rw [pm_n hl]
        exact pm_hit h n (by omega) q
/-- one level -/
theorem lk_lev {μ : md_S} {sq k u l : Nat} (hp : pi_ok (ml_P μ μ.n) μ.lf μ.rs sq) (hm : md_ok μ) (hk : k < 1024) {o : Option Nat} {x : en_T} (hx : ∀ r, o = some r → (x, some r) ∈ ml_P μ μ.n ∧ x.1 = k ∧ la_L k u (so_st (se_l (some r) (ml_P μ μ.n))) = some x) (hno : ∀ r, r < μ.rs → μ.lf r = some l → o ≠ some r → (∀ r0, o = some r0 → μ.lf r0 = some l → r0 < r) → la_L k u (so_st (se_l (some r) (ml_P μ μ.n))) = none) : ∀ n, n ≤ μ.rs → (∀ r0, o = some r0 → μ.lf r0 = some l → r0 < n) → ∀ q, lk_l k u ((id_l μ.lf l n).map (fun r => so_st (se_l (some r) (ml_P μ μ.n)))) (id_l μ.lf l n).length q = ((if (pm_r μ k o l n q).1 = true then some x else none), (pm_r μ k o l n q).2)
  | 0, _, _, q => rfl
  | n + 1, hn, h0, q => by
    rw [id_s]
    by_cases hl : μ.lf n = some l
    · rw [if_pos hl, List.map_append, List.map_singleton, List.length_append, List.length_singleton]
      have hlen : ((id_l μ.lf l n).map (fun r => so_st (se_l (some r) (ml_P μ μ.n)))).length = (id_l μ.lf l n).length := List.length_map _
      have hget : ((id_l μ.lf l n).map (fun r => so_st (se_l (some r) (ml_P μ μ.n))) ++ [so_st (se_l (some n) (ml_P μ μ.n))])[(id_l μ.lf l n).length]? = some (so_st (se_l (some n) (ml_P μ μ.n))) := by
        rw [← hlen, List.getElem?_append_right (Nat.le_refl _), Nat.sub_self]; rfl
      obtain ⟨y, hy⟩ := hp.2.2.2.1 n l (by omega) hl
      have hne : se_l (some n) (ml_P μ μ.n) ≠ [] := List.ne_nil_of_mem (se_mem.mpr hy)
      have hf := rn_am hp hm (r := n) hk hne
      have hany : (so_st (se_l (some n) (ml_P μ μ.n))).any (fun x => decide (x.1 = k)) = sm_b μ n k μ.n := by
        rw [sm_se]
        exact any_cong (fun x => so_st_mem)
      have hpq : rn_m (so_st (se_l (some n) (ml_P μ μ.n))) k = true → pm_q μ k n q = pb_q k (so_st (se_l (some n) (ml_P μ μ.n))) q := by
        intro h
        rw [hf] at h
        unfold pm_q pb_q
        rw [if_pos h, hany]
      by_cases ho : o = some n
      · obtain ⟨x1, x2, x3⟩ := hx n ho
        have hin : x ∈ so_st (se_l (some n) (ml_P μ μ.n)) := so_st_mem.mpr (se_mem.mpr x1)
        have hr : rn_m (so_st (se_l (some n) (ml_P μ μ.n))) k = true := by rw [← x2]; exact rn_has (so_st_ok (en_apP hp (some n))) hin
        rw [lk_1 hget hr x3, pm_y hl ho, if_pos rfl, hpq hr]
      · have h0' : ∀ r0, o = some r0 → μ.lf r0 = some l → r0 < n := by
          intro r0 e1 e2
          have := h0 r0 e1 e2
          have : r0 ≠ n := fun z => ho (z ▸ e1)
          omega
        have hla := hno n (by omega) hl ho h0'
        have ih := lk_lev hp hm hk hx hno n (by omega) h0'
        rw [pm_g hl ho]
        cases hr : rn_m (so_st (se_l (some n) (ml_P μ μ.n))) k with
        | true =>
          rw [lk_0 hget hr hla, lk_app _ (by rw [hlen]; exact Nat.le_refl _), ← hpq hr]
          exact ih _
        | false =>
          have e : pm_q μ k n q = q := by
            rw [hf] at hr
            unfold pm_q
            rw [if_neg (by rw [hr]; decide)]
          rw [lk_no hget hr, lk_app _ (by rw [hlen]; exact Nat.le_refl _), e]
          exact ih q
    · rw [if_neg hl, pm_n hl]
      refine lk_lev hp hm hk hx hno n (by omega) (fun r0 e1 e2 => ?_) q
      have := h0 r0 e1 e2
      have : r0 ≠ n := fun z => hl (z ▸ e2)
      omega
/-- the last n levels -/
theorem lk_levs {σ : kp_S} {μ : md_S} {k u : Nat} (hco : co_ok σ.tb σ.lv (ml_P μ μ.n) μ.lf μ.rs μ.sq) (hm : md_ok μ) (hk : k < 1024) {o : Option Nat} {x : en_T} (hx : ∀ r, o = some r → (x, some r) ∈ ml_P μ μ.n ∧ x.1 = k ∧ la_L k u (so_st (se_l (some r) (ml_P μ μ.n))) = some x) (hno : ∀ r l, r < μ.rs → μ.lf r = some l → o ≠ some r → (∀ r0 l0, o = some r0 → μ.lf r0 = some l0 → l < l0 ∨ (l = l0 ∧ r0 < r)) → la_L k u (so_st (se_l (some r) (ml_P μ μ.n))) = none) : ∀ n, n ≤ 6 → (∀ r0 l0, o = some r0 → μ.lf r0 = some l0 → 6 - n ≤ l0) → ∀ q, (lk_v k u σ.lv n q).2 = pm_l μ k o n q ∧ (lk_v k u σ.lv n q).1 = o.map (fun _ => x)
  | 0, _, h0, q => by
    refine ⟨rfl, ?_⟩
    cases o with
    | none => rfl
    | some r =>
      obtain ⟨-, l, hl⟩ := hco.2.2.2.2.1 x r (hx r rfl).1
      have h1 := h0 r l rfl hl
      have h2 := hm.2.2.2.1 r l hl
      omega
  | n + 1, hn, h0, q => by
    have hlev : 5 - n < 6 := by omega
    have hlv := hco.2.1 (5 - n) hlev
    have hlen : (σ.lv (5 - n)).length = (id_l μ.lf (5 - n) μ.rs).length := by rw [hlv, List.length_map]
    have key := lk_lev (l := 5 - n) hco.2.2 hm hk hx (fun r hr hl ho hr0 => hno r (5 - n) hr hl ho (fun r0 l0 e1 e2 => by
      have := h0 r0 l0 e1 e2
      by_cases e : l0 = 5 - n
      · subst e; exact Or.inr ⟨rfl, hr0 r0 e1 e2⟩
      · exact Or.inl (by omega))) μ.rs (Nat.le_refl _) (fun r0 e1 e2 => (hco.2.2.2.2.1 x r0 (hx r0 e1).1).1) q
    rw [← hlv, ← hlen] at key
    unfold lk_v pm_l
    rw [key]
    cases hp : (pm_r μ k o (5 - n) μ.rs q).1 with
    | true =>
      simp only [if_true]
      refine ⟨trivial, ?_⟩
      cases o with
      | none =>
        exfalso
        have : ∀ n q, (pm_r μ k none (5 - n) n q).1 = false := by
          intro n q
          exact (by
            have : ∀ l n q, (pm_r μ k none l n q).1 = false := by
              intro l n
              induction n with
              | zero => intro q; rfl
              | succ n ih =>
                intro q
                by_cases hl : μ.lf n = some l
                · rw [pm_g hl (by simp)]; exact ih _
                · rw [pm_n hl]; exact ih q
            exact this _ n q)
        have h2 : ∀ l n q, (pm_r μ k none l n q).1 = false := by
          intro l n
          induction n with
          | zero => intro q; rfl
          | succ n ih =>
            intro q
            by_cases hl : μ.lf n = some l
            · rw [pm_g hl (by simp)]; exact ih _
            · rw [pm_n hl]; exact ih q
        rw [h2] at hp
        cases hp
      | some r => rfl
    | false =>
      simp only [Bool.false_eq_true, if_false]
      refine lk_levs hco hm hk hx hno n (by omega) (fun r0 l0 e1 e2 => ?_) _
      have h1 := h0 r0 l0 e1 e2
      by_cases e : l0 = 5 - n
      · exfalso
        subst e
        subst e1
        have h2 := (hco.2.2.2.2.1 x r0 (hx r0 rfl).1).1
        rw [pm_hit e2 μ.rs h2 q] at hp
        cases hp
      · omega
theorem rl_look {σ : kp_S} {μ : md_S} (h : rl_at σ μ) {k u u' : Nat} (hk : k < 1024) (hu : ∀ x o, (x, o) ∈ ml_P μ μ.n → (x.2.1 ≤ u ↔ x.2.1 ≤ u')) : (lk_K σ k u).1 = (be_f μ k u' μ.n).map (me_e μ) ∧ (lk_K σ k u).2 = pm_K μ k ((be_f μ k u' μ.n).bind μ.rf) (be_f μ k u' μ.n) := by
  have hco := h.1.2.2.2.1
  have hm := h.2.1
  have hall := rl_best h (k := k) hu
  have hmem : ∀ x, x ∈ σ.tb ++ lv_fl σ.lv 6 ↔ x ∈ (ml_P μ μ.n).map (fun p => p.1) := fun x => co_mem hco hm.2.2.2.1
  cases hb : be_f μ k u' μ.n with
  | none =>
    rw [hb] at hall
    have hnone : ∀ y o, (y, o) ∈ ml_P μ μ.n → ¬ (y.1 = k ∧ y.2.1 ≤ u) := fun y o hy => la_no hall y ((hmem y).mpr (List.mem_map.mpr ⟨_, hy, rfl⟩))
    have ht : la_L k u σ.tb = none := la_nn (fun y hy => by rw [hco.1] at hy; exact hnone y _ (se_mem.mp hy))
    have e : lk_K σ k u = lk_v k u σ.lv 6 (0, 0) := by simp only [lk_K, ht]
    rw [e]
    have := lk_levs (σ := σ) (o := none) (x := (0, 0, 0, false)) (u := u) hco hm hk (fun r hr => by cases hr) (fun r l _ _ _ _ => la_nn (fun y hy => hnone y _ (se_mem.mp (so_st_mem.mp hy)))) 6 (Nat.le_refl _) (fun r0 l0 e1 => by cases e1) (0, 0)
    exact ⟨this.2, this.1⟩
  | some b =>
    rw [hb] at hall
    have hbn := be_lt hb
    have hbm : (me_e μ b, μ.rf b) ∈ ml_P μ μ.n := ml_mem.mpr ⟨b, hbn, rfl⟩
    obtain ⟨g1, g2, g3, g4⟩ := la_so hall
    have hmax : ∀ y o, (y, o) ∈ ml_P μ μ.n → y.1 = k → y.2.1 ≤ u → y.2.1 ≤ (me_e μ b).2.1 := fun y o hy => g4 y ((hmem y).mpr (List.mem_map.mpr ⟨_, hy, rfl⟩))
    cases hr : μ.rf b with
    | none =>
      rw [hr] at hbm
      have ht : la_L k u σ.tb = some (me_e μ b) := by
        rw [hco.1]
        exact la_is (se_mem.mpr hbm) g2 g3 (fun y hy => hmax y _ (se_mem.mp hy)) (fun y hy e => (pi_inj hco.2.2 (se_mem.mp hy) hbm e).1)
      have e : lk_K σ k u = (some (me_e μ b), (0, 0)) := by simp only [lk_K, ht]
      rw [e]
      exact ⟨rfl, (pm_K2 rfl hr).symm⟩
    | some r =>
      rw [hr] at hbm
      have ht : la_L k u σ.tb = none := la_nn (fun y hy hc => by
        rw [hco.1] at hy
        have h1 := hco.2.2.2.2.2.2.1 y (me_e μ b) r (se_mem.mp hy) hbm
        have h2 := hmax y _ (se_mem.mp hy) hc.1 hc.2
        omega)
      have e : lk_K σ k u = lk_v k u σ.lv 6 (0, 0) := by simp only [lk_K, ht]
      rw [e]
      have := lk_levs (σ := σ) (o := some r) (x := me_e μ b) (u := u) hco hm hk (fun q hq => by
        cases hq
        exact ⟨hbm, g2, la_is (so_st_mem.mpr (se_mem.mpr hbm)) g2 g3 (fun y hy => hmax y _ (se_mem.mp (so_st_mem.mp hy))) (fun y hy e => (pi_inj hco.2.2 (se_mem.mp (so_st_mem.mp hy)) hbm e).1)⟩) (fun q l hq hl hne hlt => la_nn (fun y hy hc => by
        have hy' := se_mem.mp (so_st_mem.mp hy)
        obtain ⟨-, l0, hl0⟩ := hco.2.2.2.2.1 _ r hbm
        have h1 := hco.2.2.2.2.2.2.2 y (me_e μ b) q r l l0 hy' hbm hl hl0 (hlt r l0 rfl hl0)
        have h2 := hmax y _ hy' hc.1 hc.2
        omega)) 6 (Nat.le_refl _) (fun r0 l0 _ _ => by omega) (0, 0)
      refine ⟨this.2, ?_⟩
      rw [this.1]
      have e2 : (some b : Option Nat).bind μ.rf = some r := hr
      rw [e2, pm_K1 rfl rfl]
theorem be_er (μ : md_S) (a k u : Nat) : ∀ i, be_f (μ.er' a) k u i = be_f μ k u i
  | 0 => rfl
  | i + 1 => by
    have ih := be_er μ a k u i
    unfold be_f
    rw [ih]
theorem rl_get {σ : kp_S} {μ : md_S} (h : rl_at σ μ) {k u u' : Nat} (hk : k < 1024) (hu : ∀ x o, (x, o) ∈ ml_P μ μ.n → (x.2.1 ≤ u ↔ x.2.1 ≤ u')) : (lk_K σ k u).1 = (be_f μ k u' μ.n).map (me_e μ) ∧ (lk_K σ k u).2 = pm_K (μ.er' 0) k ((be_f μ k u' μ.n).bind μ.rf) (be_f μ k u' μ.n) := by
  have e := rl_look (h.er (c := 0) (by decide)) hk (u := u) (u' := u') (fun x o hx => hu x o (by rw [show ml_P (μ.er' 0) (μ.er' 0).n = ml_P μ μ.n from ml_cong (fun j _ => ⟨rfl, rfl⟩)] at hx; exact hx))
  have e2 : be_f (μ.er' 0) k u' (μ.er' 0).n = be_f μ k u' μ.n := be_er μ 0 k u' μ.n
  rw [e2] at e
  exact e
theorem rl_getR {σ : kp_S} {μ : md_S} (h : rl_at σ μ) {c : Nat} (hc : c < 3) (q : Nat × Nat) (B : Nat → Bool) : rl_at ((σ.pr' q.1).mi' q.2) ((((μ.er' c).pr' q.1).mi' q.2).bt' B) := by
  obtain ⟨⟨⟨a1, a2, a3, a4⟩, hb, hs, hco, hf⟩, hm, hn, ht⟩ := h
  refine ⟨⟨⟨a1, a2, rfl, rfl⟩, hb, hs, ?_, hf⟩, md_er_ok hm hc, hn, ht⟩
  rw [show ml_P ((((μ.er' c).pr' q.1).mi' q.2).bt' B) ((((μ.er' c).pr' q.1).mi' q.2).bt' B).n = ml_P μ μ.n from ml_cong (fun j _ => ⟨rfl, rfl⟩)]
  exact hco
theorem rl_live {σ : kp_S} {μ : md_S} (h : rl_at σ μ) : ∀ r l, r < μ.rs → μ.lf r = some l → 0 < ct_f (fun k9 => decide (μ.rf k9 = some r)) μ.n := by
  intro r l hr hl
  obtain ⟨x, hx⟩ := h.1.2.2.2.1.2.2.2.2.2.1 r l hr hl
  rw [← se_len]
  exact List.length_pos_of_mem (se_mem.mpr hx)
