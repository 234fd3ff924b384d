/-! ENTRIES AND COUNTS on both sides -/
theorem in_im {n : Nat} (hn : n + 1 < 2 ^ 31) (k : Int32) : in_r (n + 1) k = im_b k (nI 0) (nI n) := by
  unfold in_r im_b
  by_cases hk : k < 0
  · rw [decide_eq_false (show ¬ ¬ k < 0 from fun z => z hk), decide_eq_true (show k < nI 0 from hk)]; rfl
  · obtain ⟨j, hj, e⟩ := nI_of hk
    subst e
    rw [decide_eq_true (show ¬ nI j < 0 from hk), decide_eq_false (show ¬ nI j < nI 0 from hk)]
    by_cases h : j < n + 1
    · rw [decide_eq_true ((nI_ltI hj hn).mpr h), decide_eq_false (fun z => absurd ((nI_ltI (by omega) hj).mp z) (by omega))]; rfl
    · rw [decide_eq_false (fun z => h ((nI_ltI hj hn).mp z)), decide_eq_true ((nI_ltI (by omega) hj).mpr (by omega))]; rfl
theorem in_some {n : Nat} (hn : n < 2 ^ 31) {k : Int32} (h : in_r n k = true) : ∃ j, j < n ∧ k = nI j := by
  unfold in_r at h
  rw [Bool.and_eq_true] at h
  have h1 := of_decide_eq_true h.1
  obtain ⟨j, hj, e⟩ := nI_of h1
  subst e
  exact ⟨j, (nI_ltI hj hn).mp (of_decide_eq_true h.2), rfl⟩
theorem id_sp (μ : md_S) (l : Nat) (r : Int32) : ∀ n, n < 2 ^ 31 → (id_f μ l r n).2 = (id_l μ.lf l n).length ∧ (∀ d, (id_f μ l r n).1 = some d → ∃ j : Nat, j < 2 ^ 31 ∧ r = nI j ∧ (id_l μ.lf l n)[j]? = some d) ∧ ((id_f μ l r n).1 = none → ∀ j : Nat, r = nI j → j < 2 ^ 31 → (id_l μ.lf l n).length ≤ j)
  | 0, _ => ⟨rfl, fun d h => (by cases h), fun _ j _ _ => Nat.zero_le _⟩
  | n + 1, hn => by
    obtain ⟨h1, h2, h3⟩ := id_sp μ l r n (by omega)
    have hlen : (id_l μ.lf l n).length ≤ n := by rw [id_len]; exact ct_le _ _
    rw [id_s, id_f]
    by_cases hl : μ.lf n = some l
    · rw [if_pos hl, if_pos hl, List.length_append, List.length_singleton]
      by_cases hr : nI (id_f μ l r n).2 = r
      · rw [if_pos hr]
        refine ⟨by rw [h1], fun d hd => ?_, fun z => by cases z⟩
        cases hd
        refine ⟨(id_l μ.lf l n).length, by omega, by rw [← hr, h1], ?_⟩
        rw [List.getElem?_append_right (Nat.le_refl _), Nat.sub_self]; rfl
      · rw [if_neg hr]
        refine ⟨by rw [h1], fun d hd => ?_, fun z j hj hj2 => ?_⟩
        · obtain ⟨j, g1, g2, g3⟩ := h2 d hd
          exact ⟨j, g1, g2, by rw [List.getElem?_append_left (List.getElem?_eq_some_iff.mp g3).1]; exact g3⟩
        · have g1 := h3 z j hj hj2
          have : j ≠ (id_l μ.lf l n).length := by
            intro e
            rw [e] at hj
            exact hr (by rw [h1, hj])
          omega
    · rw [if_neg hl, if_neg hl]
      exact ⟨h1, h2, h3⟩
/-- the run that an int names, on both sides -/
theorem rl_run {σ : kp_S} {μ : md_S} (h : rl_at σ μ) {l : Nat} (hl : l < 6) (r : Int32) : (∃ (j d : Nat), j < 2 ^ 31 ∧ r = nI j ∧ (σ.lv l)[j]? = some (so_st (en_r μ d μ.n)) ∧ (id_f μ l r μ.rs).1 = some d ∧ d < 5000 ∧ 0 < ct_f (fun k9 => decide (μ.rf k9 = some d)) μ.n ∧ (so_st (en_r μ d μ.n)).length = ct_f (fun k9 => decide (μ.rf k9 = some d)) μ.n) ∨ ((id_f μ l r μ.rs).1 = none ∧ ∀ j : Nat, r = nI j → j < 2 ^ 31 → (σ.lv l).length ≤ j) := by
  have h6 := h.2.1.2.2.2.2.2.1
  obtain ⟨h1, h2, h3⟩ := id_sp μ l r μ.rs (by omega)
  have hlv := h.1.2.2.2.1.2.1 l hl
  cases e : (id_f μ l r μ.rs).1 with
  | none =>
    refine Or.inr ⟨rfl, fun j hj hj2 => ?_⟩
    rw [hlv, List.length_map]
    exact h3 e j hj hj2
  | some d =>
    obtain ⟨j, g1, g2, g3⟩ := h2 d e
    obtain ⟨g4, g5⟩ := id_mem.mp (List.mem_of_getElem? g3)
    refine Or.inl ⟨j, d, g1, g2, ?_, rfl, by omega, rl_live h d l g4 g5, by rw [so_st_len, en_r_len]⟩
    rw [hlv, List.getElem?_map, g3, se_en]; rfl
theorem rl_ent {c : Nat} (hc : 0 < c) (hc2 : c < 2 ^ 31) (k : Int32) : (∃ j, j < c ∧ k = nI j ∧ im_b k (nI 0) (mI c) = true) ∨ (im_b k (nI 0) (mI c) = false ∧ ∀ j : Nat, k = nI j → j < 2 ^ 31 → c ≤ j) := by
  obtain ⟨d, rfl⟩ : ∃ d, c = d + 1 := ⟨c - 1, by omega⟩
  have e : im_b k (nI 0) (mI (d + 1)) = in_r (d + 1) k := by
    rw [in_im hc2, show mI (d + 1) = nI d from nI_s1 d]
  rw [e]
  cases h : in_r (d + 1) k with
  | true =>
    obtain ⟨j, h1, h2⟩ := in_some hc2 h
    exact Or.inl ⟨j, h1, h2, rfl⟩
  | false =>
    refine Or.inr ⟨rfl, fun j hj hj2 => ?_⟩
    subst hj
    rw [in_nat hj2 hc2] at h
    have := of_decide_eq_false h
    omega
theorem le_snc {ids : List Nat} {p : en_P} (P : List en_P) : le_ct (ids.map (fun r => so_st (se_l (some r) (P ++ [p])))) = le_ct (ids.map (fun r => so_st (se_l (some r) (p :: P)))) := by
  induction ids with
  | nil => rfl
  | cons i ids ih =>
    simp only [List.map_cons, le_ct, so_st_len]
    rw [ih, se_app, se_1, se_cons]
    by_cases h : p.2 = some i
    · rw [if_pos h, if_pos h, List.length_append, List.length_cons]; rfl
    · rw [if_neg h, if_neg h, List.append_nil]
theorem le_at0 (μ : md_S) (l : Nat) (h3 : ∀ r l, μ.lf r = some l → r < μ.rs ∨ True) : ∀ k, (∀ i r, i < k → μ.rf i = some r → r < μ.rs) → le_ct ((id_l μ.lf l μ.rs).map (fun r => so_st (se_l (some r) (ml_P μ k)))) = ct_f (fun j => at_l μ j l) k
  | 0, _ => by
    show le_ct ((id_l μ.lf l μ.rs).map (fun r => so_st (se_l (some r) []))) = 0
    generalize id_l μ.lf l μ.rs = ids
    induction ids with
    | nil => rfl
    | cons i ids ih2 => simp only [List.map_cons, le_ct, ih2, so_st_len]; rfl
  | k + 1, hr => by
    have ih := le_at0 μ l h3 k (fun i r hi => hr i r (by omega))
    rw [ml_P, le_snc, le_inc (id_nd μ.lf l μ.rs), ih]
    cases ha : at_l μ k l with
    | true =>
      rw [ct_y (p := fun j => at_l μ j l) ha, if_pos]
      obtain ⟨r, g1, g2⟩ := at_iff.mp ha
      exact ⟨r, id_mem.mpr ⟨hr k r (by omega) g1, g2⟩, g1⟩
    | false =>
      rw [ct_n (p := fun j => at_l μ j l) ha, if_neg]
      · exact Nat.add_zero _
      rintro ⟨r, g1, g2⟩
      rw [at_iff.mpr ⟨r, g2, (id_mem.mp g1).2⟩] at ha
      cases ha
theorem rl_c1 {σ : kp_S} {μ : md_S} (h : rl_at σ μ) {l : Nat} (hl : l < 6) : le_ct (σ.lv l) = ct_f (fun j => at_l μ j l) μ.n := by
  rw [h.1.2.2.2.1.2.1 l hl]
  exact le_at0 μ l (fun _ _ _ => Or.inr trivial) μ.n (fun i r hi hr => (h.1.2.2.2.1.2.2.2.2.1 (me_e μ i) r (ml_mem.mpr ⟨i, hi, by rw [hr]⟩)).1)
theorem rl_c7 {σ : kp_S} {μ : md_S} (h : rl_at σ μ) : ∀ n, n ≤ 6 → sn_ct σ.sn n = ct_f μ.ss n
  | 0, _ => rfl
  | n + 1, hn => by
    have ih := rl_c7 h n (by omega)
    have e := h.1.2.2.1 n (by omega)
    cases hs : μ.ss n with
    | true =>
      rw [hs] at e
      rw [ct_y hs, sn_ct, ih, e]; rfl
    | false =>
      rw [hs] at e
      rw [ct_n hs, sn_ct, ih, e]; rfl
theorem rl_c8 {σ : kp_S} {μ : md_S} (h : rl_at σ μ) : (if σ.ib = true then nI σ.ad.length else -1) = rI μ.ba := by
  rcases h.1.2.1 with ⟨b1, b2, -⟩ | ⟨b1, b2, -⟩
  · rw [if_pos b1, b2]; rfl
  · rw [if_neg (by rw [b1]; decide), b2]; rfl
/-! the calls' budget: c calls, st steps of merging -/
def bu_ok (σ : kp_S) (μ : md_S) (c st : Nat) : Prop := μ.rs ≤ c + st ∧ 3 * st + nl_n σ.lv 6 ≤ c ∧ μ.sq ≤ 16 * c
theorem bu_0 : bu_ok kp_0 md_0 0 0 := ⟨Nat.le_refl _, Nat.le_refl _, Nat.le_refl _⟩
theorem bu_same {σ τ : kp_S} {μ ν : md_S} {c st : Nat} (h : bu_ok σ μ c st) (h1 : ν.rs = μ.rs) (h2 : τ.lv = σ.lv) (h3 : ν.sq ≤ μ.sq) : bu_ok τ ν (c + 1) st := by
  obtain ⟨a, b, d⟩ := h
  exact ⟨by omega, by rw [h2]; omega, by omega⟩
theorem md_fl_rs (μ : md_S) : (md_fl μ).rs ≤ μ.rs + 1 := by
  unfold md_fl
  split
  · exact Nat.le_succ _
  · exact Nat.le_refl _
theorem md_ff_rs (μ : md_S) : (md_ff μ).rs ≤ μ.rs + 1 ∧ (md_ff μ).sq = μ.sq := by
  unfold md_ff
  split
  · exact ⟨md_fl_rs μ, md_fl_sq μ⟩
  · exact ⟨Nat.le_succ _, rfl⟩
theorem bu_put {σ : kp_S} {μ : md_S} {c st k : Nat} {z : Int64} {b : Bool} (h : bu_ok σ μ c st) : bu_ok (kp_fl (kp_ap σ (k, 0, z, b)) 24) (md_ff (md_w (μ.er' 0) k z b)) (c + 1) st := by
  obtain ⟨a, b1, d⟩ := h
  obtain ⟨e1, e2⟩ := md_ff_rs (md_w (μ.er' 0) k z b)
  have e3 := nl_fl (kp_ap σ (k, 0, z, b)) 24
  have e4 : nl_n (kp_ap σ (k, 0, z, b)).lv 6 = nl_n σ.lv 6 := rfl
  have e5 : (md_w (μ.er' 0) k z b).rs = μ.rs := rfl
  have e6 : (md_w (μ.er' 0) k z b).sq = μ.sq + 1 := rfl
  exact ⟨by omega, by omega, by omega⟩
theorem ap_lv (σ : kp_S) (L : List en_T) : (ap_L σ L).lv = σ.lv := by
  induction L generalizing σ with
  | nil => rfl
  | cons x L ih => exact ih (kp_ap σ x)
theorem bu_end {σ : kp_S} {μ : md_S} {c st i : Nat} (h : bu_ok σ μ c st) (hi : i ≤ 16) (L : List en_T) : bu_ok (((kp_fl (ap_L σ L) 24).ib' false).ad' []) (md_ff ((md_wl (μ.er' 0) i).ba' none)) (c + 1) st := by
  obtain ⟨a, b1, d⟩ := h
  obtain ⟨e1, e2⟩ := md_ff_rs ((md_wl (μ.er' 0) i).ba' none)
  have e3 := nl_fl (ap_L σ L) 24
  rw [ap_lv] at e3
  have e5 : ∀ i, ((md_wl (μ.er' 0) i).ba' none).rs = μ.rs := by
    intro i
    induction i with
    | zero => rfl
    | succ i ih => exact ih
  have e5 := e5 i
  have e6 : ((md_wl (μ.er' 0) i).ba' none).sq = μ.sq + i := (md_wl_p (μ.er' 0) i).2.1
  have e7 : nl_n (((kp_fl (ap_L σ L) 24).ib' false).ad' []).lv 6 = nl_n (kp_fl (ap_L σ L) 24).lv 6 := rfl
  exact ⟨by omega, by omega, by omega⟩
theorem bu_flush {σ : kp_S} {μ : md_S} {c st : Nat} (h : bu_ok σ μ c st) : bu_ok (kp_fl σ 1) (md_fl (μ.er' 0)) (c + 1) st := by
  obtain ⟨a, b1, d⟩ := h
  have e1 := md_fl_rs (μ.er' 0)
  have e2 := md_fl_sq (μ.er' 0)
  have e3 := nl_fl σ 1
  have e5 : (μ.er' 0).rs = μ.rs := rfl
  have e6 : (μ.er' 0).sq = μ.sq := rfl
  exact ⟨by omega, by omega, by omega⟩
theorem md_mk_sq : ∀ {k : Nat} {μ ν : md_S}, md_mk μ k ν → ν.sq = μ.sq
  | 0, μ, ν, h => by
    have h : ν = μ := h
    rw [h]
  | k + 1, μ, ν, ⟨τ, h1, h2⟩ => by
    obtain ⟨l, f, -, -, -, -, rfl⟩ := h2
    rw [← md_mk_sq h1]
    have : ∀ j, (sc_f ((τ.ks' f).rs' (τ.rs + 1)) l τ.rs j).1.sq = τ.sq := by
      intro j
      induction j with
      | zero => rfl
      | succ j ih =>
        rw [sc_f]
        split
        · split
          · exact ih
          · exact ih
        · exact ih
    exact this τ.n
theorem bu_merge {σ τ : kp_S} {μ ν : md_S} {c st k : Nat} (h : bu_ok σ μ c st) (h1 : ν.rs = μ.rs + k) (h2 : nl_n τ.lv 6 + 3 * k ≤ nl_n σ.lv 6) (h3 : ν.sq = μ.sq) : bu_ok τ ν (c + 1) (st + k) := by
  obtain ⟨a, b, d⟩ := h
  exact ⟨by omega, by omega, by omega⟩
theorem bu_crash {σ : kp_S} {μ : md_S} {c st : Nat} (h : bu_ok σ μ c st) (hr : rl_at σ μ) : bu_ok (kp_cr σ) (md_cr μ) (c + 1) st := by
  obtain ⟨ν, m, c9, o, e, h1, h2, h3, h4, h5, h6, h7, h8⟩ := cr_inv (μ.er' 0) (md_er_ok hr.2.1 (by decide)) μ.n (Nat.le_refl _)
  have e0 : md_cr μ = (((ν.n' m).sq' o).ba' none).ss' (fun b => if b < 6 then false else ν.ss b) := by rw [md_cr, e]
  have hq : o ≤ μ.sq := by
    rw [h7]
    refine mx_le (fun x hx => ?_)
    obtain ⟨⟨y, q⟩, g1, rfl⟩ := List.mem_map.mp hx
    rw [h5] at g1
    have g2 := (cu_sub _ _).subset g1
    rw [show ml_P (μ.er' 0) μ.n = ml_P μ μ.n from ml_cong (fun j _ => ⟨rfl, rfl⟩)] at g2
    exact (hr.1.2.2.2.1.2.2.2.1 y q g2).2
  refine bu_same h ?_ rfl ?_
  · rw [e0]; exact h2.2.2.2.2.1
  · rw [e0]; exact hq
