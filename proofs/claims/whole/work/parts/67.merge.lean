/-! MERGING on both sides -/
theorem lz_in {g : Nat → Option Nat} {l n r : Nat} (hr : r < n) {q : Nat} : lz_f g l n r = some q ↔ g r = some q ∧ q ≠ l := by
  unfold lz_f
  by_cases h : g r = some l
  · rw [if_pos ⟨hr, h⟩]
    constructor
    · intro z; cases z
    · rintro ⟨h1, h2⟩
      rw [h] at h1
      cases h1
      exact absurd rfl h2
  · rw [if_neg (fun z => h z.2)]
    constructor
    · intro z
      exact ⟨z, fun e => h (by rw [z, e])⟩
    · exact fun z => z.1
theorem mg_lv (σ : kp_S) (l : Nat) : (mg_S σ l).lv = if mg_K σ l = [] then va_up σ.lv l [] else va_up (va_up σ.lv l []) (l + 1) (σ.lv (l + 1) ++ [mg_K σ l]) := by
  unfold mg_S lv_add
  split
  · rfl
  · show va_up (va_up σ.lv l []) (l + 1) (va_up σ.lv l [] (l + 1) ++ [mg_K σ l]) = _
    rw [dk_un (show l + 1 ≠ l by omega)]
theorem co_st {σ : kp_S} {μ : md_S} (hco : co_ok σ.tb σ.lv (ml_P μ μ.n) μ.lf μ.rs μ.sq) (hm : md_ok μ) (hs : rl_s σ μ) {l : Nat} (hl : l < 5) {f : Nat → Bool} (ht : tr_ok μ l (mg_e σ.lv (l + 1)) f) {y : Nat} (hy : 0 < y ↔ ∃ i, i < μ.n ∧ at_l μ i l = true ∧ f i = true) : co_ok σ.tb (mg_S σ l).lv (st_L μ l μ.rs f μ.n) (va_up (lz_f μ.lf l μ.rs) μ.rs (if 0 < y then some (l + 1) else none)) (μ.rs + 1) μ.sq := by
  obtain ⟨h1, h2, hpi⟩ := id hco
  obtain ⟨p1, p2, p3, p4, p5, p6⟩ := id hpi
  have hP : ∀ x o, (x, o) ∈ st_L μ l μ.rs f μ.n → (∃ r, (x, some r) ∈ ml_P μ μ.n ∧ μ.lf r = some l ∧ o = some μ.rs ∧ 0 < y) ∨ ((x, o) ∈ ml_P μ μ.n ∧ ∀ r, o = some r → μ.lf r ≠ some l) := by
    intro x o hx
    obtain ⟨i, hi, rfl, h | h⟩ := st_mem.mp hx
    · obtain ⟨r, g1, g2⟩ := at_iff.mp h.1
      exact Or.inl ⟨r, ml_mem.mpr ⟨i, hi, by rw [g1]⟩, g2, h.2.2, hy.mpr ⟨i, hi, h.1, h.2.1⟩⟩
    · refine Or.inr ⟨ml_mem.mpr ⟨i, hi, by rw [h.2]⟩, fun r hr hlr => ?_⟩
      have := at_iff.mpr ⟨r, h.2 ▸ hr, hlr⟩
      rw [h.1] at this
      cases this
  have hQ : ∀ x o, (x, o) ∈ ml_P μ μ.n → (∀ r, o = some r → μ.lf r ≠ some l) → (x, o) ∈ st_L μ l μ.rs f μ.n := by
    intro x o hx hno
    obtain ⟨i, hi, e⟩ := ml_mem.mp hx
    obtain ⟨e1, e2⟩ := Prod.mk.inj e
    refine st_mem.mpr ⟨i, hi, e1, Or.inr ⟨?_, e2⟩⟩
    cases ha : at_l μ i l with
    | false => rfl
    | true =>
      obtain ⟨r, g1, g2⟩ := at_iff.mp ha
      exact absurd g2 (hno r (e2.trans g1))
  have hlo : ∀ {r : Nat}, r < μ.rs → ∀ q, va_up (lz_f μ.lf l μ.rs) μ.rs (if 0 < y then some (l + 1) else none) r = some q ↔ μ.lf r = some q ∧ q ≠ l := by
    intro r hr q
    rw [dk_un (show r ≠ μ.rs by omega)]
    exact lz_in hr
  have hpi' : pi_ok (st_L μ l μ.rs f μ.n) (va_up (lz_f μ.lf l μ.rs) μ.rs (if 0 < y then some (l + 1) else none)) (μ.rs + 1) μ.sq := by
    refine ⟨?_, fun x o hx => ?_, fun x r hx => ?_, fun r q hr hq => ?_, fun x z r hx hz => ?_, fun x z r q a b hx hz ha hb hab => ?_⟩
    · have g1 : ((ml_P μ μ.n).map (fun p => p.1)).Pairwise (fun a b => a.2.1 < b.2.1) := List.pairwise_map.mpr p1
      have g2 := List.Pairwise.sublist (st_sub μ l μ.rs f μ.n) g1
      rw [List.pairwise_map] at g2
      exact g2
    · rcases hP x o hx with ⟨r, g1, -⟩ | ⟨g1, -⟩
      · exact p2 x _ g1
      · exact p2 x _ g1
    · rcases hP x _ hx with ⟨r0, g1, g2, g3, g4⟩ | ⟨g1, g2⟩
      · cases g3
        refine ⟨by omega, l + 1, ?_⟩
        rw [dk_us, if_pos g4]
      · obtain ⟨g3, q, g4⟩ := p3 x r g1
        exact ⟨by omega, q, (hlo g3 q).mpr ⟨g4, fun e => g2 r rfl (by rw [g4, e])⟩⟩
    · by_cases e : r = μ.rs
      · subst e
        rw [dk_us] at hq
        by_cases h0 : 0 < y
        · obtain ⟨i, g1, g2, g3⟩ := hy.mp h0
          exact ⟨me_e μ i, st_mem.mpr ⟨i, g1, rfl, Or.inl ⟨g2, g3, rfl⟩⟩⟩
        · rw [if_neg h0] at hq; cases hq
      · obtain ⟨g1, g2⟩ := (hlo (by omega) q).mp hq
        obtain ⟨x, g3⟩ := p4 r q (by omega) g1
        refine ⟨x, hQ x _ g3 (fun r0 e0 e1 => ?_)⟩
        cases e0
        rw [g1] at e1
        cases e1
        exact g2 rfl
    · rcases hP x _ hx with ⟨r0, -, -, g3, -⟩ | ⟨g1, -⟩
      · cases g3
      · rcases hP z _ hz with ⟨r0, g2, -⟩ | ⟨g2, -⟩
        · exact p5 x z r0 g1 g2
        · exact p5 x z r g1 g2
    · rcases hP x _ hx with ⟨r0, g1, g2, g3, g4⟩ | ⟨g1, g2⟩
      · cases g3
        rw [dk_us, if_pos g4] at ha
        cases ha
        rcases hP z _ hz with ⟨q0, k1, k2, k3, k4⟩ | ⟨k1, k2⟩
        · cases k3
          rw [dk_us, if_pos k4] at hb
          cases hb
          omega
        · have hq := (p3 z q k1).1
          obtain ⟨m1, m2⟩ := (hlo hq b).mp hb
          exact p6 x z r0 q l b g1 k1 g2 m1 (Or.inl (by omega))
      · have hr := (p3 x r g1).1
        obtain ⟨m1, m2⟩ := (hlo hr a).mp ha
        rcases hP z _ hz with ⟨q0, k1, k2, k3, k4⟩ | ⟨k1, k2⟩
        · cases k3
          rw [dk_us, if_pos k4] at hb
          cases hb
          exact p6 x z r q0 a l g1 k1 m1 k2 (Or.inl (by omega))
        · have hq := (p3 z q k1).1
          obtain ⟨m3, m4⟩ := (hlo hq b).mp hb
          exact p6 x z r q a b g1 k1 m1 m3 hab
  have hA := mg_so hco (l := l) (by omega)
  have hKm : ∀ x, x ∈ so_st (se_l (some μ.rs) (st_L μ l μ.rs f μ.n)) ↔ x ∈ mg_K σ l := by
    intro x
    rw [so_st_mem, se_mem, mg_K, kw_all hA]
    constructor
    · intro hx
      obtain ⟨i, hi, rfl, h | h⟩ := st_mem.mp hx
      · refine ⟨(mg_mem hco (by omega)).mpr ⟨i, hi, h.1, rfl⟩, ?_⟩
        exact (tr_sv hco hm hs (by omega) ht hi h.1).mp h.2.1
      · have := (p3 (me_e μ i) μ.rs (ml_mem.mpr ⟨i, hi, by rw [← h.2]⟩)).1
        omega
    · rintro ⟨g1, g2⟩
      obtain ⟨i, hi, g3, rfl⟩ := (mg_mem hco (by omega)).mp g1
      exact st_mem.mpr ⟨i, hi, rfl, Or.inl ⟨g3, (tr_sv hco hm hs (by omega) ht hi g3).mpr g2, rfl⟩⟩
  have hK : so_st (se_l (some μ.rs) (st_L μ l μ.rs f μ.n)) = mg_K σ l := so_uniq _ _ (so_st_ok (en_apP hpi' _)) (kw_ok hA _) hKm
  have hKy : mg_K σ l ≠ [] ↔ 0 < y := by
    rw [hy]
    constructor
    · intro hne
      obtain ⟨x, hx⟩ := List.exists_mem_of_ne_nil _ hne
      obtain ⟨i, hi, -, h | h⟩ := st_mem.mp (se_mem.mp (so_st_mem.mp ((hKm x).mpr hx)))
      · exact ⟨i, hi, h.1, h.2.1⟩
      · have := (p3 (me_e μ i) μ.rs (ml_mem.mpr ⟨i, hi, by rw [← h.2]⟩)).1
        omega
    · rintro ⟨i, hi, g1, g2⟩
      exact List.ne_nil_of_mem ((hKm _).mp (so_st_mem.mpr (se_mem.mpr (st_mem.mpr ⟨i, hi, rfl, Or.inl ⟨g1, g2, rfl⟩⟩))))
  have hid : ∀ q, q ≠ l → id_l (va_up (lz_f μ.lf l μ.rs) μ.rs (if 0 < y then some (l + 1) else none)) q μ.rs = id_l μ.lf q μ.rs := by
    intro q hq
    refine id_cong (fun r hr => ?_)
    rw [hlo hr q]
    exact ⟨fun z => z.1, fun z => ⟨z, hq⟩⟩
  have hidl : id_l (va_up (lz_f μ.lf l μ.rs) μ.rs (if 0 < y then some (l + 1) else none)) l μ.rs = [] := by
    refine List.eq_nil_iff_forall_not_mem.mpr (fun r hr => ?_)
    obtain ⟨g1, g2⟩ := id_mem.mp hr
    exact ((hlo g1 l).mp g2).2 rfl
  have hmap : ∀ q, q ≠ l → (id_l μ.lf q μ.rs).map (fun r => so_st (se_l (some r) (st_L μ l μ.rs f μ.n))) = (id_l μ.lf q μ.rs).map (fun r => so_st (se_l (some r) (ml_P μ μ.n))) := by
    intro q hq
    refine List.map_congr_left (fun r hr => ?_)
    obtain ⟨g1, g2⟩ := id_mem.mp hr
    rw [st_old μ l μ.rs f (fun z => by cases z; omega) (fun r0 e0 e1 => by cases e0; rw [g2] at e1; cases e1; exact hq rfl)]
  refine ⟨?_, fun q hq => ?_, hpi'⟩
  · rw [h1, st_old μ l μ.rs f (by simp) (fun r e => by cases e)]
  · rw [id_s, dk_us, mg_lv]
    by_cases h0 : 0 < y
    · have hne := hKy.mpr h0
      rw [if_pos h0, if_neg hne]
      rw [if_pos h0] at hid hidl
      by_cases e : q = l + 1
      · subst e
        rw [dk_us, if_pos rfl, List.map_append, List.map_singleton, hid _ (by omega), hmap _ (by omega), hK, h2 (l + 1) hq]
      · rw [dk_un e, if_neg (fun z => e (Option.some.inj z).symm)]
        by_cases e2 : q = l
        · subst e2
          rw [dk_us, hidl]; rfl
        · rw [dk_un e2, hid q e2, hmap q e2, h2 q hq]
    · have hnil : mg_K σ l = [] := by
        cases hz : mg_K σ l with
        | nil => rfl
        | cons a b => exact absurd (hKy.mp (by rw [hz]; simp)) h0
      rw [if_neg h0, if_pos hnil, if_neg (by simp)]
      rw [if_neg h0] at hid hidl
      by_cases e2 : q = l
      · subst e2
        rw [dk_us, hidl]; rfl
      · rw [dk_un e2, hid q e2, hmap q e2, h2 q hq]
theorem rl_ro {σ : kp_S} {μ : md_S} (h : rl_c σ μ) {l : Nat} (hl : l < 6) : ro_c μ l = (σ.lv l).length := by
  rw [h.2.2.2.1.2.1 l hl, List.length_map, id_len]
theorem lb_mg {σ : kp_S} {μ : md_S} (h : rl_c σ μ) (l : Nat) : lb_b μ l 6 = mg_e σ.lv (l + 1) := by
  have h1 : mg_e σ.lv (l + 1) = true ↔ lb_b μ l 6 = true := by
    rw [mg_ei]
    constructor
    · intro h2
      cases e : lb_b μ l 6 with
      | true => rfl
      | false =>
        obtain ⟨j, hj, h3⟩ := al_ex e
        rw [Bool.or_eq_false_iff] at h3
        have h4 := of_decide_eq_false h3.1
        have h5 := of_decide_eq_false h3.2
        have h6 := h2 j (by omega) hj
        rw [rl_ro h hj, h6] at h5
        exact absurd rfl h5
    · intro h2 j h3 h4
      have h5 := al_t h2 j h4
      have h5 : (decide (j ≤ l) || decide (ro_c μ j = 0)) = true := h5
      rw [Bool.or_eq_true] at h5
      rcases h5 with h5 | h5
      · exact absurd (of_decide_eq_true h5) (by omega)
      · have h6 := of_decide_eq_true h5
        rw [rl_ro h h4] at h6
        exact List.eq_nil_of_length_eq_zero h6
  cases e : lb_b μ l 6 with
  | true => exact (h1.mpr e).symm
  | false =>
    cases e2 : mg_e σ.lv (l + 1) with
    | false => rfl
    | true => rw [h1.mp e2] at e; cases e
theorem rl_st {σ : kp_S} {μ : md_S} (h : rl_at σ μ) (hr : μ.rs + 1 < 4000) {l : Nat} (hl : l < 5) {f : Nat → Bool} (ht : tr_ok μ l (lb_b μ l 6) f) : rl_at (mg_S σ l) (md_st μ l f) := by
  have hok := md_st_ok (f := f) h.2.1 hl hr
  obtain ⟨⟨⟨a1, a2, a3, a4⟩, hb, hs, hco, hf⟩, hm, hn, htl⟩ := id h
  rw [lb_mg h.1] at ht
  obtain ⟨ν, m, y, e, h1, h2, h4, h5, h6⟩ := sc_inv ((μ.ks' f).rs' (μ.rs + 1)) l μ.rs μ.n (Nat.le_refl _)
  obtain ⟨q1, q2, q3, q4, q5, q6, q7, q8, q9, q10, q11, q12, q13, q14, q15⟩ := h2
  have em : md_st μ l f = (ν.n' m).lf' (va_up (lz_f ν.lf l μ.rs) μ.rs (if 0 < y then some (l + 1) else none)) := by
    unfold md_st
    rw [e]
  have hat : ∀ i, at_l ((μ.ks' f).rs' (μ.rs + 1)) i l = at_l μ i l := fun i => rfl
  have hst : ∀ k, st_L ((μ.ks' f).rs' (μ.rs + 1)) l μ.rs f k = st_L μ l μ.rs f k := by
    intro k
    induction k with
    | zero => rfl
    | succ k ih => rw [st_L, st_L, ih]; rfl
  have h5 : ml_P ν m = st_L μ l μ.rs f μ.n := by rw [h5, ← hst]
  have hco' := co_st (y := y) hco hm hs hl ht h6
  have e1 : (mg_S σ l).sq = σ.sq ∧ (mg_S σ l).sf = σ.sf ∧ (mg_S σ l).pr = σ.pr ∧ (mg_S σ l).mi = σ.mi ∧ (mg_S σ l).ib = σ.ib ∧ (mg_S σ l).ad = σ.ad ∧ (mg_S σ l).sn = σ.sn ∧ (mg_S σ l).tb = σ.tb := by
    unfold mg_S lv_add
    split <;> exact ⟨rfl, rfl, rfl, rfl, rfl, rfl, rfl, rfl⟩
  obtain ⟨b1, b2, b3, b4, b5, b6, b7, b8⟩ := e1
  refine ⟨⟨⟨?_, ?_, ?_, ?_⟩, ?_, ?_, ?_, ?_⟩, hok, ?_, ?_⟩
  · rw [b1, em]; show σ.sq = ν.sq; rw [q3]; exact a1
  · rw [b2, em]; show σ.sf = ν.sf; rw [q4]; exact a2
  · rw [b3, em]; show σ.pr = ν.pr; rw [q7]; exact a3
  · rw [b4, em]; show σ.mi = ν.mi; rw [q8]; exact a4
  · unfold rl_b
    rw [b5, b6, em]
    show (σ.ib = true ∧ ν.ba = some σ.ad.length ∧ ∀ (j : Nat) (x : en_T), σ.ad[j]? = some x → x = (ν.bk j, 0, ν.bv j, ν.bd j)) ∨ (σ.ib = false ∧ ν.ba = none ∧ σ.ad = [])
    rw [q6, q11, q12, q14]
    exact hb
  · unfold rl_s
    rw [b7, em]
    show ∀ j, j < 6 → σ.sn j = if ν.ss j = true then some (ν.sv j) else none
    rw [q13, q10]
    exact hs
  · rw [b8, em]
    show co_ok σ.tb (mg_S σ l).lv (ml_P _ m) (va_up (lz_f ν.lf l μ.rs) μ.rs (if 0 < y then some (l + 1) else none)) ν.rs ν.sq
    rw [q9, q5, q3, show ml_P ((ν.n' m).lf' (va_up (lz_f ((μ.ks' f).rs' (μ.rs + 1)).lf l μ.rs) μ.rs (if 0 < y then some (l + 1) else none))) m = ml_P ν m from ml_cong (fun j _ => ⟨rfl, rfl⟩), h5]
    exact hco'
  · rw [b2, b8]; exact hf
  · rw [em]; show m ≤ 600; omega
  · rw [b8]; exact htl
/-- how many runs there are -/
def nl_n (lv : Nat → List (List en_T)) : Nat → Nat
  | 0 => 0
  | n + 1 => nl_n lv n + (lv n).length
theorem nl_up {lv : Nat → List (List en_T)} {i : Nat} {Rs : List (List en_T)} : ∀ (n : Nat), nl_n (va_up lv i Rs) n + (if i < n then (lv i).length else 0) = nl_n lv n + (if i < n then Rs.length else 0)
  | 0 => rfl
  | n + 1 => by
    have ih := nl_up (lv := lv) (i := i) (Rs := Rs) n
    simp only [nl_n]
    by_cases e : i = n
    · subst e
      rw [if_neg (Nat.lt_irrefl _), if_neg (Nat.lt_irrefl _)] at ih
      rw [dk_us, if_pos (Nat.lt_succ_self _), if_pos (Nat.lt_succ_self _)]
      omega
    · rw [dk_un (Ne.symm e)]
      by_cases h : i < n
      · rw [if_pos h, if_pos h] at ih
        rw [if_pos (by omega), if_pos (by omega)]
        omega
      · rw [if_neg h, if_neg h] at ih
        rw [if_neg (by omega), if_neg (by omega)]
        omega
theorem nl_st {σ : kp_S} {l : Nat} (hl : l < 5) (h4 : 4 ≤ (σ.lv l).length) : nl_n (mg_S σ l).lv 6 + 3 ≤ nl_n σ.lv 6 := by
  rw [mg_lv]
  have h1 := nl_up (lv := σ.lv) (i := l) (Rs := []) 6
  rw [if_pos (by omega), if_pos (by omega)] at h1
  split
  · simp at h1
    omega
  · have h2 := nl_up (lv := va_up σ.lv l []) (i := l + 1) (Rs := σ.lv (l + 1) ++ [mg_K σ l]) 6
    rw [if_pos (by omega), if_pos (by omega), dk_un (show l + 1 ≠ l by omega), List.length_append, List.length_singleton] at h2
    simp at h1
    omega
theorem nl_fl (σ : kp_S) (n : Nat) : nl_n (kp_fl σ n).lv 6 ≤ nl_n σ.lv 6 + 1 := by
  unfold kp_fl
  split
  · show nl_n (va_up σ.lv 0 (σ.lv 0 ++ [so_st σ.tb])) 6 ≤ _
    have h1 := nl_up (lv := σ.lv) (i := 0) (Rs := σ.lv 0 ++ [so_st σ.tb]) 6
    rw [if_pos (by omega), if_pos (by omega), List.length_append, List.length_singleton] at h1
    omega
  · omega
/-- a step of the reference is one of the keeper -/
theorem rl_step {σ : kp_S} {μ ν : md_S} (h : rl_at σ μ) (hr : μ.rs + 1 < 4000) (hst : st_R μ ν) : ∃ τ, mg_1 σ = some τ ∧ rl_at τ ν ∧ ν.rs = μ.rs + 1 ∧ nl_n τ.lv 6 + 3 ≤ nl_n σ.lv 6 := by
  obtain ⟨l, f, h1, h2, h3, h4, rfl⟩ := hst
  rw [rl_ro h.1 (by omega)] at h2
  have hj : mg_j σ.lv = some l := mg_js h1 h2 (fun i hi => by rw [← rl_ro h.1 (by omega)]; exact h3 i hi)
  exact ⟨mg_S σ l, by rw [mg_1, hj]; rfl, rl_st h hr h1 h4, md_st_rs, nl_st h1 h2⟩
theorem rl_stop {σ : kp_S} {μ : md_S} (h : rl_at σ μ) (hno : ∀ l, l < 5 → ro_c μ l < 4) : mg_1 σ = none := by
  rw [mg_1, mg_jn (fun i hi => by rw [← rl_ro h.1 (by omega)]; exact hno i hi)]; rfl
theorem mg_ns {σ τ : kp_S} (h : mg_1 σ = some τ) (n : Nat) : mg_n (n + 1) σ = ((mg_n n τ).1 + 1, (mg_n n τ).2) := by simp only [mg_n, h]
theorem mg_n0 {σ : kp_S} (h : mg_1 σ = none) : ∀ n, mg_n n σ = (0, σ)
  | 0 => rfl
  | n + 1 => by simp only [mg_n, h]
/-- k steps of the keeper, from the front -/
def mg_k : Nat → kp_S → kp_S → Prop
  | 0, σ, τ => τ = σ
  | k + 1, σ, τ => ∃ ρ, mg_k k σ ρ ∧ mg_1 ρ = some τ
theorem mg_front : ∀ (k : Nat) (σ ρ τ : kp_S), mg_1 σ = some ρ → mg_k k ρ τ → mg_k (k + 1) σ τ
  | 0, σ, ρ, τ, h1, h2 => ⟨σ, rfl, by rw [h2 ]; exact h1⟩
  | k + 1, σ, ρ, τ, h1, ⟨π, h2, h3⟩ => ⟨π, mg_front k σ ρ π h1 h2, h3⟩
theorem mg_back : ∀ (k : Nat) (σ τ : kp_S), mg_k (k + 1) σ τ → ∃ ρ, mg_1 σ = some ρ ∧ mg_k k ρ τ
  | 0, σ, τ, ⟨ρ, h1, h2⟩ => ⟨τ, by rw [← h1]; exact h2, rfl⟩
  | k + 1, σ, τ, ⟨ρ, h1, h2⟩ => by
    obtain ⟨π, h3, h4⟩ := mg_back k σ ρ h1
    exact ⟨π, h3, ρ, h4, h2⟩
theorem mg_kn : ∀ (k n : Nat) (σ τ : kp_S), k ≤ n → mg_k k σ τ → (k < n → mg_1 τ = none) → mg_n n σ = (k, τ)
  | 0, n, σ, τ, _, h, h0 => by
    have h : τ = σ := h
    subst h
    cases n with
    | zero => rfl
    | succ n => exact mg_n0 (h0 (by omega)) _
  | k + 1, 0, σ, τ, hk, h, h0 => absurd hk (by omega)
  | k + 1, n + 1, σ, τ, hk, h, h0 => by
    obtain ⟨ρ, h1, h2⟩ := mg_back k σ τ h
    rw [mg_ns h1, mg_kn k n ρ τ (by omega) h2 (fun h => h0 (by omega))]
theorem rl_steps {σ : kp_S} {μ : md_S} (h : rl_at σ μ) : ∀ (k : Nat) (ν : md_S), md_mk μ k ν → μ.rs + k < 4000 → ∃ τ, mg_k k σ τ ∧ rl_at τ ν ∧ ν.rs = μ.rs + k ∧ nl_n τ.lv 6 + 3 * k ≤ nl_n σ.lv 6
  | 0, ν, hk, _ => by
    have hk : ν = μ := hk
    subst hk
    exact ⟨σ, rfl, h, rfl, Nat.le_refl _⟩
  | k + 1, ν, ⟨π, h1, h2⟩, hr => by
    obtain ⟨τ, g1, g2, g3, g4⟩ := rl_steps h k π h1 (by omega)
    obtain ⟨ρ, k1, k2, k3, k4⟩ := rl_step g2 (by omega) h2
    exact ⟨ρ, ⟨τ, g1, k1⟩, k2, by omega, by omega⟩
theorem rl_merge {σ : kp_S} {μ ν : md_S} (h : rl_at σ μ) {k n : Nat} (hk : k ≤ n) (hmk : md_mk (μ.er' 0) k ν) (hno : k < n → ∀ l, l < 5 → ro_c ν l < 4) (hr : μ.rs + k < 4000) : (mg_n n σ).1 = k ∧ rl_at (mg_n n σ).2 ν ∧ ν.rs = μ.rs + k ∧ nl_n (mg_n n σ).2.lv 6 + 3 * k ≤ nl_n σ.lv 6 := by
  obtain ⟨τ, g1, g2, g3, g4⟩ := rl_steps (h.er (c := 0) (by decide)) k ν hmk hr
  have e := mg_kn k n σ τ hk g1 (fun hlt => rl_stop g2 (hno hlt))
  rw [e]
  exact ⟨rfl, g2, g3, g4⟩
