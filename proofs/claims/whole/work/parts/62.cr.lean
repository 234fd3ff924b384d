/-! CRASH AND SNAPSHOTS on both sides -/
/-- all of the runs, and the first sf of the table -/
def cu_P : Nat → List en_P → List en_P
  | _, [] => []
  | sf, (x, none) :: P => if sf = 0 then cu_P 0 P else (x, none) :: cu_P (sf - 1) P
  | sf, (x, some r) :: P => (x, some r) :: cu_P sf P
theorem cu_sub : ∀ (sf : Nat) (P : List en_P), (cu_P sf P).Sublist P
  | _, [] => by simp [cu_P]
  | sf, (x, none) :: P => by
    rw [cu_P]
    split
    · exact List.Sublist.cons _ (cu_sub 0 P)
    · exact List.Sublist.cons_cons _ (cu_sub (sf - 1) P)
  | sf, (x, some r) :: P => by
    rw [cu_P]
    exact List.Sublist.cons_cons _ (cu_sub sf P)
theorem cu_t : ∀ (sf : Nat) (P : List en_P), se_l none (cu_P sf P) = (se_l none P).take sf
  | _, [] => by simp [cu_P, se_l]
  | sf, (x, none) :: P => by
    rw [cu_P, se_cons, if_pos rfl]
    by_cases h : sf = 0
    · rw [if_pos h, cu_t 0 P, h]; simp
    · obtain ⟨q, rfl⟩ : ∃ q, sf = q + 1 := ⟨sf - 1, by omega⟩
      rw [if_neg h, se_cons, if_pos rfl, cu_t (q + 1 - 1) P, Nat.add_sub_cancel, List.take_succ_cons]
  | sf, (x, some r) :: P => by
    rw [cu_P, se_cons, se_cons, if_neg (by simp), if_neg (by simp), cu_t sf P]
theorem cu_r (r : Nat) : ∀ (sf : Nat) (P : List en_P), se_l (some r) (cu_P sf P) = se_l (some r) P
  | _, [] => by simp [cu_P]
  | sf, (x, none) :: P => by
    rw [cu_P, se_cons (some r) (x, none) P, if_neg (show ¬ (none : Option Nat) = some r by simp)]
    by_cases h : sf = 0
    · rw [if_pos h, cu_r r 0 P]
    · rw [if_neg h, se_cons, if_neg (show ¬ (none : Option Nat) = some r by simp), cu_r r _ P]
  | sf, (x, some q) :: P => by rw [cu_P, se_cons, se_cons, cu_r r sf P]
theorem cu_sn : ∀ (sf : Nat) (P : List en_P) (x : en_T), cu_P sf (P ++ [(x, none)]) = if sf ≤ (se_l none P).length then cu_P sf P else cu_P sf P ++ [(x, none)]
  | sf, [], x => by
    simp only [List.nil_append, cu_P, se_l, List.filterMap_nil, List.length_nil, Nat.le_zero]
  | sf, (y, none) :: P, x => by
    rw [List.cons_append, cu_P, cu_P, se_cons, if_pos rfl, List.length_cons]
    by_cases h : sf = 0
    · rw [if_pos h, if_pos h, cu_sn 0 P x, if_pos (by omega), if_pos (by omega)]
    · rw [if_neg h, if_neg h, cu_sn (sf - 1) P x]
      by_cases h2 : sf - 1 ≤ (se_l none P).length
      · rw [if_pos h2, if_pos (by omega)]
      · rw [if_neg h2, if_neg (by omega)]; rfl
  | sf, (y, some r) :: P, x => by
    rw [List.cons_append, cu_P, cu_P, se_cons none (y, some r) P, if_neg (show ¬ (some r : Option Nat) = none by simp), cu_sn sf P x]
    by_cases h2 : sf ≤ (se_l none P).length
    · rw [if_pos h2, if_pos h2]
    · rw [if_neg h2, if_neg h2]; rfl
theorem cu_ss : ∀ (sf : Nat) (P : List en_P) (x : en_T) (r : Nat), cu_P sf (P ++ [(x, some r)]) = cu_P sf P ++ [(x, some r)]
  | sf, [], x, r => rfl
  | sf, (y, none) :: P, x, r => by
    rw [List.cons_append, cu_P, cu_P]
    by_cases h : sf = 0
    · rw [if_pos h, if_pos h, cu_ss 0 P x r]
    · rw [if_neg h, if_neg h, cu_ss (sf - 1) P x r]; rfl
  | sf, (y, some q) :: P, x, r => by
    rw [List.cons_append, cu_P, cu_P, cu_ss sf P x r]; rfl
theorem co_cr {tb : List en_T} {lv : Nat → List (List en_T)} {P : List en_P} {lf : Nat → Option Nat} {rs sq : Nat} (h : co_ok tb lv P lf rs sq) (sf : Nat) {s : Nat} (hs : ∀ x o, (x, o) ∈ cu_P sf P → x.2.1 ≤ s) : co_ok (tb.take sf) lv (cu_P sf P) lf rs s := by
  obtain ⟨h1, h2, p1, p2, p3, p4, p5, p6⟩ := h
  have hm : ∀ {p}, p ∈ cu_P sf P → p ∈ P := fun h => (cu_sub sf P).subset h
  refine ⟨?_, fun l hl => ?_, List.Pairwise.sublist (cu_sub sf P) p1, fun x o hx => ⟨(p2 x o (hm hx)).1, hs x o hx⟩, fun x r hx => p3 x r (hm hx), fun r l hr hl => ?_, fun x y r hx hy => p5 x y r (hm hx) (hm hy), fun x y r q l m hx hy => p6 x y r q l m (hm hx) (hm hy)⟩
  · rw [cu_t, h1]
  · rw [h2 l hl]
    exact List.map_congr_left (fun r _ => by rw [cu_r])
  · obtain ⟨x, hx⟩ := p4 r l hr hl
    refine ⟨x, ?_⟩
    rw [← se_mem, cu_r, se_mem]
    exact hx
theorem lv_fl_mem {lv : Nat → List (List en_T)} {x : en_T} : ∀ {n : Nat}, x ∈ lv_fl lv n ↔ ∃ l R, l < n ∧ R ∈ lv l ∧ x ∈ R
  | 0 => by simp [lv_fl]
  | n + 1 => by
    simp only [lv_fl, List.mem_append, lv_fl_mem (n := n), List.mem_flatten]
    constructor
    · rintro (⟨l, R, h1, h2, h3⟩ | ⟨R, h2, h3⟩)
      · exact ⟨l, R, by omega, h2, h3⟩
      · exact ⟨n, R, by omega, h2, h3⟩
    · rintro ⟨l, R, h1, h2, h3⟩
      by_cases e : l = n
      · subst e; exact Or.inr ⟨R, h2, h3⟩
      · exact Or.inl ⟨l, R, by omega, h2, h3⟩
theorem co_mem {tb : List en_T} {lv : Nat → List (List en_T)} {P : List en_P} {lf : Nat → Option Nat} {rs sq : Nat} (h : co_ok tb lv P lf rs sq) (hl : ∀ r l, lf r = some l → l < 6) {x : en_T} : x ∈ tb ++ lv_fl lv 6 ↔ x ∈ P.map (fun p => p.1) := by
  obtain ⟨h1, h2, p1, p2, p3, p4, p5, p6⟩ := h
  rw [List.mem_append, lv_fl_mem, List.mem_map]
  constructor
  · rintro (h | ⟨l, R, g1, g2, g3⟩)
    · rw [h1] at h
      exact ⟨_, se_mem.mp h, rfl⟩
    · rw [h2 l g1, List.mem_map] at g2
      obtain ⟨r, g4, rfl⟩ := g2
      exact ⟨_, se_mem.mp (so_st_mem.mp g3), rfl⟩
  · rintro ⟨⟨y, o⟩, g1, rfl⟩
    cases o with
    | none => exact Or.inl (by rw [h1]; exact se_mem.mpr g1)
    | some r =>
      obtain ⟨g2, l, g3⟩ := p3 y r g1
      refine Or.inr ⟨l, so_st (se_l (some r) P), hl r l g3, ?_, so_st_mem.mpr (se_mem.mpr g1)⟩
      rw [h2 l (hl r l g3), List.mem_map]
      exact ⟨r, id_mem.mpr ⟨g2, g3⟩, rfl⟩
theorem mx_fold : ∀ (L : List en_T) (a : Nat), a ≤ L.foldl (fun n x => max n x.2.1) a ∧ (∀ x ∈ L, x.2.1 ≤ L.foldl (fun n x => max n x.2.1) a) ∧ (L.foldl (fun n x => max n x.2.1) a = a ∨ ∃ x ∈ L, L.foldl (fun n x => max n x.2.1) a = x.2.1)
  | [], a => ⟨Nat.le_refl _, fun x h => absurd h List.not_mem_nil, Or.inl rfl⟩
  | y :: L, a => by
    obtain ⟨h1, h2, h3⟩ := mx_fold L (max a y.2.1)
    rw [List.foldl_cons]
    refine ⟨by omega, fun x hx => ?_, ?_⟩
    · rcases List.mem_cons.mp hx with rfl | hx
      · omega
      · exact h2 x hx
    · rcases h3 with h3 | ⟨x, hx, h3⟩
      · rcases Nat.le_total a y.2.1 with h | h
        · exact Or.inr ⟨y, List.mem_cons_self, by rw [h3]; omega⟩
        · exact Or.inl (by rw [h3]; omega)
      · exact Or.inr ⟨x, List.mem_cons_of_mem _ hx, h3⟩
theorem mx_ge {L : List en_T} {x : en_T} (h : x ∈ L) : x.2.1 ≤ mx_L L := (mx_fold L 0).2.1 x h
theorem mx_le {L : List en_T} {n : Nat} (h : ∀ x ∈ L, x.2.1 ≤ n) : mx_L L ≤ n := by
  rcases (mx_fold L 0).2.2 with e | ⟨x, hx, e⟩
  · unfold mx_L; rw [e]; omega
  · unfold mx_L; rw [e]; exact h x hx
theorem mx_eq {A B : List en_T} (h : ∀ x, x ∈ A ↔ x ∈ B) : mx_L A = mx_L B := Nat.le_antisymm (mx_le (fun x hx => mx_ge ((h x).mp hx))) (mx_le (fun x hx => mx_ge ((h x).mpr hx)))
/-- what a loop that copies entries keeps: all but the five columns of the entries -/
def sa_m (μ ν : md_S) : Prop := ν.er = μ.er ∧ ν.n = μ.n ∧ ν.sq = μ.sq ∧ ν.sf = μ.sf ∧ ν.rs = μ.rs ∧ ν.ba = μ.ba ∧ ν.pr = μ.pr ∧ ν.mi = μ.mi ∧ ν.lf = μ.lf ∧ ν.sv = μ.sv ∧ ν.bk = μ.bk ∧ ν.bv = μ.bv ∧ ν.ss = μ.ss ∧ ν.bd = μ.bd ∧ ν.ks = μ.ks
theorem cq_ml {ν : md_S} {m k : Nat} {o : Option Nat} : ml_P (md_cq ν m k o) (m + 1) = ml_P ν m ++ [(me_e ν k, o)] := by
  rw [ml_P, ml_cong (μ := ν)]
  · congr 2
    show ((va_up ν.kf m (ν.kf k) m, va_up ν.nf m (ν.nf k) m, va_up ν.vf m (ν.vf k) m, va_up ν.df m (ν.df k) m), va_up ν.rf m o m) = _
    rw [dk_us, dk_us, dk_us, dk_us, dk_us]
    rfl
  · intro j hj
    have e : j ≠ m := by omega
    constructor
    · show (va_up ν.kf m (ν.kf k) j, va_up ν.nf m (ν.nf k) j, va_up ν.vf m (ν.vf k) j, va_up ν.df m (ν.df k) j) = _
      rw [dk_un e, dk_un e, dk_un e, dk_un e]
      rfl
    · exact dk_un e
theorem cq_hi {ν : md_S} {m k j : Nat} {o : Option Nat} (h : j ≠ m) : me_e (md_cq ν m k o) j = me_e ν j ∧ (md_cq ν m k o).rf j = ν.rf j := by
  constructor
  · show (va_up ν.kf m (ν.kf k) j, va_up ν.nf m (ν.nf k) j, va_up ν.vf m (ν.vf k) j, va_up ν.df m (ν.df k) j) = _
    rw [dk_un h, dk_un h, dk_un h, dk_un h]
    rfl
  · exact dk_un h
theorem cr_inv (μ : md_S) (hm : md_ok μ) : ∀ k, k ≤ μ.n → ∃ ν m c o, cr_f μ k = (ν, m, c, o) ∧ m ≤ k ∧ sa_m μ ν ∧ md_ok ν ∧ (∀ j, k ≤ j → me_e ν j = me_e μ j ∧ ν.rf j = μ.rf j) ∧ ml_P ν m = cu_P μ.sf (ml_P μ k) ∧ c = (se_l none (ml_P μ k)).length ∧ o = mx_L ((ml_P ν m).map (fun p => p.1)) ∧ o < 2 ^ 30
  | 0, _ => ⟨μ, 0, 0, 0, rfl, Nat.le_refl _, ⟨rfl, rfl, rfl, rfl, rfl, rfl, rfl, rfl, rfl, rfl, rfl, rfl, rfl, rfl, rfl⟩, hm, fun j _ => ⟨rfl, rfl⟩, by simp [ml_P, cu_P], rfl, rfl, by decide⟩
  | k + 1, hk => by
    obtain ⟨ν, m, c, o, e, h1, h2, h3, h4, h5, h6, h7, h8⟩ := cr_inv μ hm k (by omega)
    obtain ⟨g1, g2⟩ := h4 k (Nat.le_refl _)
    have hq : md_cp ν m k = md_cq ν m k (ν.rf k) := rfl
    have hnf : ν.nf k = (me_e ν k).2.1 := rfl
    have hml : ml_P (md_cp ν m k) (m + 1) = ml_P ν m ++ [(me_e μ k, μ.rf k)] := by rw [hq, cq_ml, g1, g2]
    have hhi : ∀ j, k + 1 ≤ j → me_e (md_cp ν m k) j = me_e μ j ∧ (md_cp ν m k).rf j = μ.rf j := by
      intro j hj
      obtain ⟨a1, a2⟩ := cq_hi (ν := ν) (m := m) (k := k) (o := ν.rf k) (j := j) (by omega)
      obtain ⟨b1, b2⟩ := h4 j (by omega)
      exact ⟨by rw [hq, a1, b1], by rw [hq, a2, b2]⟩
    have hmx : max o (ν.nf k) = mx_L ((ml_P (md_cp ν m k) (m + 1)).map (fun p => p.1)) := by
      rw [hml, List.map_append, List.map_singleton, mx_snoc, ← h7, hnf, g1]
    have hmxlt : max o (ν.nf k) < 2 ^ 30 := by have := h3.2.1 k; omega
    by_cases hr : ν.rf k = none
    · have hr' : μ.rf k = none := g2 ▸ hr
      have hc1 : c + 1 = (se_l none (ml_P μ (k + 1))).length := by
        rw [ml_P, se_app, se_1, if_pos hr', List.length_append, h6]; rfl
      by_cases hcs : c < μ.sf
      · refine ⟨md_cp ν m k, m + 1, c + 1, max o (ν.nf k), cr_k e hr hcs, by omega, h2, md_cp_ok h3 m k, hhi, ?_, hc1, hmx, hmxlt⟩
        rw [hml, ml_P, hr', cu_sn, if_neg (by omega), h5]
      · refine ⟨ν, m, c + 1, o, cr_d e hr (by omega), by omega, h2, h3, fun j hj => h4 j (by omega), ?_, hc1, h7, h8⟩
        rw [ml_P, hr', cu_sn, if_pos (by omega), h5]
    · have hr' : ¬ μ.rf k = none := g2 ▸ hr
      obtain ⟨r, er⟩ : ∃ r, μ.rf k = some r := by
        cases hz : μ.rf k with
        | none => exact absurd hz hr'
        | some r => exact ⟨r, rfl⟩
      refine ⟨md_cp ν m k, m + 1, c, max o (ν.nf k), cr_r e hr, by omega, h2, md_cp_ok h3 m k, hhi, ?_, ?_, hmx, hmxlt⟩
      · rw [hml, ml_P, er, cu_ss, h5]
      · rw [ml_P, se_app, se_1, if_neg hr', List.append_nil, h6]
theorem rl_crash {σ : kp_S} {μ : md_S} (h : rl_at σ μ) : rl_at (kp_cr σ) (md_cr μ) := by
  obtain ⟨⟨⟨a1, a2, a3, a4⟩, hb, hs, hc, hf⟩, hm, hn, ht⟩ := h
  obtain ⟨ν, m, c, o, e, h1, h2, h3, h4, h5, h6, h7, h8⟩ := cr_inv (μ.er' 0) (md_er_ok hm (by decide)) μ.n (Nat.le_refl _)
  obtain ⟨q1, q2, q3, q4, q5, q6, q7, q8, q9, q10, q11, q12, q13, q14, q15⟩ := h2
  have e0 : md_cr μ = (((ν.n' m).sq' o).ba' none).ss' (fun b => if b < 6 then false else ν.ss b) := by rw [md_cr, e]
  have e1 : ml_P (μ.er' 0) μ.n = ml_P μ μ.n := ml_cong (fun j _ => ⟨rfl, rfl⟩)
  have h5' : ml_P ν m = cu_P μ.sf (ml_P μ μ.n) := by rw [h5, e1]
  have hco : co_ok (σ.tb.take σ.sf) σ.lv (ml_P ν m) μ.lf μ.rs o := by
    rw [h5', a2]
    refine co_cr hc μ.sf (fun x o2 hx => ?_)
    rw [← h5'] at hx
    rw [h7]
    exact mx_ge (List.mem_map.mpr ⟨_, hx, rfl⟩)
  have hmx : mx_L (σ.tb.take σ.sf ++ lv_fl σ.lv 6) = o := by
    rw [h7]
    exact mx_eq (fun x => co_mem hco hm.2.2.2.1)
  rw [e0]
  refine ⟨⟨⟨hmx, ?_, ?_, ?_⟩, Or.inr ⟨rfl, rfl, rfl⟩, fun j hj => ?_, ?_, ?_⟩, ?_, ?_, ?_⟩
  · show σ.sf = ν.sf
    rw [q4]; exact a2
  · show σ.pr = ν.pr
    rw [q7]; exact a3
  · show σ.mi = ν.mi
    rw [q8]; exact a4
  · show none = if (if j < 6 then false else ν.ss j) = true then _ else none
    rw [if_pos hj]; rfl
  · show co_ok (σ.tb.take σ.sf) σ.lv (ml_P _ m) ν.lf ν.rs o
    rw [q9, q5, show ml_P ((((ν.n' m).sq' o).ba' none).ss' (fun b => if b < 6 then false else ν.ss b)) m = ml_P ν m from ml_cong (fun j _ => ⟨rfl, rfl⟩)]
    exact hco
  · show σ.sf ≤ (σ.tb.take σ.sf).length
    rw [List.length_take]
    omega
  · obtain ⟨ok1, ok2, ok3, ok4, ok5, ok6, ok7, ok8, ok9, ok10, ok11⟩ := h3
    refine ⟨ok1, ok2, ok3, ok4, ?_, ok6, h8, ok8, fun b hb => (by cases hb), ok10, ok11⟩
    show m ≤ 640
    omega
  · show m ≤ 600
    omega
  · show (σ.tb.take σ.sf).length < 24
    rw [List.length_take]
    omega
theorem rl_ss {σ : kp_S} {μ : md_S} (h : rl_at σ μ) {j : Nat} (hj : j < 6) : (μ.ss j = true → σ.sn j = some (μ.sv j)) ∧ (μ.ss j = false → σ.sn j = none) := by
  have e := h.1.2.2.1 j hj
  constructor
  · intro h1
    rw [e, if_pos h1]
  · intro h1
    rw [e, if_neg (by rw [h1]; decide)]
theorem rl_snap {σ : kp_S} {μ : md_S} (h : rl_at σ μ) {j : Nat} (hj : j < 6) : rl_at (σ.sn' (va_up σ.sn j (some σ.sq))) (((μ.er' 0).ss' (va_up μ.ss j true)).sv' (va_up μ.sv j μ.sq)) := by
  obtain ⟨⟨⟨a1, a2, a3, a4⟩, hb, hs, hc, hf⟩, hm, hn, ht⟩ := h
  refine ⟨⟨⟨a1, a2, a3, a4⟩, hb, fun i hi => ?_, ?_, hf⟩, ?_, hn, ht⟩
  · show va_up σ.sn j (some σ.sq) i = if va_up μ.ss j true i = true then some (va_up μ.sv j μ.sq i) else none
    by_cases e : i = j
    · subst e
      rw [dk_us, dk_us, dk_us, if_pos rfl, a1]
    · rw [dk_un e, dk_un e, dk_un e]
      exact hs i hi
  · rw [show ml_P (((μ.er' 0).ss' (va_up μ.ss j true)).sv' (va_up μ.sv j μ.sq)) (((μ.er' 0).ss' (va_up μ.ss j true)).sv' (va_up μ.sv j μ.sq)).n = ml_P μ μ.n from ml_cong (fun j _ => ⟨rfl, rfl⟩)]
    exact hc
  · obtain ⟨ok1, ok2, ok3, ok4, ok5, ok6, ok7, ok8, ok9, ok10, ok11⟩ := hm
    exact ⟨ok1, ok2, ok3, ok4, ok5, ok6, ok7, up_all (P := fun v => v < 2 ^ 30) ok8 ok7, ok9, ok10, show (0 : Nat) < 3 by decide⟩
theorem rl_rel {σ : kp_S} {μ : md_S} (h : rl_at σ μ) {j : Nat} (hj : j < 6) : rl_at (σ.sn' (va_up σ.sn j none)) ((μ.er' 0).ss' (va_up μ.ss j false)) := by
  obtain ⟨⟨⟨a1, a2, a3, a4⟩, hb, hs, hc, hf⟩, hm, hn, ht⟩ := h
  refine ⟨⟨⟨a1, a2, a3, a4⟩, hb, fun i hi => ?_, ?_, hf⟩, md_er_ok hm (by decide), hn, ht⟩
  · show va_up σ.sn j none i = if va_up μ.ss j false i = true then some (μ.sv i) else none
    by_cases e : i = j
    · subst e
      rw [dk_us, dk_us, if_neg (by decide)]
    · rw [dk_un e, dk_un e]
      exact hs i hi
  · rw [show ml_P ((μ.er' 0).ss' (va_up μ.ss j false)) ((μ.er' 0).ss' (va_up μ.ss j false)).n = ml_P μ μ.n from ml_cong (fun j _ => ⟨rfl, rfl⟩)]
    exact hc
/-- what a snapshot's number names -/
theorem rl_vs {σ : kp_S} {μ : md_S} (h : rl_at σ μ) (k : Int32) : sn_g σ.sn k = vs_g μ k := by
  by_cases hk : k < 0
  · rw [sn_g1 hk, vs_n]
    unfold im_b
    rw [decide_eq_true (show k < nI 0 from hk)]; rfl
  · obtain ⟨j, hj, e⟩ := nI_of hk
    subst e
    by_cases h6 : j < 6
    · rw [sn_g3 h6]
      cases hs : μ.ss j with
      | true => rw [vs_y h6 hs, (rl_ss h h6).1 hs]
      | false => rw [vs_o h6 hs, (rl_ss h h6).2 hs]
    · rw [sn_g2 (by omega) hj, vs_n]
      unfold im_b
      rw [decide_eq_true (show nI 5 < nI j from (nI_ltI (by decide) hj).mpr (by omega))]
      simp
