/-! RunKeeperModel: a step of merging (printed by gen/c_md10.py) -/
/-- how many runs a level has -/
abbrev ro_c (μ : md_S) (l : Nat) : Nat := ct_f (fun k9 => decide (μ.lf k9 = some l)) μ.rs
theorem ro_le (μ : md_S) (l : Nat) : ro_c μ l ≤ μ.rs := ct_le _ _
def lb_b (μ : md_S) (l j : Nat) : Bool := al_b (fun q => decide (q ≤ l) || decide (ro_c μ q = 0)) j
theorem lb_0 (μ : md_S) (l : Nat) : lb_b μ l (l + 1) = true := by
  have : ∀ n, n ≤ l + 1 → lb_b μ l n = true := by
    intro n
    induction n with
    | zero => intro _; rfl
    | succ n ih => intro h; rw [lb_b, al_s, show al_b _ n = true from ih (by omega), decide_eq_true (show n ≤ l by omega)]; rfl
  exact this (l + 1) (Nat.le_refl _)
theorem lb_y {μ : md_S} {l j : Nat} (h : ro_c μ j = 0) : lb_b μ l (j + 1) = lb_b μ l j := by rw [lb_b, al_s, decide_eq_true h, Bool.or_true, Bool.and_true]; rfl
theorem lb_n {μ : md_S} {l j : Nat} (hj : l < j) (h : 0 < ro_c μ j) : lb_b μ l (j + 1) = false := by rw [lb_b, al_s, decide_eq_false (show ¬ ro_c μ j = 0 by omega), decide_eq_false (show ¬ j ≤ l by omega)]; simp
def kk_b (μ : md_S) (l k : Nat) : Bool := at_l μ k l && ik_b μ k l
def kf_f (μ : md_S) (l i : Nat) : Nat → Bool := fun b => if b < i then kk_b μ l b else μ.ks b
theorem kf_0 (μ : md_S) (l : Nat) : kf_f μ l 0 = μ.ks := by
  funext b
  exact if_neg (by omega)
theorem kf_y {μ : md_S} {l i b : Nat} (h : b < i) : kf_f μ l i b = kk_b μ l b := if_pos h
theorem kf_s {μ : md_S} {l i : Nat} {v : Bool} (h : kk_b μ l i = v) : kf_f μ l (i + 1) = va_up (kf_f μ l i) i v := by
  funext b
  by_cases e : b = i
  · subst e
    rw [dk_us, ← h]
    exact if_pos (by omega)
  · rw [dk_un e]
    unfold kf_f
    by_cases hb : b < i
    · rw [if_pos hb, if_pos (by omega)]
    · rw [if_neg hb, if_neg (by omega)]
/-- while deleted tails are dropped: f are the kept ones -/
def tr_i (μ : md_S) (l : Nat) (f : Nat → Bool) : Prop := (∀ k, k < μ.n → f k = true → kk_b μ l k = true) ∧ ∀ k, k < μ.n → kk_b μ l k = true → f k = false → μ.df k = true ∧ ∀ j, j < μ.n → f j = true → μ.kf j = μ.kf k → ¬ μ.nf j < μ.nf k
def tr_e (μ : md_S) (f : Nat → Bool) : Prop := ∀ k, k < μ.n → f k = true → μ.df k = true → ∃ j, j < μ.n ∧ f j = true ∧ μ.kf j = μ.kf k ∧ μ.nf j < μ.nf k
def tr_ok (μ : md_S) (l : Nat) (b : Bool) (f : Nat → Bool) : Prop := (b = false ∧ ∀ k, k < μ.n → f k = kk_b μ l k) ∨ (b = true ∧ tr_i μ l f ∧ tr_e μ f)
theorem tr_0 {μ : md_S} {l : Nat} : tr_i μ l (kf_f μ l μ.n) := ⟨fun k hk h => by rw [kf_y hk] at h; exact h, fun k hk h h1 => by rw [kf_y hk, h] at h1; cases h1⟩
def rm_b (μ : md_S) (g : Nat → Bool) (q : Nat) : Bool := g q && μ.df q && al_b (fun j => !la_b (μ.ks' g) q j) μ.n
theorem al_t {p : Nat → Bool} {n : Nat} (h : al_b p n = true) : ∀ j, j < n → p j = true := by
  intro j hj
  cases hp : p j with
  | true => rfl
  | false => rw [al_f hj hp] at h; cases h
theorem al_ex {p : Nat → Bool} {n : Nat} (h : al_b p n = false) : ∃ j, j < n ∧ p j = false := by
  induction n with
  | zero => cases h
  | succ n ih =>
    rw [al_s] at h
    cases h1 : al_b p n with
    | false => obtain ⟨j, h2, h3⟩ := ih h1; exact ⟨j, by omega, h3⟩
    | true => rw [h1, Bool.true_and] at h; exact ⟨n, by omega, h⟩
theorem tr_fin {μ : md_S} {g : Nat → Bool} (h : ∀ p, p < μ.n → rm_b μ g p = false) : tr_e μ g := by
  intro k hk h1 h2
  have h3 := h k hk
  rw [rm_b, h1, h2, Bool.true_and, Bool.true_and] at h3
  obtain ⟨j, hj, h4⟩ := al_ex h3
  have h5 : la_b (μ.ks' g) k j = true := by simpa using h4
  have h6 : (g j && decide (μ.kf j = μ.kf k) && decide (μ.nf j < μ.nf k)) = true := h5
  rw [Bool.and_eq_true, Bool.and_eq_true] at h6
  exact ⟨j, hj, h6.1.1, of_decide_eq_true h6.1.2, of_decide_eq_true h6.2⟩
theorem tr_rm {μ : md_S} {l k : Nat} {g : Nat → Bool} (h : tr_i μ l g) (hk : k < μ.n) (h1 : g k = true) (h2 : μ.df k = true) (h3 : al_b (fun j => !la_b (μ.ks' g) k j) μ.n = true) : tr_i μ l (va_up g k false) := by
  have sub : ∀ j, va_up g k false j = true → g j = true := by
    intro j hj
    by_cases e : j = k
    · subst e; exact h1
    · rw [dk_un e] at hj; exact hj
  refine ⟨fun j hj hg => h.1 j hj (sub j hg), fun j hj hkk hg => ?_⟩
  by_cases e : j = k
  · subst e
    refine ⟨h2, fun q hq hgq hkq hlt => ?_⟩
    have h4 := al_t h3 q hq
    have h5 : la_b (μ.ks' g) j q = true := by
      show (g q && decide (μ.kf q = μ.kf j) && decide (μ.nf q < μ.nf j)) = true
      rw [sub q hgq, decide_eq_true hkq, decide_eq_true hlt]
      rfl
    rw [h5] at h4
    cases h4
  · rw [dk_un e] at hg
    obtain ⟨h4, h5⟩ := h.2 j hj hkk hg
    exact ⟨h4, fun q hq hgq => h5 q hq (sub q hgq)⟩
theorem ct_dn {g : Nat → Bool} {n k : Nat} (hk : k < n) (h : g k = true) : ct_f (va_up g k false) n < ct_f g n := by
  have same : ∀ m, m ≤ k → ct_f (va_up g k false) m = ct_f g m := by
    intro m
    induction m with
    | zero => intro _; rfl
    | succ m ih => intro hm; simp only [ct_f, ih (by omega), dk_un (show m ≠ k by omega)]
  have less : ∀ d, ct_f (va_up g k false) (k + 1 + d) + 1 = ct_f g (k + 1 + d) := by
    intro d
    induction d with
    | zero => simp only [ct_f, Nat.add_zero, same k (Nat.le_refl _), dk_us, h]; simp
    | succ d ih =>
      have e : k + 1 + (d + 1) = (k + 1 + d) + 1 := by omega
      rw [e]
      simp only [ct_f, dk_un (show k + 1 + d ≠ k by omega)]
      omega
  have := less (n - (k + 1))
  rw [show k + 1 + (n - (k + 1)) = n by omega] at this
  omega
theorem tr_lt {f g : Nat → Bool} {m : Bool} {n a : Nat} {P : Prop} (h : a < ct_f g n) (h1 : m = true → ct_f g n < ct_f f n) (h2 : m = false → g = f ∧ P) : a < ct_f f n := by
  cases m with
  | true => exact Nat.lt_trans h (h1 rfl)
  | false => rw [← (h2 rfl).1]; exact h
theorem tr_ms {f g : Nat → Bool} {m : Bool} {n z : Nat} {P : Prop} (h1 : m = true → ct_f g n < ct_f f n) (h2 : m = false → g = f ∧ P) (hk : ct_f f n + 1 < z + 1) : ct_f g n + (if m = true then 1 else 0) < z := by
  cases m with
  | true => have := h1 rfl; rw [if_pos rfl]; omega
  | false => rw [(h2 rfl).1, if_neg (by decide)]; omega
def md_ok5 (ν : md_S) : Prop := (∀ i r, ν.rf i = some r → r < 5000) ∧ ∀ r l, ν.lf r = some l → l < 6
def md_cq (ν : md_S) (m k : Nat) (o : Option Nat) : md_S := ((((ν.kf' (va_up ν.kf m (ν.kf k))).nf' (va_up ν.nf m (ν.nf k))).vf' (va_up ν.vf m (ν.vf k))).df' (va_up ν.df m (ν.df k))).rf' (va_up ν.rf m o)
theorem cq_ok {ν : md_S} (h : md_ok5 ν) (m k : Nat) {o : Option Nat} (ho : ∀ r, o = some r → r < 5000) : md_ok5 (md_cq ν m k o) := ⟨fun i => up_all (P := fun o => ∀ r, o = some r → r < 5000) h.1 ho i, h.2⟩
/-- what stays, in its places; mine (of level l) become of the run t -/
def sc_f (μ : md_S) (l t : Nat) : Nat → md_S × Nat × Nat
  | 0 => (μ, 0, 0)
  | k + 1 => if at_l (sc_f μ l t k).1 k l = true then (if (sc_f μ l t k).1.ks k = true then (md_cq (sc_f μ l t k).1 (sc_f μ l t k).2.1 k (some t), (sc_f μ l t k).2.1 + 1, (sc_f μ l t k).2.2 + 1) else sc_f μ l t k)
    else (md_cq (sc_f μ l t k).1 (sc_f μ l t k).2.1 k ((sc_f μ l t k).1.rf k), (sc_f μ l t k).2.1 + 1, (sc_f μ l t k).2.2)
theorem sc_m {μ ν : md_S} {l t k m y : Nat} (h : sc_f μ l t k = (ν, m, y)) (h1 : at_l ν k l = true) (h2 : ν.ks k = true) : sc_f μ l t (k + 1) = (md_cq ν m k (some t), m + 1, y + 1) := by
  rw [sc_f, h]
  simp only
  rw [if_pos h1, if_pos h2]
theorem sc_d {μ ν : md_S} {l t k m y : Nat} (h : sc_f μ l t k = (ν, m, y)) (h1 : at_l ν k l = true) (h2 : ν.ks k = false) : sc_f μ l t (k + 1) = (ν, m, y) := by
  rw [sc_f, h]
  simp only
  rw [if_pos h1, if_neg (by rw [h2]; decide)]
theorem sc_o {μ ν : md_S} {l t k m y : Nat} (h : sc_f μ l t k = (ν, m, y)) (h1 : at_l ν k l = false) : sc_f μ l t (k + 1) = (md_cq ν m k (ν.rf k), m + 1, y) := by
  rw [sc_f, h]
  simp only
  rw [if_neg (by rw [h1]; decide)]
def lz_f (g : Nat → Option Nat) (l j : Nat) : Nat → Option Nat := fun b => if b < j ∧ g b = some l then none else g b
theorem lz_0 (g : Nat → Option Nat) (l : Nat) : lz_f g l 0 = g := by
  funext b
  exact if_neg (fun z => absurd z.1 (by omega))
theorem lz_n {g : Nat → Option Nat} {l j : Nat} (h : ¬ g j = some l) : lz_f g l (j + 1) = lz_f g l j := by
  funext b
  unfold lz_f
  by_cases e : b = j
  · subst e
    rw [if_neg (fun z => h z.2), if_neg (fun z => h z.2)]
  · by_cases h1 : b < j ∧ g b = some l
    · rw [if_pos h1, if_pos ⟨by omega, h1.2⟩]
    · rw [if_neg h1, if_neg (fun z => h1 ⟨by omega, z.2⟩)]
theorem lz_y {g : Nat → Option Nat} {l j : Nat} (h : g j = some l) : lz_f g l (j + 1) = va_up (lz_f g l j) j none := by
  funext b
  by_cases e : b = j
  · subst e
    rw [dk_us]
    exact if_pos ⟨by omega, h⟩
  · rw [dk_un e]
    unfold lz_f
    by_cases h1 : b < j ∧ g b = some l
    · rw [if_pos h1, if_pos ⟨by omega, h1.2⟩]
    · rw [if_neg h1, if_neg (fun z => h1 ⟨by omega, z.2⟩)]
/-- the state behind a step that merges level l, f the kept ones -/
def md_st (μ : md_S) (l : Nat) (f : Nat → Bool) : md_S := ((sc_f ((μ.ks' f).rs' (μ.rs + 1)) l μ.rs μ.n).1.n' (sc_f ((μ.ks' f).rs' (μ.rs + 1)) l μ.rs μ.n).2.1).lf' (va_up (lz_f (sc_f ((μ.ks' f).rs' (μ.rs + 1)) l μ.rs μ.n).1.lf l μ.rs) μ.rs (if 0 < (sc_f ((μ.ks' f).rs' (μ.rs + 1)) l μ.rs μ.n).2.2 then some (l + 1) else none))
abbrev rm_M_step : Room := { frames := 2, cells := 0, slots := 0, locals := 47 }
set_option maxHeartbeats 4000000 in
set_option maxRecDepth 100000 in
theorem c_M_step0 (l : Launch) (G : dk_G) (w : dk_H) (h : Nat) (D : md_D) (μ : md_S) (hm : md_at G w h D μ) (hmo : md_ok μ) (hno : ∀ l, l < 5 → ro_c μ l < 4) : dk_Mi l my_M_step (wd_c my_M_step mb_M_step 8 (some .boolean)) rm_M_step G w [.ref h] (fun r w1 => r = bo_i false ∧ w1 = w) 0 0 := by
  obtain ⟨ok1, ok2, ok3, ok4, ok5, ok6, ok7, ok8, ok9, ok10, ok11⟩ := id hmo
  refine dk_enter (lv := [(0, .ref h)]) (by decide) (Nat.le_of_ble_eq_true rfl) rfl (fun p e s m args below meth c ls Q hQ C hP hS hl => ?_)
  obtain ⟨hx, hb, hr, hml, hlocks, hown, hnm, hts, hE⟩ := C
  have hK := hE.1
  have hN := hE.2.1
  have hh_6649 : w h = some (100, .inr (cx_M, [.int (nI μ.er), .int (nI μ.n), .int (nI μ.sq), .int (nI μ.sf), .int (nI μ.rs), .int (rI μ.ba), .int (nI μ.pr), .int (nI μ.mi), .ref D.kf, .ref D.nf, .ref D.rf, .ref D.lf, .ref D.sv, .ref D.bk, .ref D.od, .ref D.vf, .ref D.bv, .ref D.df, .ref D.ss, .ref D.bd, .ref D.ks, .ref D.bt])) := hm.o
  refine lv_iconst (v := nI 0) hx hb de_M_step_0 (by decide) ?_
  refine lv_istore_n (lv' := [(1, .int (nI 0)), (0, .ref h)]) hx hb de_M_step_1 rfl hl (by decide) rfl (fun ls hl => ?_)
  have lp : ∀ (zk : Nat) (i : Nat), 5 - i < zk → (i ≤ 5) → ∀ (H : Heap) (locs : List Loc), dk_P G w H → dk_S G s.heap H locs → ∀ (ls : Array Slot), lv_has ls 8 [(0, .ref h), (1, .int (nI i))] → W p l e rm_M_step s m args below meth c H locs 0 0 Q (F0 m 2 ls []) := by
    intro zk
    induction zk with
    | zero =>
      intro i hk
      exact absurd hk (by omega)
    | succ zk ih =>
      intro i hk hi
      intro H locs hP hS
      intro ls hl
      refine lv_iload_n hx hb de_M_step_2 rfl (lv_at hl 1 rfl) ?_
      refine lv_iconst (v := nI 5) hx hb de_M_step_3 (by decide) ?_
      refine nx_icmp_ge (a := i) (b := 5) (tgt := 22) hx hb (by omega) (by omega) de_M_step_4 (by decide) (fun c_6650 => ?_) (fun c_6650 => ?_)
      · refine lv_iload_n hx hb de_M_step_22 rfl (lv_at hl 1 rfl) ?_
        refine lv_iconst (v := nI 5) hx hb de_M_step_23 (by decide) ?_
        refine nx_icmp_ne (a := i) (b := 5) (tgt := 29) hx hb (by omega) (by omega) de_M_step_24 (by decide) (fun c_6651 => ?_) (fun c_6651 => ?_)
        · exact absurd c_6651 (by omega)
        · refine lv_iconst (v := nI 0) hx hb de_M_step_27 (by decide) ?_
          exact dk_zret hQ hx hb hr hlocks hP hS (Nat.le_refl _) (Nat.le_refl _) (by decide +kernel) (⟨bo_of0 rfl, rfl⟩) de_M_step_28
      · refine lv_aload_n hx hb de_M_step_7 rfl (lv_at hl 0 rfl) ?_
        refine lv_iload_n hx hb de_M_step_8 rfl (lv_at hl 1 rfl) ?_
        refine dk_calli (va_runV (As := [.int (nI i)]) (rest := []) ⟨hx, hb, hml, hown, hts⟩ (c_M_runsOf l G w h D μ hm hmo (some i) (fun r hr => by cases hr; omega)) (cwV 1 hts (wd_gV (C := "RunKeeperModel") wi_843 wi_840 wi_842 (wd_p (q := (⟨"RunKeeperModel", "runsOf", "(I)I"⟩, 22)) (by decide +kernel) (by decide +kernel)) wi_8) rfl rfl rfl (by decide +kernel) ⟨Nat.le_of_ble_eq_true rfl, Nat.le_of_ble_eq_true rfl⟩) (dk_preV (kn_M, kt_M, 22) hE hP hS hh_6649 rfl) rfl rfl hl.1 rfl (lv_room (Nat.le_of_ble_eq_true rfl)) de_M_step_9 ⟨(by first | exact Nat.le_of_ble_eq_true rfl | (simp only [Nat.zero_add]; omega) | omega), (by first | exact Nat.le_of_ble_eq_true rfl | (simp only [Nat.zero_add]; omega) | omega)⟩) hS (fun r_6654 w_6652 H locs hq_6653 hP hS => ?_)
        obtain ⟨hr_6655, he_6656⟩ := hq_6653
        subst hr_6655
        rw [he_6656] at hP
        have hrl := ro_le μ i
        refine lv_iconst (v := nI 4) hx hb de_M_step_12 (by decide) ?_
        have hn4 := hno i (by omega)
        refine nx_icmp_ge (a := ro_c μ i) (b := 4) (tgt := 22) hx hb (by omega) (by omega) de_M_step_13 (by decide) (fun c_6657 => ?_) (fun c_6657 => ?_)
        · exact absurd c_6657 (by omega)
        · refine lv_iinc (v := nI (i + 1)) (lv' := [(1, .int (nI (i + 1))), (0, .ref h)]) hx hb de_M_step_16 hl (k := 1) rfl (nx_inc i) (by decide) rfl (fun ls hl => ?_)
          refine lv_goto (tgt := 2) hx hb de_M_step_19 (by decide) ?_
          exact ih (i + 1) (by omega) (by omega) _ _ hP hS _ (lv_sub hl [1, 0] rfl)
  exact lp 6 0 (by omega) (by omega) _ _ hP hS _ (lv_sub hl [1, 0] rfl)
set_option maxHeartbeats 4000000 in
set_option maxRecDepth 100000 in
theorem c_M_step1 (l : Launch) (G : dk_G) (w : dk_H) (h : Nat) (D : md_D) (μ : md_S) (hm : md_at G w h D μ) (hmo : md_ok μ) (l9 : Nat) (hl5 : l9 < 5) (hl4 : 4 ≤ ro_c μ l9) (hno : ∀ l, l < l9 → ro_c μ l < 4) : dk_Mi l my_M_step (wd_c my_M_step mb_M_step 8 (some .boolean)) rm_M_step G w [.ref h] (fun r w1 => r = bo_i true ∧ (∃ f, tr_ok μ l9 (lb_b μ l9 6) f ∧ md_at G w1 h D (md_st μ l9 f)) ∧ dk_fr md_T w w1) 0 0 := by
  obtain ⟨ok1, ok2, ok3, ok4, ok5, ok6, ok7, ok8, ok9, ok10, ok11⟩ := id hmo
  refine dk_enter (lv := [(0, .ref h)]) (by decide) (Nat.le_of_ble_eq_true rfl) rfl (fun p e s m args below meth c ls Q hQ C hP hS hl => ?_)
  obtain ⟨hx, hb, hr, hml, hlocks, hown, hnm, hts, hE⟩ := C
  have hK := hE.1
  have hN := hE.2.1
  have hh_6658 : w h = some (100, .inr (cx_M, [.int (nI μ.er), .int (nI μ.n), .int (nI μ.sq), .int (nI μ.sf), .int (nI μ.rs), .int (rI μ.ba), .int (nI μ.pr), .int (nI μ.mi), .ref D.kf, .ref D.nf, .ref D.rf, .ref D.lf, .ref D.sv, .ref D.bk, .ref D.od, .ref D.vf, .ref D.bv, .ref D.df, .ref D.ss, .ref D.bd, .ref D.ks, .ref D.bt])) := hm.o
  refine lv_iconst (v := nI 0) hx hb de_M_step_0 (by decide) ?_
  refine lv_istore_n (lv' := [(1, .int (nI 0)), (0, .ref h)]) hx hb de_M_step_1 rfl hl (by decide) rfl (fun ls hl => ?_)
  have lp : ∀ (zk : Nat) (i : Nat), l9 - i < zk → (i ≤ l9) → ∀ (H : Heap) (locs : List Loc), dk_P G w H → dk_S G s.heap H locs → ∀ (ls : Array Slot), lv_has ls 8 [(0, .ref h), (1, .int (nI i))] → W p l e rm_M_step s m args below meth c H locs 0 0 Q (F0 m 2 ls []) := by
    intro zk
    induction zk with
    | zero =>
      intro i hk
      exact absurd hk (by omega)
    | succ zk ih =>
      intro i hk hi
      intro H locs hP hS
      intro ls hl
      refine lv_iload_n hx hb de_M_step_2 rfl (lv_at hl 1 rfl) ?_
      refine lv_iconst (v := nI 5) hx hb de_M_step_3 (by decide) ?_
      refine nx_icmp_ge (a := i) (b := 5) (tgt := 22) hx hb (by omega) (by omega) de_M_step_4 (by decide) (fun c_6659 => ?_) (fun c_6659 => ?_)
      · exact absurd c_6659 (by omega)
      · refine lv_aload_n hx hb de_M_step_7 rfl (lv_at hl 0 rfl) ?_
        refine lv_iload_n hx hb de_M_step_8 rfl (lv_at hl 1 rfl) ?_
        refine dk_calli (va_runV (As := [.int (nI i)]) (rest := []) ⟨hx, hb, hml, hown, hts⟩ (c_M_runsOf l G w h D μ hm hmo (some i) (fun r hr => by cases hr; omega)) (cwV 1 hts (wd_gV (C := "RunKeeperModel") wi_843 wi_840 wi_842 (wd_p (q := (⟨"RunKeeperModel", "runsOf", "(I)I"⟩, 22)) (by decide +kernel) (by decide +kernel)) wi_8) rfl rfl rfl (by decide +kernel) ⟨Nat.le_of_ble_eq_true rfl, Nat.le_of_ble_eq_true rfl⟩) (dk_preV (kn_M, kt_M, 22) hE hP hS hh_6658 rfl) rfl rfl hl.1 rfl (lv_room (Nat.le_of_ble_eq_true rfl)) de_M_step_9 ⟨(by first | exact Nat.le_of_ble_eq_true rfl | (simp only [Nat.zero_add]; omega) | omega), (by first | exact Nat.le_of_ble_eq_true rfl | (simp only [Nat.zero_add]; omega) | omega)⟩) hS (fun r_6662 w_6660 H locs hq_6661 hP hS => ?_)
        obtain ⟨hr_6663, he_6664⟩ := hq_6661
        subst hr_6663
        rw [he_6664] at hP
        have hrl := ro_le μ i
        refine lv_iconst (v := nI 4) hx hb de_M_step_12 (by decide) ?_
        refine nx_icmp_ge (a := ro_c μ i) (b := 4) (tgt := 22) hx hb (by omega) (by omega) de_M_step_13 (by decide) (fun c_6665 => ?_) (fun c_6665 => ?_)
        · have h9 : i = l9 := sn_ij hi (fun z => by have := hno i z; omega)
          subst h9
          refine lv_iload_n hx hb de_M_step_22 rfl (lv_at hl 1 rfl) ?_
          refine lv_iconst (v := nI 5) hx hb de_M_step_23 (by decide) ?_
          refine nx_icmp_ne (a := i) (b := 5) (tgt := 29) hx hb (by omega) (by omega) de_M_step_24 (by decide) (fun c_6666 => ?_) (fun c_6666 => ?_)
          · refine lv_iconst (v := nI 1) hx hb de_M_step_29 (by decide) ?_
            refine lv_istore_n (lv' := [(2, .int (nI 1)), (0, .ref h), (1, .int (nI i))]) hx hb de_M_step_30 rfl hl (by decide) rfl (fun ls hl => ?_)
            refine lv_iload_n hx hb de_M_step_31 rfl (lv_at hl 2 rfl) ?_
            refine lv_iconst (v := nI 1) hx hb de_M_step_32 (by decide) ?_
            refine nx_iadd (a := i) (b := 1) hx hb de_M_step_33 ?_
            refine lv_istore_n (lv' := [(3, .int (nI (i + 1))), (2, .int (nI 1)), (0, .ref h), (1, .int (nI i))]) hx hb de_M_step_34 rfl hl (by decide) rfl (fun ls hl => ?_)
            replace hl : lv_has ls 8 [(3, .int (nI (i + 1))), (2, .int (bo_i true)), (0, .ref h), (1, .int (nI i))] := hl
            have lp2 : ∀ (zk2 : Nat) (j : Nat), 6 - j < zk2 → (i < j ∧ j ≤ 6) → ∀ (H : Heap) (locs : List Loc), dk_P G w H → dk_S G s.heap H locs → ∀ (ls : Array Slot), lv_has ls 8 [(0, .ref h), (1, .int (nI i)), (2, .int (bo_i (lb_b μ i j))), (3, .int (nI j))] → W p l e rm_M_step s m args below meth c H locs (0 + 0) (0 + 0) Q (F0 m 35 ls []) := by
              intro zk2
              induction zk2 with
              | zero =>
                intro j hk
                exact absurd hk (by omega)
              | succ zk2 ih2 =>
                intro j hk hj
                intro H locs hP hS
                intro ls hl
                refine lv_iload_n hx hb de_M_step_35 rfl (lv_at hl 3 rfl) ?_
                refine lv_bipush (v := nI 6) hx hb de_M_step_36 (by decide) ?_
                refine nx_icmp_ge (a := j) (b := 6) (tgt := 57) hx hb (by omega) (by omega) de_M_step_38 (by decide) (fun c_6667 => ?_) (fun c_6667 => ?_)
                · have e6 : j = 6 := by omega
                  subst e6
                  refine lv_iconst (v := nI 0) hx hb de_M_step_57 (by decide) ?_
                  refine lv_istore_n (lv' := [(3, .int (nI 0)), (0, .ref h), (1, .int (nI i)), (2, .int (bo_i (lb_b μ i 6)))]) hx hb de_M_step_58 rfl hl (by decide) rfl (fun ls hl => ?_)
                  have lp3 : ∀ (zk3 : Nat) (k : Nat), μ.n - k < zk3 → (k ≤ μ.n) → ∀ (H : Heap) (locs : List Loc) (v : dk_H), (md_at G v h D (μ.ks' (kf_f μ i k))) → (dk_fr md_T w v) → dk_P G v H → dk_S G s.heap H locs → ∀ (ls : Array Slot), lv_has ls 8 [(0, .ref h), (1, .int (nI i)), (2, .int (bo_i (lb_b μ i 6))), (3, .int (nI k))] → W p l e rm_M_step s m args below meth c H locs (0 + 0) (0 + 0) Q (F0 m 59 ls []) := by
                    intro zk3
                    induction zk3 with
                    | zero =>
                      intro k hk
                      exact absurd hk (by omega)
                    | succ zk3 ih3 =>
                      intro k hk hk9
                      intro H locs v hmv hg hP hS
                      intro ls hl
                      have hh_6674 : v h = some (100, .inr (cx_M, [.int (nI μ.er), .int (nI μ.n), .int (nI μ.sq), .int (nI μ.sf), .int (nI μ.rs), .int (rI μ.ba), .int (nI μ.pr), .int (nI μ.mi), .ref D.kf, .ref D.nf, .ref D.rf, .ref D.lf, .ref D.sv, .ref D.bk, .ref D.od, .ref D.vf, .ref D.bv, .ref D.df, .ref D.ss, .ref D.bd, .ref D.ks, .ref D.bt])) := hmv.o
                      have ha_6675 : v D.kf = some (101, dk_ci G 700 (fun i9 => nI (μ.kf i9))) := hmv.kf
                      have ha_6676 : v D.nf = some (102, dk_ci G 700 (fun i9 => nI (μ.nf i9))) := hmv.nf
                      have ha_6677 : v D.rf = some (103, dk_ci G 700 (fun i9 => rI (μ.rf i9))) := hmv.rf
                      have ha_6678 : v D.lf = some (104, dk_ci G 5000 (fun i9 => rI (μ.lf i9))) := hmv.lf
                      have ha_6679 : v D.sv = some (105, dk_ci G 6 (fun i9 => nI (μ.sv i9))) := hmv.sv
                      have ha_6680 : v D.bk = some (106, dk_ci G 16 (fun i9 => nI (μ.bk i9))) := hmv.bk
                      have ha_6681 : v D.od = some (107, dk_ci G 700 (fun i9 => nI (μ.od i9))) := hmv.od
                      have ha_6682 : v D.vf = some (108, dk_cl G 700 (fun i9 => μ.vf i9)) := hmv.vf
                      have ha_6683 : v D.bv = some (109, dk_cl G 16 (fun i9 => μ.bv i9)) := hmv.bv
                      have ha_6684 : v D.df = some (110, dk_cz G 700 (fun i9 => bo_i (μ.df i9))) := hmv.df
                      have ha_6685 : v D.ss = some (111, dk_cz G 6 (fun i9 => bo_i (μ.ss i9))) := hmv.ss
                      have ha_6686 : v D.bd = some (112, dk_cz G 16 (fun i9 => bo_i (μ.bd i9))) := hmv.bd
                      have ha_6687 : v D.ks = some (113, dk_cz G 700 (fun i9 => bo_i ((kf_f μ i k) i9))) := hmv.ks
                      have ha_6688 : v D.bt = some (114, dk_cz G 6000 (fun i9 => bo_i (μ.bt i9))) := hmv.bt
                      have hneg := rI_neg (a := μ.rf k) (fun r hr => by have := ok3 k r hr; omega)
                      have hmo2 : md_ok (μ.ks' (kf_f μ i k)) := ⟨ok1, ok2, ok3, ok4, ok5, ok6, ok7, ok8, ok9, ok10, ok11⟩
                      refine lv_iload_n hx hb de_M_step_59 rfl (lv_at hl 3 rfl) ?_
                      refine lv_aload_n hx hb de_M_step_60 rfl (lv_at hl 0 rfl) ?_
                      refine dk_get (a := h) (v := .int (nI μ.n)) (C := kn_M) (T := kt_M) (N := 22) hx hb hts ki_M hown hK hP hh_6674 rfl 1 (by decide) (hts _ wi_715) (fun _ h9 => h9) rfl de_M_step_61 ?_
                      refine nx_icmp_ge (a := k) (b := μ.n) (tgt := 117) hx hb (by omega) (by omega) de_M_step_64 (by decide) (fun c_6689 => ?_) (fun c_6689 => ?_)
                      · have e5 : k = μ.n := by omega
                        have lpT : ∀ (zk5 : Nat) (f : Nat → Bool), 0 < zk5 → (tr_ok μ i (lb_b μ i 6) f) → ∀ (H : Heap) (locs : List Loc) (v5 : dk_H), (md_at G v5 h D (μ.ks' f)) → (dk_fr md_T w v5) → dk_P G v5 H → dk_S G s.heap H locs → ∀ (ls : Array Slot), lv_has ls 8 [(0, .ref h), (1, .int (nI i))] → W p l e rm_M_step s m args below meth c H locs (0 + 0) (0 + 0) Q (F0 m 189 ls []) := by
                          intro zk5
                          induction zk5 with
                          | zero =>
                            intro f hk
                            exact absurd hk (by omega)
                          | succ zk5 ihT =>
                            intro f hk htr
                            intro H locs v5 hmv5 hg5 hP hS
                            intro ls hl
                            have hh_6829 : v5 h = some (100, .inr (cx_M, [.int (nI μ.er), .int (nI μ.n), .int (nI μ.sq), .int (nI μ.sf), .int (nI μ.rs), .int (rI μ.ba), .int (nI μ.pr), .int (nI μ.mi), .ref D.kf, .ref D.nf, .ref D.rf, .ref D.lf, .ref D.sv, .ref D.bk, .ref D.od, .ref D.vf, .ref D.bv, .ref D.df, .ref D.ss, .ref D.bd, .ref D.ks, .ref D.bt])) := hmv5.o
                            have ha_6830 : v5 D.kf = some (101, dk_ci G 700 (fun i9 => nI (μ.kf i9))) := hmv5.kf
                            have ha_6831 : v5 D.nf = some (102, dk_ci G 700 (fun i9 => nI (μ.nf i9))) := hmv5.nf
                            have ha_6832 : v5 D.rf = some (103, dk_ci G 700 (fun i9 => rI (μ.rf i9))) := hmv5.rf
                            have ha_6833 : v5 D.lf = some (104, dk_ci G 5000 (fun i9 => rI (μ.lf i9))) := hmv5.lf
                            have ha_6834 : v5 D.sv = some (105, dk_ci G 6 (fun i9 => nI (μ.sv i9))) := hmv5.sv
                            have ha_6835 : v5 D.bk = some (106, dk_ci G 16 (fun i9 => nI (μ.bk i9))) := hmv5.bk
                            have ha_6836 : v5 D.od = some (107, dk_ci G 700 (fun i9 => nI (μ.od i9))) := hmv5.od
                            have ha_6837 : v5 D.vf = some (108, dk_cl G 700 (fun i9 => μ.vf i9)) := hmv5.vf
                            have ha_6838 : v5 D.bv = some (109, dk_cl G 16 (fun i9 => μ.bv i9)) := hmv5.bv
                            have ha_6839 : v5 D.df = some (110, dk_cz G 700 (fun i9 => bo_i (μ.df i9))) := hmv5.df
                            have ha_6840 : v5 D.ss = some (111, dk_cz G 6 (fun i9 => bo_i (μ.ss i9))) := hmv5.ss
                            have ha_6841 : v5 D.bd = some (112, dk_cz G 16 (fun i9 => bo_i (μ.bd i9))) := hmv5.bd
                            have ha_6842 : v5 D.ks = some (113, dk_cz G 700 (fun i9 => bo_i (f i9))) := hmv5.ks
                            have ha_6843 : v5 D.bt = some (114, dk_cz G 6000 (fun i9 => bo_i (μ.bt i9))) := hmv5.bt
                            refine lv_aload_n hx hb de_M_step_189 rfl (lv_at hl 0 rfl) ?_
                            refine lv_dup hx hb de_M_step_190 rfl ?_
                            refine dk_get (a := h) (v := .int (nI μ.rs)) (C := kn_M) (T := kt_M) (N := 22) hx hb hts ki_M hown hK hP hh_6829 rfl 4 (by decide) (hts _ wi_718) (fun _ h9 => h9) rfl de_M_step_191 ?_
                            refine lv_dup_x1 hx hb de_M_step_194 rfl rfl ?_
                            refine lv_iconst (v := nI 1) hx hb de_M_step_195 (by decide) ?_
                            refine nx_iadd (a := μ.rs) (b := 1) hx hb de_M_step_196 ?_
                            refine dk_put (a := h) (v := .int (nI (μ.rs + 1))) (ty := .int) (C := kn_M) (T := kt_M) (N := 22) hx hb hts ki_M ky_M kk_M kd_M hown hK hP hS hh_6829 rfl 4 (by decide) (hts _ wi_718) (fun _ h9 => h9) rfl (by decide +kernel) rfl rfl (Nat.le_of_ble_eq_true rfl) de_M_step_197 (fun H locs w_6844 hw_6845 hP hS => ?_)
                            have h_6846 : w_6844 h = some (100, .inr (cx_M, [.int (nI μ.er), .int (nI μ.n), .int (nI μ.sq), .int (nI μ.sf), .int (nI (μ.rs + 1)), .int (rI μ.ba), .int (nI μ.pr), .int (nI μ.mi), .ref D.kf, .ref D.nf, .ref D.rf, .ref D.lf, .ref D.sv, .ref D.bk, .ref D.od, .ref D.vf, .ref D.bv, .ref D.df, .ref D.ss, .ref D.bd, .ref D.ks, .ref D.bt])) := dk_here hw_6845
                            have h_6847 : w_6844 D.kf = some (101, dk_ci G 700 (fun i9 => nI (μ.kf i9))) := dk_keep hw_6845 hh_6829 ha_6830 (by decide)
                            have h_6848 : w_6844 D.nf = some (102, dk_ci G 700 (fun i9 => nI (μ.nf i9))) := dk_keep hw_6845 hh_6829 ha_6831 (by decide)
                            have h_6849 : w_6844 D.rf = some (103, dk_ci G 700 (fun i9 => rI (μ.rf i9))) := dk_keep hw_6845 hh_6829 ha_6832 (by decide)
                            have h_6850 : w_6844 D.lf = some (104, dk_ci G 5000 (fun i9 => rI (μ.lf i9))) := dk_keep hw_6845 hh_6829 ha_6833 (by decide)
                            have h_6851 : w_6844 D.sv = some (105, dk_ci G 6 (fun i9 => nI (μ.sv i9))) := dk_keep hw_6845 hh_6829 ha_6834 (by decide)
                            have h_6852 : w_6844 D.bk = some (106, dk_ci G 16 (fun i9 => nI (μ.bk i9))) := dk_keep hw_6845 hh_6829 ha_6835 (by decide)
                            have h_6853 : w_6844 D.od = some (107, dk_ci G 700 (fun i9 => nI (μ.od i9))) := dk_keep hw_6845 hh_6829 ha_6836 (by decide)
                            have h_6854 : w_6844 D.vf = some (108, dk_cl G 700 (fun i9 => μ.vf i9)) := dk_keep hw_6845 hh_6829 ha_6837 (by decide)
                            have h_6855 : w_6844 D.bv = some (109, dk_cl G 16 (fun i9 => μ.bv i9)) := dk_keep hw_6845 hh_6829 ha_6838 (by decide)
                            have h_6856 : w_6844 D.df = some (110, dk_cz G 700 (fun i9 => bo_i (μ.df i9))) := dk_keep hw_6845 hh_6829 ha_6839 (by decide)
                            have h_6857 : w_6844 D.ss = some (111, dk_cz G 6 (fun i9 => bo_i (μ.ss i9))) := dk_keep hw_6845 hh_6829 ha_6840 (by decide)
                            have h_6858 : w_6844 D.bd = some (112, dk_cz G 16 (fun i9 => bo_i (μ.bd i9))) := dk_keep hw_6845 hh_6829 ha_6841 (by decide)
                            have h_6859 : w_6844 D.ks = some (113, dk_cz G 700 (fun i9 => bo_i (f i9))) := dk_keep hw_6845 hh_6829 ha_6842 (by decide)
                            have h_6860 : w_6844 D.bt = some (114, dk_cz G 6000 (fun i9 => bo_i (μ.bt i9))) := dk_keep hw_6845 hh_6829 ha_6843 (by decide)
                            have hm_6861 : md_at G w_6844 h D ((μ.ks' f).rs' (μ.rs + 1)) := ⟨h_6846, h_6847, h_6848, h_6849, h_6850, h_6851, h_6852, h_6853, h_6854, h_6855, h_6856, h_6857, h_6858, h_6859, h_6860⟩
                            have hh_6862 : w_6844 h = some (100, .inr (cx_M, [.int (nI μ.er), .int (nI μ.n), .int (nI μ.sq), .int (nI μ.sf), .int (nI (μ.rs + 1)), .int (rI μ.ba), .int (nI μ.pr), .int (nI μ.mi), .ref D.kf, .ref D.nf, .ref D.rf, .ref D.lf, .ref D.sv, .ref D.bk, .ref D.od, .ref D.vf, .ref D.bv, .ref D.df, .ref D.ss, .ref D.bd, .ref D.ks, .ref D.bt])) := hm_6861.o
                            have ha_6863 : w_6844 D.kf = some (101, dk_ci G 700 (fun i9 => nI (μ.kf i9))) := hm_6861.kf
                            have ha_6864 : w_6844 D.nf = some (102, dk_ci G 700 (fun i9 => nI (μ.nf i9))) := hm_6861.nf
                            have ha_6865 : w_6844 D.rf = some (103, dk_ci G 700 (fun i9 => rI (μ.rf i9))) := hm_6861.rf
                            have ha_6866 : w_6844 D.lf = some (104, dk_ci G 5000 (fun i9 => rI (μ.lf i9))) := hm_6861.lf
                            have ha_6867 : w_6844 D.sv = some (105, dk_ci G 6 (fun i9 => nI (μ.sv i9))) := hm_6861.sv
                            have ha_6868 : w_6844 D.bk = some (106, dk_ci G 16 (fun i9 => nI (μ.bk i9))) := hm_6861.bk
                            have ha_6869 : w_6844 D.od = some (107, dk_ci G 700 (fun i9 => nI (μ.od i9))) := hm_6861.od
                            have ha_6870 : w_6844 D.vf = some (108, dk_cl G 700 (fun i9 => μ.vf i9)) := hm_6861.vf
                            have ha_6871 : w_6844 D.bv = some (109, dk_cl G 16 (fun i9 => μ.bv i9)) := hm_6861.bv
                            have ha_6872 : w_6844 D.df = some (110, dk_cz G 700 (fun i9 => bo_i (μ.df i9))) := hm_6861.df
                            have ha_6873 : w_6844 D.ss = some (111, dk_cz G 6 (fun i9 => bo_i (μ.ss i9))) := hm_6861.ss
                            have ha_6874 : w_6844 D.bd = some (112, dk_cz G 16 (fun i9 => bo_i (μ.bd i9))) := hm_6861.bd
                            have ha_6875 : w_6844 D.ks = some (113, dk_cz G 700 (fun i9 => bo_i (f i9))) := hm_6861.ks
                            have ha_6876 : w_6844 D.bt = some (114, dk_cz G 6000 (fun i9 => bo_i (μ.bt i9))) := hm_6861.bt
                            refine lv_istore_n (lv' := [(3, .int (nI μ.rs)), (0, .ref h), (1, .int (nI i))]) hx hb de_M_step_200 rfl hl (by decide) rfl (fun ls hl => ?_)
                            refine lv_iconst (v := nI 0) hx hb de_M_step_201 (by decide) ?_
                            refine lv_istore (lv' := [(4, .int (nI 0)), (3, .int (nI μ.rs)), (0, .ref h), (1, .int (nI i))]) hx hb de_M_step_202 hl (by decide) rfl (fun ls hl => ?_)
                            refine lv_iconst (v := nI 0) hx hb de_M_step_204 (by decide) ?_
                            refine lv_istore (lv' := [(5, .int (nI 0)), (4, .int (nI 0)), (3, .int (nI μ.rs)), (0, .ref h), (1, .int (nI i))]) hx hb de_M_step_205 hl (by decide) rfl (fun ls hl => ?_)
                            refine lv_iconst (v := nI 0) hx hb de_M_step_207 (by decide) ?_
                            refine lv_istore (lv' := [(6, .int (nI 0)), (5, .int (nI 0)), (4, .int (nI 0)), (3, .int (nI μ.rs)), (0, .ref h), (1, .int (nI i))]) hx hb de_M_step_208 hl (by decide) rfl (fun ls hl => ?_)
                            have lp8 : ∀ (zk8 : Nat) (k : Nat) (ν : md_S) (m9 : Nat) (y9 : Nat), μ.n - k < zk8 → (k ≤ μ.n) → (sc_f ((μ.ks' f).rs' (μ.rs + 1)) i μ.rs k = (ν, m9, y9)) → (m9 ≤ k ∧ y9 ≤ k ∧ ν.n = μ.n ∧ ν.rs = μ.rs + 1) → (md_ok5 ν) → ∀ (H : Heap) (locs : List Loc) (v8 : dk_H), (md_at G v8 h D ν) → (dk_fr md_T w v8) → dk_P G v8 H → dk_S G s.heap H locs → ∀ (ls : Array Slot), lv_has ls 8 [(0, .ref h), (1, .int (nI i)), (3, .int (nI μ.rs)), (4, .int (nI m9)), (5, .int (nI y9)), (6, .int (nI k))] → W p l e rm_M_step s m args below meth c H locs (0 + 0) (0 + 0) Q (F0 m 210 ls []) := by
                              intro zk8
                              induction zk8 with
                              | zero =>
                                intro k ν m9 y9 hk
                                exact absurd hk (by omega)
                              | succ zk8 ih8 =>
                                intro k ν m9 y9 hk hk8 hsc hbd hok
                                intro H locs v8 hmv8 hg8 hP hS
                                intro ls hl
                                obtain ⟨q1, q2, q3, q4⟩ := hbd
                                obtain ⟨k3, k4⟩ := id hok
                                have hh_6877 : v8 h = some (100, .inr (cx_M, [.int (nI ν.er), .int (nI ν.n), .int (nI ν.sq), .int (nI ν.sf), .int (nI ν.rs), .int (rI ν.ba), .int (nI ν.pr), .int (nI ν.mi), .ref D.kf, .ref D.nf, .ref D.rf, .ref D.lf, .ref D.sv, .ref D.bk, .ref D.od, .ref D.vf, .ref D.bv, .ref D.df, .ref D.ss, .ref D.bd, .ref D.ks, .ref D.bt])) := hmv8.o
                                have hneg := rI_neg (a := ν.rf k) (fun r hr => by have := k3 k r hr; omega)
                                refine lv_iload hx hb de_M_step_210 (lv_at hl 5 rfl) ?_
                                refine lv_aload_n hx hb de_M_step_212 rfl (lv_at hl 0 rfl) ?_
                                refine dk_get (a := h) (v := .int (nI ν.n)) (C := kn_M) (T := kt_M) (N := 22) hx hb hts ki_M hown hK hP hh_6877 rfl 1 (by decide) (hts _ wi_715) (fun _ h9 => h9) rfl de_M_step_213 ?_
                                refine nx_icmp_ge (a := k) (b := ν.n) (tgt := 366) hx hb (by omega) (by omega) de_M_step_216 (by decide) (fun c_6878 => ?_) (fun c_6878 => ?_)
                                · have e4 : k = μ.n := by omega
                                  refine lv_aload_n hx hb de_M_step_366 rfl (lv_at hl 0 rfl) ?_
                                  refine lv_iload hx hb de_M_step_367 (lv_at hl 3 rfl) ?_
                                  refine dk_put (a := h) (v := .int (nI m9)) (ty := .int) (C := kn_M) (T := kt_M) (N := 22) hx hb hts ki_M ky_M kk_M kd_M hown hK hP hS hh_6877 rfl 1 (by decide) (hts _ wi_715) (fun _ h9 => h9) rfl (by decide +kernel) rfl rfl (Nat.le_of_ble_eq_true rfl) de_M_step_369 (fun H locs w_7149 hw_7150 hP hS => ?_)
                                  have h_7151 : w_7149 h = some (100, .inr (cx_M, [.int (nI ν.er), .int (nI m9), .int (nI ν.sq), .int (nI ν.sf), .int (nI ν.rs), .int (rI ν.ba), .int (nI ν.pr), .int (nI ν.mi), .ref D.kf, .ref D.nf, .ref D.rf, .ref D.lf, .ref D.sv, .ref D.bk, .ref D.od, .ref D.vf, .ref D.bv, .ref D.df, .ref D.ss, .ref D.bd, .ref D.ks, .ref D.bt])) := dk_here hw_7150
                                  have h_7152 : w_7149 D.kf = some (101, dk_ci G 700 (fun i9 => nI (ν.kf i9))) := dk_keep hw_7150 hh_6877 hmv8.kf (by decide)
                                  have h_7153 : w_7149 D.nf = some (102, dk_ci G 700 (fun i9 => nI (ν.nf i9))) := dk_keep hw_7150 hh_6877 hmv8.nf (by decide)
                                  have h_7154 : w_7149 D.rf = some (103, dk_ci G 700 (fun i9 => rI (ν.rf i9))) := dk_keep hw_7150 hh_6877 hmv8.rf (by decide)
                                  have h_7155 : w_7149 D.lf = some (104, dk_ci G 5000 (fun i9 => rI (ν.lf i9))) := dk_keep hw_7150 hh_6877 hmv8.lf (by decide)
                                  have h_7156 : w_7149 D.sv = some (105, dk_ci G 6 (fun i9 => nI (ν.sv i9))) := dk_keep hw_7150 hh_6877 hmv8.sv (by decide)
                                  have h_7157 : w_7149 D.bk = some (106, dk_ci G 16 (fun i9 => nI (ν.bk i9))) := dk_keep hw_7150 hh_6877 hmv8.bk (by decide)
                                  have h_7158 : w_7149 D.od = some (107, dk_ci G 700 (fun i9 => nI (ν.od i9))) := dk_keep hw_7150 hh_6877 hmv8.od (by decide)
                                  have h_7159 : w_7149 D.vf = some (108, dk_cl G 700 (fun i9 => ν.vf i9)) := dk_keep hw_7150 hh_6877 hmv8.vf (by decide)
                                  have h_7160 : w_7149 D.bv = some (109, dk_cl G 16 (fun i9 => ν.bv i9)) := dk_keep hw_7150 hh_6877 hmv8.bv (by decide)
                                  have h_7161 : w_7149 D.df = some (110, dk_cz G 700 (fun i9 => bo_i (ν.df i9))) := dk_keep hw_7150 hh_6877 hmv8.df (by decide)
                                  have h_7162 : w_7149 D.ss = some (111, dk_cz G 6 (fun i9 => bo_i (ν.ss i9))) := dk_keep hw_7150 hh_6877 hmv8.ss (by decide)
                                  have h_7163 : w_7149 D.bd = some (112, dk_cz G 16 (fun i9 => bo_i (ν.bd i9))) := dk_keep hw_7150 hh_6877 hmv8.bd (by decide)
                                  have h_7164 : w_7149 D.ks = some (113, dk_cz G 700 (fun i9 => bo_i (ν.ks i9))) := dk_keep hw_7150 hh_6877 hmv8.ks (by decide)
                                  have h_7165 : w_7149 D.bt = some (114, dk_cz G 6000 (fun i9 => bo_i (ν.bt i9))) := dk_keep hw_7150 hh_6877 hmv8.bt (by decide)
                                  have hm_7166 : md_at G w_7149 h D (ν.n' m9) := ⟨h_7151, h_7152, h_7153, h_7154, h_7155, h_7156, h_7157, h_7158, h_7159, h_7160, h_7161, h_7162, h_7163, h_7164, h_7165⟩
                                  have hh_7167 : w_7149 h = some (100, .inr (cx_M, [.int (nI ν.er), .int (nI m9), .int (nI ν.sq), .int (nI ν.sf), .int (nI ν.rs), .int (rI ν.ba), .int (nI ν.pr), .int (nI ν.mi), .ref D.kf, .ref D.nf, .ref D.rf, .ref D.lf, .ref D.sv, .ref D.bk, .ref D.od, .ref D.vf, .ref D.bv, .ref D.df, .ref D.ss, .ref D.bd, .ref D.ks, .ref D.bt])) := hm_7166.o
                                  have ha_7168 : w_7149 D.kf = some (101, dk_ci G 700 (fun i9 => nI (ν.kf i9))) := hm_7166.kf
                                  have ha_7169 : w_7149 D.nf = some (102, dk_ci G 700 (fun i9 => nI (ν.nf i9))) := hm_7166.nf
                                  have ha_7170 : w_7149 D.rf = some (103, dk_ci G 700 (fun i9 => rI (ν.rf i9))) := hm_7166.rf
                                  have ha_7171 : w_7149 D.lf = some (104, dk_ci G 5000 (fun i9 => rI (ν.lf i9))) := hm_7166.lf
                                  have ha_7172 : w_7149 D.sv = some (105, dk_ci G 6 (fun i9 => nI (ν.sv i9))) := hm_7166.sv
                                  have ha_7173 : w_7149 D.bk = some (106, dk_ci G 16 (fun i9 => nI (ν.bk i9))) := hm_7166.bk
                                  have ha_7174 : w_7149 D.od = some (107, dk_ci G 700 (fun i9 => nI (ν.od i9))) := hm_7166.od
                                  have ha_7175 : w_7149 D.vf = some (108, dk_cl G 700 (fun i9 => ν.vf i9)) := hm_7166.vf
                                  have ha_7176 : w_7149 D.bv = some (109, dk_cl G 16 (fun i9 => ν.bv i9)) := hm_7166.bv
                                  have ha_7177 : w_7149 D.df = some (110, dk_cz G 700 (fun i9 => bo_i (ν.df i9))) := hm_7166.df
                                  have ha_7178 : w_7149 D.ss = some (111, dk_cz G 6 (fun i9 => bo_i (ν.ss i9))) := hm_7166.ss
                                  have ha_7179 : w_7149 D.bd = some (112, dk_cz G 16 (fun i9 => bo_i (ν.bd i9))) := hm_7166.bd
                                  have ha_7180 : w_7149 D.ks = some (113, dk_cz G 700 (fun i9 => bo_i (ν.ks i9))) := hm_7166.ks
                                  have ha_7181 : w_7149 D.bt = some (114, dk_cz G 6000 (fun i9 => bo_i (ν.bt i9))) := hm_7166.bt
                                  refine lv_iconst (v := nI 0) hx hb de_M_step_372 (by decide) ?_
                                  refine lv_istore (lv' := [(6, .int (nI 0)), (0, .ref h), (1, .int (nI i)), (3, .int (nI μ.rs)), (4, .int (nI m9)), (5, .int (nI y9))]) hx hb de_M_step_373 hl (by decide) rfl (fun ls hl => ?_)
                                  have lp9 : ∀ (zk9 : Nat) (j2 : Nat), μ.rs - j2 < zk9 → (j2 ≤ μ.rs) → ∀ (H : Heap) (locs : List Loc) (v9 : dk_H), (md_at G v9 h D ((ν.n' m9).lf' (lz_f ν.lf i j2))) → (dk_fr md_T w v9) → dk_P G v9 H → dk_S G s.heap H locs → ∀ (ls : Array Slot), lv_has ls 8 [(0, .ref h), (1, .int (nI i)), (3, .int (nI μ.rs)), (5, .int (nI y9)), (6, .int (nI j2))] → W p l e rm_M_step s m args below meth c H locs (0 + 0) (0 + 0) Q (F0 m 375 ls []) := by
                                    intro zk9
                                    induction zk9 with
                                    | zero =>
                                      intro j2 hk
                                      exact absurd hk (by omega)
                                    | succ zk9 ih9 =>
                                      intro j2 hk hj2
                                      intro H locs v9 hmv9 hg9 hP hS
                                      intro ls hl
                                      have hh_7182 : v9 h = some (100, .inr (cx_M, [.int (nI ν.er), .int (nI m9), .int (nI ν.sq), .int (nI ν.sf), .int (nI ν.rs), .int (rI ν.ba), .int (nI ν.pr), .int (nI ν.mi), .ref D.kf, .ref D.nf, .ref D.rf, .ref D.lf, .ref D.sv, .ref D.bk, .ref D.od, .ref D.vf, .ref D.bv, .ref D.df, .ref D.ss, .ref D.bd, .ref D.ks, .ref D.bt])) := hmv9.o
                                      have ha_7183 : v9 D.kf = some (101, dk_ci G 700 (fun i9 => nI (ν.kf i9))) := hmv9.kf
                                      have ha_7184 : v9 D.nf = some (102, dk_ci G 700 (fun i9 => nI (ν.nf i9))) := hmv9.nf
                                      have ha_7185 : v9 D.rf = some (103, dk_ci G 700 (fun i9 => rI (ν.rf i9))) := hmv9.rf
                                      have ha_7186 : v9 D.lf = some (104, dk_ci G 5000 (fun i9 => rI ((lz_f ν.lf i j2) i9))) := hmv9.lf
                                      have ha_7187 : v9 D.sv = some (105, dk_ci G 6 (fun i9 => nI (ν.sv i9))) := hmv9.sv
                                      have ha_7188 : v9 D.bk = some (106, dk_ci G 16 (fun i9 => nI (ν.bk i9))) := hmv9.bk
                                      have ha_7189 : v9 D.od = some (107, dk_ci G 700 (fun i9 => nI (ν.od i9))) := hmv9.od
                                      have ha_7190 : v9 D.vf = some (108, dk_cl G 700 (fun i9 => ν.vf i9)) := hmv9.vf
                                      have ha_7191 : v9 D.bv = some (109, dk_cl G 16 (fun i9 => ν.bv i9)) := hmv9.bv
                                      have ha_7192 : v9 D.df = some (110, dk_cz G 700 (fun i9 => bo_i (ν.df i9))) := hmv9.df
                                      have ha_7193 : v9 D.ss = some (111, dk_cz G 6 (fun i9 => bo_i (ν.ss i9))) := hmv9.ss
                                      have ha_7194 : v9 D.bd = some (112, dk_cz G 16 (fun i9 => bo_i (ν.bd i9))) := hmv9.bd
                                      have ha_7195 : v9 D.ks = some (113, dk_cz G 700 (fun i9 => bo_i (ν.ks i9))) := hmv9.ks
                                      have ha_7196 : v9 D.bt = some (114, dk_cz G 6000 (fun i9 => bo_i (ν.bt i9))) := hmv9.bt
                                      have hleq := rI_eq (a := ν.lf j2) (b := some i) (fun r hr => by have := k4 j2 r hr; omega) (fun r hr => by cases hr; omega)
                                      have hlz : lz_f ν.lf i j2 j2 = ν.lf j2 := if_neg (fun z => absurd z.1 (by omega))
                                      refine lv_iload hx hb de_M_step_375 (lv_at hl 4 rfl) ?_
                                      refine lv_iload_n hx hb de_M_step_377 rfl (lv_at hl 2 rfl) ?_
                                      refine nx_icmp_ge (a := j2) (b := μ.rs) (tgt := 406) hx hb (by omega) (by omega) de_M_step_378 (by decide) (fun c_7197 => ?_) (fun c_7197 => ?_)
                                      · have e1 : j2 = μ.rs := by omega
                                        refine lv_aload_n hx hb de_M_step_406 rfl (lv_at hl 0 rfl) ?_
                                        refine dk_get (a := h) (v := .ref D.lf) (C := kn_M) (T := kt_M) (N := 22) hx hb hts ki_M hown hK hP hh_7182 rfl 11 (by decide) (hts _ wi_725) (fun _ h9 => h9) rfl de_M_step_407 ?_
                                        refine lv_iload_n hx hb de_M_step_410 rfl (lv_at hl 2 rfl) ?_
                                        refine lv_iload hx hb de_M_step_411 (lv_at hl 3 rfl) ?_
                                        refine nx_if_le (a := y9) (tgt := 422) hx hb (by omega) de_M_step_413 (by decide) (fun c_7217 => ?_) (fun c_7217 => ?_)
                                        · refine lv_iconst (v := (-1)) hx hb de_M_step_422 (by decide) ?_
                                          refine dk_iast (a := D.lf) (x := (rI none)) hx hb hK hP hS ha_7186 μ.rs rfl (by omega) (by omega) de_M_step_423 (fun H locs w_7218 hw_7219 hP hS => ?_)
                                          rw [up_rI] at hw_7219
                                          have h_7220 : w_7218 D.lf = some (104, dk_ci G 5000 (fun i9 => rI ((va_up (lz_f ν.lf i j2) μ.rs none) i9))) := dk_here hw_7219
                                          have h_7221 : w_7218 h = some (100, .inr (cx_M, [.int (nI ν.er), .int (nI m9), .int (nI ν.sq), .int (nI ν.sf), .int (nI ν.rs), .int (rI ν.ba), .int (nI ν.pr), .int (nI ν.mi), .ref D.kf, .ref D.nf, .ref D.rf, .ref D.lf, .ref D.sv, .ref D.bk, .ref D.od, .ref D.vf, .ref D.bv, .ref D.df, .ref D.ss, .ref D.bd, .ref D.ks, .ref D.bt])) := dk_keep hw_7219 ha_7186 hh_7182 (by decide)
                                          have h_7222 : w_7218 D.kf = some (101, dk_ci G 700 (fun i9 => nI (ν.kf i9))) := dk_keep hw_7219 ha_7186 ha_7183 (by decide)
                                          have h_7223 : w_7218 D.nf = some (102, dk_ci G 700 (fun i9 => nI (ν.nf i9))) := dk_keep hw_7219 ha_7186 ha_7184 (by decide)
                                          have h_7224 : w_7218 D.rf = some (103, dk_ci G 700 (fun i9 => rI (ν.rf i9))) := dk_keep hw_7219 ha_7186 ha_7185 (by decide)
                                          have h_7225 : w_7218 D.sv = some (105, dk_ci G 6 (fun i9 => nI (ν.sv i9))) := dk_keep hw_7219 ha_7186 ha_7187 (by decide)
                                          have h_7226 : w_7218 D.bk = some (106, dk_ci G 16 (fun i9 => nI (ν.bk i9))) := dk_keep hw_7219 ha_7186 ha_7188 (by decide)
                                          have h_7227 : w_7218 D.od = some (107, dk_ci G 700 (fun i9 => nI (ν.od i9))) := dk_keep hw_7219 ha_7186 ha_7189 (by decide)
                                          have h_7228 : w_7218 D.vf = some (108, dk_cl G 700 (fun i9 => ν.vf i9)) := dk_keep hw_7219 ha_7186 ha_7190 (by decide)
                                          have h_7229 : w_7218 D.bv = some (109, dk_cl G 16 (fun i9 => ν.bv i9)) := dk_keep hw_7219 ha_7186 ha_7191 (by decide)
                                          have h_7230 : w_7218 D.df = some (110, dk_cz G 700 (fun i9 => bo_i (ν.df i9))) := dk_keep hw_7219 ha_7186 ha_7192 (by decide)
                                          have h_7231 : w_7218 D.ss = some (111, dk_cz G 6 (fun i9 => bo_i (ν.ss i9))) := dk_keep hw_7219 ha_7186 ha_7193 (by decide)
                                          have h_7232 : w_7218 D.bd = some (112, dk_cz G 16 (fun i9 => bo_i (ν.bd i9))) := dk_keep hw_7219 ha_7186 ha_7194 (by decide)
                                          have h_7233 : w_7218 D.ks = some (113, dk_cz G 700 (fun i9 => bo_i (ν.ks i9))) := dk_keep hw_7219 ha_7186 ha_7195 (by decide)
                                          have h_7234 : w_7218 D.bt = some (114, dk_cz G 6000 (fun i9 => bo_i (ν.bt i9))) := dk_keep hw_7219 ha_7186 ha_7196 (by decide)
                                          have hm_7235 : md_at G w_7218 h D (((ν.n' m9).lf' (lz_f ν.lf i j2)).lf' (va_up (lz_f ν.lf i j2) μ.rs (none))) := ⟨h_7221, h_7222, h_7223, h_7224, h_7220, h_7225, h_7226, h_7227, h_7228, h_7229, h_7230, h_7231, h_7232, h_7233, h_7234⟩
                                          have hst : md_st μ i f = ((ν.n' m9).lf' (va_up (lz_f ν.lf i j2) μ.rs (none))) := by rw [md_st, ← e4, hsc, e1]; simp only; rw [if_neg (by omega)]
                                          refine lv_iconst (v := nI 1) hx hb de_M_step_424 (by decide) ?_
                                          exact dk_zret hQ hx hb hr hlocks hP hS (Nat.le_refl _) (Nat.le_refl _) (by decide +kernel) (⟨bo_of1 rfl, ⟨f, htr, by rw [hst]; exact hm_7235⟩, hg9.tr ((dk_fr.rf).tr ((dk_fr.up (T := md_T) ha_7186 (by unfold md_T; omega)).eq hw_7219))⟩) de_M_step_425
                                        · refine lv_iload_n hx hb de_M_step_416 rfl (lv_at hl 1 rfl) ?_
                                          refine lv_iconst (v := nI 1) hx hb de_M_step_417 (by decide) ?_
                                          refine nx_iadd (a := i) (b := 1) hx hb de_M_step_418 ?_
                                          refine lv_goto (tgt := 423) hx hb de_M_step_419 (by decide) ?_
                                          refine dk_iast (a := D.lf) (x := (rI (some (i + 1)))) hx hb hK hP hS ha_7186 μ.rs rfl (by omega) (by omega) de_M_step_423 (fun H locs w_7236 hw_7237 hP hS => ?_)
                                          rw [up_rI] at hw_7237
                                          have h_7238 : w_7236 D.lf = some (104, dk_ci G 5000 (fun i9 => rI ((va_up (lz_f ν.lf i j2) μ.rs (some (i + 1))) i9))) := dk_here hw_7237
                                          have h_7239 : w_7236 h = some (100, .inr (cx_M, [.int (nI ν.er), .int (nI m9), .int (nI ν.sq), .int (nI ν.sf), .int (nI ν.rs), .int (rI ν.ba), .int (nI ν.pr), .int (nI ν.mi), .ref D.kf, .ref D.nf, .ref D.rf, .ref D.lf, .ref D.sv, .ref D.bk, .ref D.od, .ref D.vf, .ref D.bv, .ref D.df, .ref D.ss, .ref D.bd, .ref D.ks, .ref D.bt])) := dk_keep hw_7237 ha_7186 hh_7182 (by decide)
                                          have h_7240 : w_7236 D.kf = some (101, dk_ci G 700 (fun i9 => nI (ν.kf i9))) := dk_keep hw_7237 ha_7186 ha_7183 (by decide)
                                          have h_7241 : w_7236 D.nf = some (102, dk_ci G 700 (fun i9 => nI (ν.nf i9))) := dk_keep hw_7237 ha_7186 ha_7184 (by decide)
                                          have h_7242 : w_7236 D.rf = some (103, dk_ci G 700 (fun i9 => rI (ν.rf i9))) := dk_keep hw_7237 ha_7186 ha_7185 (by decide)
                                          have h_7243 : w_7236 D.sv = some (105, dk_ci G 6 (fun i9 => nI (ν.sv i9))) := dk_keep hw_7237 ha_7186 ha_7187 (by decide)
                                          have h_7244 : w_7236 D.bk = some (106, dk_ci G 16 (fun i9 => nI (ν.bk i9))) := dk_keep hw_7237 ha_7186 ha_7188 (by decide)
                                          have h_7245 : w_7236 D.od = some (107, dk_ci G 700 (fun i9 => nI (ν.od i9))) := dk_keep hw_7237 ha_7186 ha_7189 (by decide)
                                          have h_7246 : w_7236 D.vf = some (108, dk_cl G 700 (fun i9 => ν.vf i9)) := dk_keep hw_7237 ha_7186 ha_7190 (by decide)
                                          have h_7247 : w_7236 D.bv = some (109, dk_cl G 16 (fun i9 => ν.bv i9)) := dk_keep hw_7237 ha_7186 ha_7191 (by decide)
                                          have h_7248 : w_7236 D.df = some (110, dk_cz G 700 (fun i9 => bo_i (ν.df i9))) := dk_keep hw_7237 ha_7186 ha_7192 (by decide)
                                          have h_7249 : w_7236 D.ss = some (111, dk_cz G 6 (fun i9 => bo_i (ν.ss i9))) := dk_keep hw_7237 ha_7186 ha_7193 (by decide)
                                          have h_7250 : w_7236 D.bd = some (112, dk_cz G 16 (fun i9 => bo_i (ν.bd i9))) := dk_keep hw_7237 ha_7186 ha_7194 (by decide)
                                          have h_7251 : w_7236 D.ks = some (113, dk_cz G 700 (fun i9 => bo_i (ν.ks i9))) := dk_keep hw_7237 ha_7186 ha_7195 (by decide)
                                          have h_7252 : w_7236 D.bt = some (114, dk_cz G 6000 (fun i9 => bo_i (ν.bt i9))) := dk_keep hw_7237 ha_7186 ha_7196 (by decide)
                                          have hm_7253 : md_at G w_7236 h D (((ν.n' m9).lf' (lz_f ν.lf i j2)).lf' (va_up (lz_f ν.lf i j2) μ.rs (some (i + 1)))) := ⟨h_7239, h_7240, h_7241, h_7242, h_7238, h_7243, h_7244, h_7245, h_7246, h_7247, h_7248, h_7249, h_7250, h_7251, h_7252⟩
                                          have hst : md_st μ i f = ((ν.n' m9).lf' (va_up (lz_f ν.lf i j2) μ.rs (some (i + 1)))) := by rw [md_st, ← e4, hsc, e1]; simp only; rw [if_pos (by omega)]
                                          refine lv_iconst (v := nI 1) hx hb de_M_step_424 (by decide) ?_
                                          exact dk_zret hQ hx hb hr hlocks hP hS (Nat.le_refl _) (Nat.le_refl _) (by decide +kernel) (⟨bo_of1 rfl, ⟨f, htr, by rw [hst]; exact hm_7253⟩, hg9.tr ((dk_fr.rf).tr ((dk_fr.up (T := md_T) ha_7186 (by unfold md_T; omega)).eq hw_7237))⟩) de_M_step_425
                                      · refine lv_aload_n hx hb de_M_step_381 rfl (lv_at hl 0 rfl) ?_
                                        refine dk_get (a := h) (v := .ref D.lf) (C := kn_M) (T := kt_M) (N := 22) hx hb hts ki_M hown hK hP hh_7182 rfl 11 (by decide) (hts _ wi_725) (fun _ h9 => h9) rfl de_M_step_382 ?_
                                        refine lv_iload hx hb de_M_step_385 (lv_at hl 4 rfl) ?_
                                        refine dk_iald (a := D.lf) hx hb hK hP ha_7186 j2 rfl (by omega) (by omega) de_M_step_387 ?_
                                        rw [hlz]
                                        refine lv_iload_n hx hb de_M_step_388 rfl (lv_at hl 1 rfl) ?_
                                        refine lv_icmp_ne (tgt := 400) hx hb de_M_step_389 (by decide) (fun c_7198 => ?_) (fun c_7198 => ?_)
                                        · refine lv_iinc (v := nI (j2 + 1)) (lv' := [(6, .int (nI (j2 + 1))), (0, .ref h), (1, .int (nI i)), (3, .int (nI μ.rs)), (5, .int (nI y9))]) hx hb de_M_step_400 hl (k := 4) rfl (nx_inc j2) (by decide) rfl (fun ls hl => ?_)
                                          refine lv_goto (tgt := 375) hx hb de_M_step_403 (by decide) ?_
                                          exact ih9 (j2 + 1) (by omega) (by omega) _ _ _ (by rw [lz_n (fun z => c_7198 (hleq.mpr z))]; exact hmv9) hg9 hP hS _ (lv_sub hl [1, 2, 3, 4, 0] rfl)
                                        · refine lv_aload_n hx hb de_M_step_392 rfl (lv_at hl 0 rfl) ?_
                                          refine dk_get (a := h) (v := .ref D.lf) (C := kn_M) (T := kt_M) (N := 22) hx hb hts ki_M hown hK hP hh_7182 rfl 11 (by decide) (hts _ wi_725) (fun _ h9 => h9) rfl de_M_step_393 ?_
                                          refine lv_iload hx hb de_M_step_396 (lv_at hl 4 rfl) ?_
                                          refine lv_iconst (v := (-1)) hx hb de_M_step_398 (by decide) ?_
                                          refine dk_iast (a := D.lf) (x := (rI none)) hx hb hK hP hS ha_7186 j2 rfl (by omega) (by omega) de_M_step_399 (fun H locs w_7199 hw_7200 hP hS => ?_)
                                          rw [up_rI] at hw_7200
                                          have h_7201 : w_7199 D.lf = some (104, dk_ci G 5000 (fun i9 => rI ((va_up (lz_f ν.lf i j2) j2 none) i9))) := dk_here hw_7200
                                          have h_7202 : w_7199 h = some (100, .inr (cx_M, [.int (nI ν.er), .int (nI m9), .int (nI ν.sq), .int (nI ν.sf), .int (nI ν.rs), .int (rI ν.ba), .int (nI ν.pr), .int (nI ν.mi), .ref D.kf, .ref D.nf, .ref D.rf, .ref D.lf, .ref D.sv, .ref D.bk, .ref D.od, .ref D.vf, .ref D.bv, .ref D.df, .ref D.ss, .ref D.bd, .ref D.ks, .ref D.bt])) := dk_keep hw_7200 ha_7186 hh_7182 (by decide)
                                          have h_7203 : w_7199 D.kf = some (101, dk_ci G 700 (fun i9 => nI (ν.kf i9))) := dk_keep hw_7200 ha_7186 ha_7183 (by decide)
                                          have h_7204 : w_7199 D.nf = some (102, dk_ci G 700 (fun i9 => nI (ν.nf i9))) := dk_keep hw_7200 ha_7186 ha_7184 (by decide)
                                          have h_7205 : w_7199 D.rf = some (103, dk_ci G 700 (fun i9 => rI (ν.rf i9))) := dk_keep hw_7200 ha_7186 ha_7185 (by decide)
                                          have h_7206 : w_7199 D.sv = some (105, dk_ci G 6 (fun i9 => nI (ν.sv i9))) := dk_keep hw_7200 ha_7186 ha_7187 (by decide)
                                          have h_7207 : w_7199 D.bk = some (106, dk_ci G 16 (fun i9 => nI (ν.bk i9))) := dk_keep hw_7200 ha_7186 ha_7188 (by decide)
                                          have h_7208 : w_7199 D.od = some (107, dk_ci G 700 (fun i9 => nI (ν.od i9))) := dk_keep hw_7200 ha_7186 ha_7189 (by decide)
                                          have h_7209 : w_7199 D.vf = some (108, dk_cl G 700 (fun i9 => ν.vf i9)) := dk_keep hw_7200 ha_7186 ha_7190 (by decide)
                                          have h_7210 : w_7199 D.bv = some (109, dk_cl G 16 (fun i9 => ν.bv i9)) := dk_keep hw_7200 ha_7186 ha_7191 (by decide)
                                          have h_7211 : w_7199 D.df = some (110, dk_cz G 700 (fun i9 => bo_i (ν.df i9))) := dk_keep hw_7200 ha_7186 ha_7192 (by decide)
                                          have h_7212 : w_7199 D.ss = some (111, dk_cz G 6 (fun i9 => bo_i (ν.ss i9))) := dk_keep hw_7200 ha_7186 ha_7193 (by decide)
                                          have h_7213 : w_7199 D.bd = some (112, dk_cz G 16 (fun i9 => bo_i (ν.bd i9))) := dk_keep hw_7200 ha_7186 ha_7194 (by decide)
                                          have h_7214 : w_7199 D.ks = some (113, dk_cz G 700 (fun i9 => bo_i (ν.ks i9))) := dk_keep hw_7200 ha_7186 ha_7195 (by decide)
                                          have h_7215 : w_7199 D.bt = some (114, dk_cz G 6000 (fun i9 => bo_i (ν.bt i9))) := dk_keep hw_7200 ha_7186 ha_7196 (by decide)
                                          have hm_7216 : md_at G w_7199 h D (((ν.n' m9).lf' (lz_f ν.lf i j2)).lf' (va_up (lz_f ν.lf i j2) j2 none)) := ⟨h_7202, h_7203, h_7204, h_7205, h_7201, h_7206, h_7207, h_7208, h_7209, h_7210, h_7211, h_7212, h_7213, h_7214, h_7215⟩
                                          refine lv_iinc (v := nI (j2 + 1)) (lv' := [(6, .int (nI (j2 + 1))), (0, .ref h), (1, .int (nI i)), (3, .int (nI μ.rs)), (5, .int (nI y9))]) hx hb de_M_step_400 hl (k := 4) rfl (nx_inc j2) (by decide) rfl (fun ls hl => ?_)
                                          refine lv_goto (tgt := 375) hx hb de_M_step_403 (by decide) ?_
                                          exact ih9 (j2 + 1) (by omega) (by omega) _ _ _ (by rw [lz_y (hleq.mp c_7198)]; exact hm_7216) (hg9.tr ((dk_fr.rf).tr ((dk_fr.up (T := md_T) ha_7186 (by unfold md_T; omega)).eq hw_7200))) hP hS _ (lv_sub hl [1, 2, 3, 4, 0] rfl)
                                  exact lp9 (μ.rs + 1) 0 (by omega) (Nat.zero_le _) _ _ _ (by rw [lz_0]; exact hm_7166) (hg8.tr ((dk_fr.rf).tr ((dk_fr.up (T := md_T) hh_6877 (by unfold md_T; omega)).eq hw_7150))) hP hS _ (lv_sub hl [1, 2, 3, 5, 0] rfl)
                                · refine lv_aload_n hx hb de_M_step_219 rfl (lv_at hl 0 rfl) ?_
                                  refine dk_get (a := h) (v := .ref D.rf) (C := kn_M) (T := kt_M) (N := 22) hx hb hts ki_M hown hK hP hh_6877 rfl 10 (by decide) (hts _ wi_724) (fun _ h9 => h9) rfl de_M_step_220 ?_
                                  refine lv_iload hx hb de_M_step_223 (lv_at hl 5 rfl) ?_
                                  refine dk_iald (a := D.rf) hx hb hK hP hmv8.rf k rfl (by omega) (by omega) de_M_step_225 ?_
                                  refine lv_if_lt (tgt := 249) hx hb de_M_step_226 (by decide) (fun c_6879 => ?_) (fun c_6879 => ?_)
                                  · have e3 := at_l0 (l := i) (hneg.mp c_6879)
                                    refine lv_iconst (v := nI 0) hx hb de_M_step_249 (by decide) ?_
                                    refine lv_istore (lv' := [(7, .int (nI 0)), (0, .ref h), (1, .int (nI i)), (3, .int (nI μ.rs)), (4, .int (nI m9)), (5, .int (nI y9)), (6, .int (nI k))]) hx hb de_M_step_250 hl (by decide) rfl (fun ls hl => ?_)
                                    refine lv_iload hx hb de_M_step_252 (lv_at hl 0 rfl) ?_
                                    refine nx_if_eq (a := 0) (tgt := 270) hx hb (by omega) de_M_step_254 (by decide) (fun c_6880 => ?_) (fun c_6880 => ?_)
                                    · refine lv_iload hx hb de_M_step_270 (lv_at hl 0 rfl) ?_
                                      refine nx_if_eq (a := 0) (tgt := 278) hx hb (by omega) de_M_step_272 (by decide) (fun c_6881 => ?_) (fun c_6881 => ?_)
                                      · refine lv_aload_n hx hb de_M_step_278 rfl (lv_at hl 1 rfl) ?_
                                        refine dk_get (a := h) (v := .ref D.kf) (C := kn_M) (T := kt_M) (N := 22) hx hb hts ki_M hown hK hP hh_6877 rfl 8 (by decide) (hts _ wi_722) (fun _ h9 => h9) rfl de_M_step_279 ?_
                                        refine lv_iload hx hb de_M_step_282 (lv_at hl 4 rfl) ?_
                                        refine lv_aload_n hx hb de_M_step_284 rfl (lv_at hl 1 rfl) ?_
                                        refine dk_get (a := h) (v := .ref D.kf) (C := kn_M) (T := kt_M) (N := 22) hx hb hts ki_M hown hK hP hh_6877 rfl 8 (by decide) (hts _ wi_722) (fun _ h9 => h9) rfl de_M_step_285 ?_
                                        refine lv_iload hx hb de_M_step_288 (lv_at hl 6 rfl) ?_
                                        refine dk_iald (a := D.kf) hx hb hK hP hmv8.kf k rfl (by omega) (by omega) de_M_step_290 ?_
                                        refine dk_iast (a := D.kf) (x := (nI (ν.kf k))) hx hb hK hP hS hmv8.kf m9 rfl (by omega) (by omega) de_M_step_291 (fun H locs w_6882 hw_6883 hP hS => ?_)
                                        rw [up_nI] at hw_6883
                                        have h_6884 : w_6882 D.kf = some (101, dk_ci G 700 (fun i9 => nI ((va_up ν.kf m9 (ν.kf k)) i9))) := dk_here hw_6883
                                        have h_6885 : w_6882 h = some (100, .inr (cx_M, [.int (nI ν.er), .int (nI ν.n), .int (nI ν.sq), .int (nI ν.sf), .int (nI ν.rs), .int (rI ν.ba), .int (nI ν.pr), .int (nI ν.mi), .ref D.kf, .ref D.nf, .ref D.rf, .ref D.lf, .ref D.sv, .ref D.bk, .ref D.od, .ref D.vf, .ref D.bv, .ref D.df, .ref D.ss, .ref D.bd, .ref D.ks, .ref D.bt])) := dk_keep hw_6883 hmv8.kf hh_6877 (by decide)
                                        have h_6886 : w_6882 D.nf = some (102, dk_ci G 700 (fun i9 => nI (ν.nf i9))) := dk_keep hw_6883 hmv8.kf hmv8.nf (by decide)
                                        have h_6887 : w_6882 D.rf = some (103, dk_ci G 700 (fun i9 => rI (ν.rf i9))) := dk_keep hw_6883 hmv8.kf hmv8.rf (by decide)
                                        have h_6888 : w_6882 D.lf = some (104, dk_ci G 5000 (fun i9 => rI (ν.lf i9))) := dk_keep hw_6883 hmv8.kf hmv8.lf (by decide)
                                        have h_6889 : w_6882 D.sv = some (105, dk_ci G 6 (fun i9 => nI (ν.sv i9))) := dk_keep hw_6883 hmv8.kf hmv8.sv (by decide)
                                        have h_6890 : w_6882 D.bk = some (106, dk_ci G 16 (fun i9 => nI (ν.bk i9))) := dk_keep hw_6883 hmv8.kf hmv8.bk (by decide)
                                        have h_6891 : w_6882 D.od = some (107, dk_ci G 700 (fun i9 => nI (ν.od i9))) := dk_keep hw_6883 hmv8.kf hmv8.od (by decide)
                                        have h_6892 : w_6882 D.vf = some (108, dk_cl G 700 (fun i9 => ν.vf i9)) := dk_keep hw_6883 hmv8.kf hmv8.vf (by decide)
                                        have h_6893 : w_6882 D.bv = some (109, dk_cl G 16 (fun i9 => ν.bv i9)) := dk_keep hw_6883 hmv8.kf hmv8.bv (by decide)
                                        have h_6894 : w_6882 D.df = some (110, dk_cz G 700 (fun i9 => bo_i (ν.df i9))) := dk_keep hw_6883 hmv8.kf hmv8.df (by decide)
                                        have h_6895 : w_6882 D.ss = some (111, dk_cz G 6 (fun i9 => bo_i (ν.ss i9))) := dk_keep hw_6883 hmv8.kf hmv8.ss (by decide)
                                        have h_6896 : w_6882 D.bd = some (112, dk_cz G 16 (fun i9 => bo_i (ν.bd i9))) := dk_keep hw_6883 hmv8.kf hmv8.bd (by decide)
                                        have h_6897 : w_6882 D.ks = some (113, dk_cz G 700 (fun i9 => bo_i (ν.ks i9))) := dk_keep hw_6883 hmv8.kf hmv8.ks (by decide)
                                        have h_6898 : w_6882 D.bt = some (114, dk_cz G 6000 (fun i9 => bo_i (ν.bt i9))) := dk_keep hw_6883 hmv8.kf hmv8.bt (by decide)
                                        refine lv_aload_n hx hb de_M_step_292 rfl (lv_at hl 1 rfl) ?_
                                        refine dk_get (a := h) (v := .ref D.nf) (C := kn_M) (T := kt_M) (N := 22) hx hb hts ki_M hown hK hP h_6885 rfl 9 (by decide) (hts _ wi_723) (fun _ h9 => h9) rfl de_M_step_293 ?_
                                        refine lv_iload hx hb de_M_step_296 (lv_at hl 4 rfl) ?_
                                        refine lv_aload_n hx hb de_M_step_298 rfl (lv_at hl 1 rfl) ?_
                                        refine dk_get (a := h) (v := .ref D.nf) (C := kn_M) (T := kt_M) (N := 22) hx hb hts ki_M hown hK hP h_6885 rfl 9 (by decide) (hts _ wi_723) (fun _ h9 => h9) rfl de_M_step_299 ?_
                                        refine lv_iload hx hb de_M_step_302 (lv_at hl 6 rfl) ?_
                                        refine dk_iald (a := D.nf) hx hb hK hP h_6886 k rfl (by omega) (by omega) de_M_step_304 ?_
                                        refine dk_iast (a := D.nf) (x := (nI (ν.nf k))) hx hb hK hP hS h_6886 m9 rfl (by omega) (by omega) de_M_step_305 (fun H locs w_6899 hw_6900 hP hS => ?_)
                                        rw [up_nI] at hw_6900
                                        have h_6901 : w_6899 D.nf = some (102, dk_ci G 700 (fun i9 => nI ((va_up ν.nf m9 (ν.nf k)) i9))) := dk_here hw_6900
                                        have h_6902 : w_6899 h = some (100, .inr (cx_M, [.int (nI ν.er), .int (nI ν.n), .int (nI ν.sq), .int (nI ν.sf), .int (nI ν.rs), .int (rI ν.ba), .int (nI ν.pr), .int (nI ν.mi), .ref D.kf, .ref D.nf, .ref D.rf, .ref D.lf, .ref D.sv, .ref D.bk, .ref D.od, .ref D.vf, .ref D.bv, .ref D.df, .ref D.ss, .ref D.bd, .ref D.ks, .ref D.bt])) := dk_keep hw_6900 h_6886 h_6885 (by decide)
                                        have h_6903 : w_6899 D.kf = some (101, dk_ci G 700 (fun i9 => nI ((va_up ν.kf m9 (ν.kf k)) i9))) := dk_keep hw_6900 h_6886 h_6884 (by decide)
                                        have h_6904 : w_6899 D.rf = some (103, dk_ci G 700 (fun i9 => rI (ν.rf i9))) := dk_keep hw_6900 h_6886 h_6887 (by decide)
                                        have h_6905 : w_6899 D.lf = some (104, dk_ci G 5000 (fun i9 => rI (ν.lf i9))) := dk_keep hw_6900 h_6886 h_6888 (by decide)
                                        have h_6906 : w_6899 D.sv = some (105, dk_ci G 6 (fun i9 => nI (ν.sv i9))) := dk_keep hw_6900 h_6886 h_6889 (by decide)
                                        have h_6907 : w_6899 D.bk = some (106, dk_ci G 16 (fun i9 => nI (ν.bk i9))) := dk_keep hw_6900 h_6886 h_6890 (by decide)
                                        have h_6908 : w_6899 D.od = some (107, dk_ci G 700 (fun i9 => nI (ν.od i9))) := dk_keep hw_6900 h_6886 h_6891 (by decide)
                                        have h_6909 : w_6899 D.vf = some (108, dk_cl G 700 (fun i9 => ν.vf i9)) := dk_keep hw_6900 h_6886 h_6892 (by decide)
                                        have h_6910 : w_6899 D.bv = some (109, dk_cl G 16 (fun i9 => ν.bv i9)) := dk_keep hw_6900 h_6886 h_6893 (by decide)
                                        have h_6911 : w_6899 D.df = some (110, dk_cz G 700 (fun i9 => bo_i (ν.df i9))) := dk_keep hw_6900 h_6886 h_6894 (by decide)
                                        have h_6912 : w_6899 D.ss = some (111, dk_cz G 6 (fun i9 => bo_i (ν.ss i9))) := dk_keep hw_6900 h_6886 h_6895 (by decide)
                                        have h_6913 : w_6899 D.bd = some (112, dk_cz G 16 (fun i9 => bo_i (ν.bd i9))) := dk_keep hw_6900 h_6886 h_6896 (by decide)
                                        have h_6914 : w_6899 D.ks = some (113, dk_cz G 700 (fun i9 => bo_i (ν.ks i9))) := dk_keep hw_6900 h_6886 h_6897 (by decide)
                                        have h_6915 : w_6899 D.bt = some (114, dk_cz G 6000 (fun i9 => bo_i (ν.bt i9))) := dk_keep hw_6900 h_6886 h_6898 (by decide)
                                        refine lv_aload_n hx hb de_M_step_306 rfl (lv_at hl 1 rfl) ?_
                                        refine dk_get (a := h) (v := .ref D.vf) (C := kn_M) (T := kt_M) (N := 22) hx hb hts ki_M hown hK hP h_6902 rfl 15 (by decide) (hts _ wi_729) (fun _ h9 => h9) rfl de_M_step_307 ?_
                                        refine lv_iload hx hb de_M_step_310 (lv_at hl 4 rfl) ?_
                                        refine lv_aload_n hx hb de_M_step_312 rfl (lv_at hl 1 rfl) ?_
                                        refine dk_get (a := h) (v := .ref D.vf) (C := kn_M) (T := kt_M) (N := 22) hx hb hts ki_M hown hK hP h_6902 rfl 15 (by decide) (hts _ wi_729) (fun _ h9 => h9) rfl de_M_step_313 ?_
                                        refine lv_iload hx hb de_M_step_316 (lv_at hl 6 rfl) ?_
                                        refine dk_lald (a := D.vf) hx hb hK hP h_6909 k rfl (by omega) (by omega) de_M_step_318 ?_
                                        refine dk_last (a := D.vf) (x := (ν.vf k)) hx hb hK hP hS h_6909 m9 rfl (by omega) (by omega) de_M_step_319 (fun H locs w_6916 hw_6917 hP hS => ?_)
                                        rw [up_L] at hw_6917
                                        have h_6918 : w_6916 D.vf = some (108, dk_cl G 700 (fun i9 => (va_up ν.vf m9 (ν.vf k)) i9)) := dk_here hw_6917
                                        have h_6919 : w_6916 h = some (100, .inr (cx_M, [.int (nI ν.er), .int (nI ν.n), .int (nI ν.sq), .int (nI ν.sf), .int (nI ν.rs), .int (rI ν.ba), .int (nI ν.pr), .int (nI ν.mi), .ref D.kf, .ref D.nf, .ref D.rf, .ref D.lf, .ref D.sv, .ref D.bk, .ref D.od, .ref D.vf, .ref D.bv, .ref D.df, .ref D.ss, .ref D.bd, .ref D.ks, .ref D.bt])) := dk_keep hw_6917 h_6909 h_6902 (by decide)
                                        have h_6920 : w_6916 D.kf = some (101, dk_ci G 700 (fun i9 => nI ((va_up ν.kf m9 (ν.kf k)) i9))) := dk_keep hw_6917 h_6909 h_6903 (by decide)
                                        have h_6921 : w_6916 D.nf = some (102, dk_ci G 700 (fun i9 => nI ((va_up ν.nf m9 (ν.nf k)) i9))) := dk_keep hw_6917 h_6909 h_6901 (by decide)
                                        have h_6922 : w_6916 D.rf = some (103, dk_ci G 700 (fun i9 => rI (ν.rf i9))) := dk_keep hw_6917 h_6909 h_6904 (by decide)
                                        have h_6923 : w_6916 D.lf = some (104, dk_ci G 5000 (fun i9 => rI (ν.lf i9))) := dk_keep hw_6917 h_6909 h_6905 (by decide)
                                        have h_6924 : w_6916 D.sv = some (105, dk_ci G 6 (fun i9 => nI (ν.sv i9))) := dk_keep hw_6917 h_6909 h_6906 (by decide)
                                        have h_6925 : w_6916 D.bk = some (106, dk_ci G 16 (fun i9 => nI (ν.bk i9))) := dk_keep hw_6917 h_6909 h_6907 (by decide)
                                        have h_6926 : w_6916 D.od = some (107, dk_ci G 700 (fun i9 => nI (ν.od i9))) := dk_keep hw_6917 h_6909 h_6908 (by decide)
                                        have h_6927 : w_6916 D.bv = some (109, dk_cl G 16 (fun i9 => ν.bv i9)) := dk_keep hw_6917 h_6909 h_6910 (by decide)
                                        have h_6928 : w_6916 D.df = some (110, dk_cz G 700 (fun i9 => bo_i (ν.df i9))) := dk_keep hw_6917 h_6909 h_6911 (by decide)
                                        have h_6929 : w_6916 D.ss = some (111, dk_cz G 6 (fun i9 => bo_i (ν.ss i9))) := dk_keep hw_6917 h_6909 h_6912 (by decide)
                                        have h_6930 : w_6916 D.bd = some (112, dk_cz G 16 (fun i9 => bo_i (ν.bd i9))) := dk_keep hw_6917 h_6909 h_6913 (by decide)
                                        have h_6931 : w_6916 D.ks = some (113, dk_cz G 700 (fun i9 => bo_i (ν.ks i9))) := dk_keep hw_6917 h_6909 h_6914 (by decide)
                                        have h_6932 : w_6916 D.bt = some (114, dk_cz G 6000 (fun i9 => bo_i (ν.bt i9))) := dk_keep hw_6917 h_6909 h_6915 (by decide)
                                        refine lv_aload_n hx hb de_M_step_320 rfl (lv_at hl 1 rfl) ?_
                                        refine dk_get (a := h) (v := .ref D.df) (C := kn_M) (T := kt_M) (N := 22) hx hb hts ki_M hown hK hP h_6919 rfl 17 (by decide) (hts _ wi_731) (fun _ h9 => h9) rfl de_M_step_321 ?_
                                        refine lv_iload hx hb de_M_step_324 (lv_at hl 4 rfl) ?_
                                        refine lv_aload_n hx hb de_M_step_326 rfl (lv_at hl 1 rfl) ?_
                                        refine dk_get (a := h) (v := .ref D.df) (C := kn_M) (T := kt_M) (N := 22) hx hb hts ki_M hown hK hP h_6919 rfl 17 (by decide) (hts _ wi_731) (fun _ h9 => h9) rfl de_M_step_327 ?_
                                        refine lv_iload hx hb de_M_step_330 (lv_at hl 6 rfl) ?_
                                        refine dk_zald (a := D.df) hx hb hK hP h_6928 k rfl (by omega) (by omega) de_M_step_332 ?_
                                        refine dk_zast (a := D.df) (x := (bo_i (ν.df k))) hx hb hK hP hS h_6928 m9 rfl (by omega) (by omega) (bo_vn (ν.df k)) de_M_step_333 (fun H locs w_6933 hw_6934 hP hS => ?_)
                                        rw [up_bo] at hw_6934
                                        have h_6935 : w_6933 D.df = some (110, dk_cz G 700 (fun i9 => bo_i ((va_up ν.df m9 (ν.df k)) i9))) := dk_here hw_6934
                                        have h_6936 : w_6933 h = some (100, .inr (cx_M, [.int (nI ν.er), .int (nI ν.n), .int (nI ν.sq), .int (nI ν.sf), .int (nI ν.rs), .int (rI ν.ba), .int (nI ν.pr), .int (nI ν.mi), .ref D.kf, .ref D.nf, .ref D.rf, .ref D.lf, .ref D.sv, .ref D.bk, .ref D.od, .ref D.vf, .ref D.bv, .ref D.df, .ref D.ss, .ref D.bd, .ref D.ks, .ref D.bt])) := dk_keep hw_6934 h_6928 h_6919 (by decide)
                                        have h_6937 : w_6933 D.kf = some (101, dk_ci G 700 (fun i9 => nI ((va_up ν.kf m9 (ν.kf k)) i9))) := dk_keep hw_6934 h_6928 h_6920 (by decide)
                                        have h_6938 : w_6933 D.nf = some (102, dk_ci G 700 (fun i9 => nI ((va_up ν.nf m9 (ν.nf k)) i9))) := dk_keep hw_6934 h_6928 h_6921 (by decide)
                                        have h_6939 : w_6933 D.rf = some (103, dk_ci G 700 (fun i9 => rI (ν.rf i9))) := dk_keep hw_6934 h_6928 h_6922 (by decide)
                                        have h_6940 : w_6933 D.lf = some (104, dk_ci G 5000 (fun i9 => rI (ν.lf i9))) := dk_keep hw_6934 h_6928 h_6923 (by decide)
                                        have h_6941 : w_6933 D.sv = some (105, dk_ci G 6 (fun i9 => nI (ν.sv i9))) := dk_keep hw_6934 h_6928 h_6924 (by decide)
                                        have h_6942 : w_6933 D.bk = some (106, dk_ci G 16 (fun i9 => nI (ν.bk i9))) := dk_keep hw_6934 h_6928 h_6925 (by decide)
                                        have h_6943 : w_6933 D.od = some (107, dk_ci G 700 (fun i9 => nI (ν.od i9))) := dk_keep hw_6934 h_6928 h_6926 (by decide)
                                        have h_6944 : w_6933 D.vf = some (108, dk_cl G 700 (fun i9 => (va_up ν.vf m9 (ν.vf k)) i9)) := dk_keep hw_6934 h_6928 h_6918 (by decide)
                                        have h_6945 : w_6933 D.bv = some (109, dk_cl G 16 (fun i9 => ν.bv i9)) := dk_keep hw_6934 h_6928 h_6927 (by decide)
                                        have h_6946 : w_6933 D.ss = some (111, dk_cz G 6 (fun i9 => bo_i (ν.ss i9))) := dk_keep hw_6934 h_6928 h_6929 (by decide)
                                        have h_6947 : w_6933 D.bd = some (112, dk_cz G 16 (fun i9 => bo_i (ν.bd i9))) := dk_keep hw_6934 h_6928 h_6930 (by decide)
                                        have h_6948 : w_6933 D.ks = some (113, dk_cz G 700 (fun i9 => bo_i (ν.ks i9))) := dk_keep hw_6934 h_6928 h_6931 (by decide)
                                        have h_6949 : w_6933 D.bt = some (114, dk_cz G 6000 (fun i9 => bo_i (ν.bt i9))) := dk_keep hw_6934 h_6928 h_6932 (by decide)
                                        refine lv_aload_n hx hb de_M_step_334 rfl (lv_at hl 1 rfl) ?_
                                        refine dk_get (a := h) (v := .ref D.rf) (C := kn_M) (T := kt_M) (N := 22) hx hb hts ki_M hown hK hP h_6936 rfl 10 (by decide) (hts _ wi_724) (fun _ h9 => h9) rfl de_M_step_335 ?_
                                        refine lv_iload hx hb de_M_step_338 (lv_at hl 4 rfl) ?_
                                        refine lv_iinc (v := nI (m9 + 1)) (lv' := [(4, .int (nI (m9 + 1))), (7, .int (nI 0)), (0, .ref h), (1, .int (nI i)), (3, .int (nI μ.rs)), (5, .int (nI y9)), (6, .int (nI k))]) hx hb de_M_step_340 hl (k := 4) rfl (nx_inc m9) (by decide) rfl (fun ls hl => ?_)
                                        refine lv_iload hx hb de_M_step_343 (lv_at hl 1 rfl) ?_
                                        refine nx_if_eq (a := 0) (tgt := 352) hx hb (by omega) de_M_step_345 (by decide) (fun c_6950 => ?_) (fun c_6950 => ?_)
                                        · refine lv_aload_n hx hb de_M_step_352 rfl (lv_at hl 2 rfl) ?_
                                          refine dk_get (a := h) (v := .ref D.rf) (C := kn_M) (T := kt_M) (N := 22) hx hb hts ki_M hown hK hP h_6936 rfl 10 (by decide) (hts _ wi_724) (fun _ h9 => h9) rfl de_M_step_353 ?_
                                          refine lv_iload hx hb de_M_step_356 (lv_at hl 6 rfl) ?_
                                          refine dk_iald (a := D.rf) hx hb hK hP h_6939 k rfl (by omega) (by omega) de_M_step_358 ?_
                                          refine dk_iast (a := D.rf) (x := (rI (ν.rf k))) hx hb hK hP hS h_6939 m9 rfl (by omega) (by omega) de_M_step_359 (fun H locs w_6951 hw_6952 hP hS => ?_)
                                          rw [up_rI] at hw_6952
                                          have h_6953 : w_6951 D.rf = some (103, dk_ci G 700 (fun i9 => rI ((va_up ν.rf m9 (ν.rf k)) i9))) := dk_here hw_6952
                                          have h_6954 : w_6951 h = some (100, .inr (cx_M, [.int (nI ν.er), .int (nI ν.n), .int (nI ν.sq), .int (nI ν.sf), .int (nI ν.rs), .int (rI ν.ba), .int (nI ν.pr), .int (nI ν.mi), .ref D.kf, .ref D.nf, .ref D.rf, .ref D.lf, .ref D.sv, .ref D.bk, .ref D.od, .ref D.vf, .ref D.bv, .ref D.df, .ref D.ss, .ref D.bd, .ref D.ks, .ref D.bt])) := dk_keep hw_6952 h_6939 h_6936 (by decide)
                                          have h_6955 : w_6951 D.kf = some (101, dk_ci G 700 (fun i9 => nI ((va_up ν.kf m9 (ν.kf k)) i9))) := dk_keep hw_6952 h_6939 h_6937 (by decide)
                                          have h_6956 : w_6951 D.nf = some (102, dk_ci G 700 (fun i9 => nI ((va_up ν.nf m9 (ν.nf k)) i9))) := dk_keep hw_6952 h_6939 h_6938 (by decide)
                                          have h_6957 : w_6951 D.lf = some (104, dk_ci G 5000 (fun i9 => rI (ν.lf i9))) := dk_keep hw_6952 h_6939 h_6940 (by decide)
                                          have h_6958 : w_6951 D.sv = some (105, dk_ci G 6 (fun i9 => nI (ν.sv i9))) := dk_keep hw_6952 h_6939 h_6941 (by decide)
                                          have h_6959 : w_6951 D.bk = some (106, dk_ci G 16 (fun i9 => nI (ν.bk i9))) := dk_keep hw_6952 h_6939 h_6942 (by decide)
                                          have h_6960 : w_6951 D.od = some (107, dk_ci G 700 (fun i9 => nI (ν.od i9))) := dk_keep hw_6952 h_6939 h_6943 (by decide)
                                          have h_6961 : w_6951 D.vf = some (108, dk_cl G 700 (fun i9 => (va_up ν.vf m9 (ν.vf k)) i9)) := dk_keep hw_6952 h_6939 h_6944 (by decide)
                                          have h_6962 : w_6951 D.bv = some (109, dk_cl G 16 (fun i9 => ν.bv i9)) := dk_keep hw_6952 h_6939 h_6945 (by decide)
                                          have h_6963 : w_6951 D.df = some (110, dk_cz G 700 (fun i9 => bo_i ((va_up ν.df m9 (ν.df k)) i9))) := dk_keep hw_6952 h_6939 h_6935 (by decide)
                                          have h_6964 : w_6951 D.ss = some (111, dk_cz G 6 (fun i9 => bo_i (ν.ss i9))) := dk_keep hw_6952 h_6939 h_6946 (by decide)
                                          have h_6965 : w_6951 D.bd = some (112, dk_cz G 16 (fun i9 => bo_i (ν.bd i9))) := dk_keep hw_6952 h_6939 h_6947 (by decide)
                                          have h_6966 : w_6951 D.ks = some (113, dk_cz G 700 (fun i9 => bo_i (ν.ks i9))) := dk_keep hw_6952 h_6939 h_6948 (by decide)
                                          have h_6967 : w_6951 D.bt = some (114, dk_cz G 6000 (fun i9 => bo_i (ν.bt i9))) := dk_keep hw_6952 h_6939 h_6949 (by decide)
                                          refine lv_iinc (v := nI (k + 1)) (lv' := [(6, .int (nI (k + 1))), (4, .int (nI (m9 + 1))), (7, .int (nI 0)), (0, .ref h), (1, .int (nI i)), (3, .int (nI μ.rs)), (5, .int (nI y9))]) hx hb de_M_step_360 hl (k := 6) rfl (nx_inc k) (by decide) rfl (fun ls hl => ?_)
                                          refine lv_goto (tgt := 210) hx hb de_M_step_363 (by decide) ?_
                                          have hm_6968 : md_at G w_6951 h D (((((ν.kf' (va_up ν.kf m9 (ν.kf k))).nf' (va_up ν.nf m9 (ν.nf k))).vf' (va_up ν.vf m9 (ν.vf k))).df' (va_up ν.df m9 (ν.df k))).rf' (va_up ν.rf m9 (ν.rf k))) := ⟨h_6954, h_6955, h_6956, h_6953, h_6957, h_6958, h_6959, h_6960, h_6961, h_6962, h_6963, h_6964, h_6965, h_6966, h_6967⟩
                                          exact ih8 (k + 1) (md_cq ν m9 k (ν.rf k)) (m9 + 1) y9 (by omega) (by omega) (by rw [sc_o hsc e3]) (⟨by omega, by omega, q3, q4⟩) (cq_ok hok m9 k (k3 k)) _ _ _ hm_6968 (hg8.tr ((((((dk_fr.rf).tr ((dk_fr.up (T := md_T) hmv8.kf (by unfold md_T; omega)).eq hw_6883)).tr ((dk_fr.up (T := md_T) h_6886 (by unfold md_T; omega)).eq hw_6900)).tr ((dk_fr.up (T := md_T) h_6909 (by unfold md_T; omega)).eq hw_6917)).tr ((dk_fr.up (T := md_T) h_6928 (by unfold md_T; omega)).eq hw_6934)).tr ((dk_fr.up (T := md_T) h_6939 (by unfold md_T; omega)).eq hw_6952))) hP hS _ (lv_sub hl [3, 4, 5, 1, 6, 0] rfl)
                                        · exact absurd c_6950 (by omega)
                                      · exact absurd c_6881 (by omega)
                                    · exact absurd c_6880 (by omega)
                                  · obtain ⟨r9, hr9⟩ := rI_so c_6879
                                    have hr5 := k3 k r9 hr9
                                    have hleq := rI_eq (a := ν.lf r9) (b := some i) (fun r hr => by have := k4 r9 r hr; omega) (fun r hr => by cases hr; omega)
                                    refine lv_aload_n hx hb de_M_step_229 rfl (lv_at hl 0 rfl) ?_
                                    refine dk_get (a := h) (v := .ref D.lf) (C := kn_M) (T := kt_M) (N := 22) hx hb hts ki_M hown hK hP hh_6877 rfl 11 (by decide) (hts _ wi_725) (fun _ h9 => h9) rfl de_M_step_230 ?_
                                    refine lv_aload_n hx hb de_M_step_233 rfl (lv_at hl 0 rfl) ?_
                                    refine dk_get (a := h) (v := .ref D.rf) (C := kn_M) (T := kt_M) (N := 22) hx hb hts ki_M hown hK hP hh_6877 rfl 10 (by decide) (hts _ wi_724) (fun _ h9 => h9) rfl de_M_step_234 ?_
                                    refine lv_iload hx hb de_M_step_237 (lv_at hl 5 rfl) ?_
                                    refine dk_iald (a := D.rf) hx hb hK hP hmv8.rf k rfl (by omega) (by omega) de_M_step_239 ?_
                                    rw [hr9]
                                    rw [show rI (some r9) = nI r9 from rfl]
                                    refine dk_iald (a := D.lf) hx hb hK hP hmv8.lf r9 rfl (by omega) (by omega) de_M_step_240 ?_
                                    refine lv_iload_n hx hb de_M_step_241 rfl (lv_at hl 1 rfl) ?_
                                    refine lv_icmp_ne (tgt := 249) hx hb de_M_step_242 (by decide) (fun c_6969 => ?_) (fun c_6969 => ?_)
                                    · have e3 := at_l2 (l := i) hr9 (fun z => c_6969 (hleq.mpr z))
                                      refine lv_iconst (v := nI 0) hx hb de_M_step_249 (by decide) ?_
                                      refine lv_istore (lv' := [(7, .int (nI 0)), (0, .ref h), (1, .int (nI i)), (3, .int (nI μ.rs)), (4, .int (nI m9)), (5, .int (nI y9)), (6, .int (nI k))]) hx hb de_M_step_250 hl (by decide) rfl (fun ls hl => ?_)
                                      refine lv_iload hx hb de_M_step_252 (lv_at hl 0 rfl) ?_
                                      refine nx_if_eq (a := 0) (tgt := 270) hx hb (by omega) de_M_step_254 (by decide) (fun c_6970 => ?_) (fun c_6970 => ?_)
                                      · refine lv_iload hx hb de_M_step_270 (lv_at hl 0 rfl) ?_
                                        refine nx_if_eq (a := 0) (tgt := 278) hx hb (by omega) de_M_step_272 (by decide) (fun c_6971 => ?_) (fun c_6971 => ?_)
                                        · refine lv_aload_n hx hb de_M_step_278 rfl (lv_at hl 1 rfl) ?_
                                          refine dk_get (a := h) (v := .ref D.kf) (C := kn_M) (T := kt_M) (N := 22) hx hb hts ki_M hown hK hP hh_6877 rfl 8 (by decide) (hts _ wi_722) (fun _ h9 => h9) rfl de_M_step_279 ?_
                                          refine lv_iload hx hb de_M_step_282 (lv_at hl 4 rfl) ?_
                                          refine lv_aload_n hx hb de_M_step_284 rfl (lv_at hl 1 rfl) ?_
                                          refine dk_get (a := h) (v := .ref D.kf) (C := kn_M) (T := kt_M) (N := 22) hx hb hts ki_M hown hK hP hh_6877 rfl 8 (by decide) (hts _ wi_722) (fun _ h9 => h9) rfl de_M_step_285 ?_
                                          refine lv_iload hx hb de_M_step_288 (lv_at hl 6 rfl) ?_
                                          refine dk_iald (a := D.kf) hx hb hK hP hmv8.kf k rfl (by omega) (by omega) de_M_step_290 ?_
                                          refine dk_iast (a := D.kf) (x := (nI (ν.kf k))) hx hb hK hP hS hmv8.kf m9 rfl (by omega) (by omega) de_M_step_291 (fun H locs w_6972 hw_6973 hP hS => ?_)
                                          rw [up_nI] at hw_6973
                                          have h_6974 : w_6972 D.kf = some (101, dk_ci G 700 (fun i9 => nI ((va_up ν.kf m9 (ν.kf k)) i9))) := dk_here hw_6973
                                          have h_6975 : w_6972 h = some (100, .inr (cx_M, [.int (nI ν.er), .int (nI ν.n), .int (nI ν.sq), .int (nI ν.sf), .int (nI ν.rs), .int (rI ν.ba), .int (nI ν.pr), .int (nI ν.mi), .ref D.kf, .ref D.nf, .ref D.rf, .ref D.lf, .ref D.sv, .ref D.bk, .ref D.od, .ref D.vf, .ref D.bv, .ref D.df, .ref D.ss, .ref D.bd, .ref D.ks, .ref D.bt])) := dk_keep hw_6973 hmv8.kf hh_6877 (by decide)
                                          have h_6976 : w_6972 D.nf = some (102, dk_ci G 700 (fun i9 => nI (ν.nf i9))) := dk_keep hw_6973 hmv8.kf hmv8.nf (by decide)
                                          have h_6977 : w_6972 D.rf = some (103, dk_ci G 700 (fun i9 => rI (ν.rf i9))) := dk_keep hw_6973 hmv8.kf hmv8.rf (by decide)
                                          have h_6978 : w_6972 D.lf = some (104, dk_ci G 5000 (fun i9 => rI (ν.lf i9))) := dk_keep hw_6973 hmv8.kf hmv8.lf (by decide)
                                          have h_6979 : w_6972 D.sv = some (105, dk_ci G 6 (fun i9 => nI (ν.sv i9))) := dk_keep hw_6973 hmv8.kf hmv8.sv (by decide)
                                          have h_6980 : w_6972 D.bk = some (106, dk_ci G 16 (fun i9 => nI (ν.bk i9))) := dk_keep hw_6973 hmv8.kf hmv8.bk (by decide)
                                          have h_6981 : w_6972 D.od = some (107, dk_ci G 700 (fun i9 => nI (ν.od i9))) := dk_keep hw_6973 hmv8.kf hmv8.od (by decide)
                                          have h_6982 : w_6972 D.vf = some (108, dk_cl G 700 (fun i9 => ν.vf i9)) := dk_keep hw_6973 hmv8.kf hmv8.vf (by decide)
                                          have h_6983 : w_6972 D.bv = some (109, dk_cl G 16 (fun i9 => ν.bv i9)) := dk_keep hw_6973 hmv8.kf hmv8.bv (by decide)
                                          have h_6984 : w_6972 D.df = some (110, dk_cz G 700 (fun i9 => bo_i (ν.df i9))) := dk_keep hw_6973 hmv8.kf hmv8.df (by decide)
                                          have h_6985 : w_6972 D.ss = some (111, dk_cz G 6 (fun i9 => bo_i (ν.ss i9))) := dk_keep hw_6973 hmv8.kf hmv8.ss (by decide)
                                          have h_6986 : w_6972 D.bd = some (112, dk_cz G 16 (fun i9 => bo_i (ν.bd i9))) := dk_keep hw_6973 hmv8.kf hmv8.bd (by decide)
                                          have h_6987 : w_6972 D.ks = some (113, dk_cz G 700 (fun i9 => bo_i (ν.ks i9))) := dk_keep hw_6973 hmv8.kf hmv8.ks (by decide)
                                          have h_6988 : w_6972 D.bt = some (114, dk_cz G 6000 (fun i9 => bo_i (ν.bt i9))) := dk_keep hw_6973 hmv8.kf hmv8.bt (by decide)
                                          refine lv_aload_n hx hb de_M_step_292 rfl (lv_at hl 1 rfl) ?_
                                          refine dk_get (a := h) (v := .ref D.nf) (C := kn_M) (T := kt_M) (N := 22) hx hb hts ki_M hown hK hP h_6975 rfl 9 (by decide) (hts _ wi_723) (fun _ h9 => h9) rfl de_M_step_293 ?_
                                          refine lv_iload hx hb de_M_step_296 (lv_at hl 4 rfl) ?_
                                          refine lv_aload_n hx hb de_M_step_298 rfl (lv_at hl 1 rfl) ?_
                                          refine dk_get (a := h) (v := .ref D.nf) (C := kn_M) (T := kt_M) (N := 22) hx hb hts ki_M hown hK hP h_6975 rfl 9 (by decide) (hts _ wi_723) (fun _ h9 => h9) rfl de_M_step_299 ?_
                                          refine lv_iload hx hb de_M_step_302 (lv_at hl 6 rfl) ?_
                                          refine dk_iald (a := D.nf) hx hb hK hP h_6976 k rfl (by omega) (by omega) de_M_step_304 ?_
                                          refine dk_iast (a := D.nf) (x := (nI (ν.nf k))) hx hb hK hP hS h_6976 m9 rfl (by omega) (by omega) de_M_step_305 (fun H locs w_6989 hw_6990 hP hS => ?_)
                                          rw [up_nI] at hw_6990
                                          have h_6991 : w_6989 D.nf = some (102, dk_ci G 700 (fun i9 => nI ((va_up ν.nf m9 (ν.nf k)) i9))) := dk_here hw_6990
                                          have h_6992 : w_6989 h = some (100, .inr (cx_M, [.int (nI ν.er), .int (nI ν.n), .int (nI ν.sq), .int (nI ν.sf), .int (nI ν.rs), .int (rI ν.ba), .int (nI ν.pr), .int (nI ν.mi), .ref D.kf, .ref D.nf, .ref D.rf, .ref D.lf, .ref D.sv, .ref D.bk, .ref D.od, .ref D.vf, .ref D.bv, .ref D.df, .ref D.ss, .ref D.bd, .ref D.ks, .ref D.bt])) := dk_keep hw_6990 h_6976 h_6975 (by decide)
                                          have h_6993 : w_6989 D.kf = some (101, dk_ci G 700 (fun i9 => nI ((va_up ν.kf m9 (ν.kf k)) i9))) := dk_keep hw_6990 h_6976 h_6974 (by decide)
                                          have h_6994 : w_6989 D.rf = some (103, dk_ci G 700 (fun i9 => rI (ν.rf i9))) := dk_keep hw_6990 h_6976 h_6977 (by decide)
                                          have h_6995 : w_6989 D.lf = some (104, dk_ci G 5000 (fun i9 => rI (ν.lf i9))) := dk_keep hw_6990 h_6976 h_6978 (by decide)
                                          have h_6996 : w_6989 D.sv = some (105, dk_ci G 6 (fun i9 => nI (ν.sv i9))) := dk_keep hw_6990 h_6976 h_6979 (by decide)
                                          have h_6997 : w_6989 D.bk = some (106, dk_ci G 16 (fun i9 => nI (ν.bk i9))) := dk_keep hw_6990 h_6976 h_6980 (by decide)
                                          have h_6998 : w_6989 D.od = some (107, dk_ci G 700 (fun i9 => nI (ν.od i9))) := dk_keep hw_6990 h_6976 h_6981 (by decide)
                                          have h_6999 : w_6989 D.vf = some (108, dk_cl G 700 (fun i9 => ν.vf i9)) := dk_keep hw_6990 h_6976 h_6982 (by decide)
                                          have h_7000 : w_6989 D.bv = some (109, dk_cl G 16 (fun i9 => ν.bv i9)) := dk_keep hw_6990 h_6976 h_6983 (by decide)
                                          have h_7001 : w_6989 D.df = some (110, dk_cz G 700 (fun i9 => bo_i (ν.df i9))) := dk_keep hw_6990 h_6976 h_6984 (by decide)
                                          have h_7002 : w_6989 D.ss = some (111, dk_cz G 6 (fun i9 => bo_i (ν.ss i9))) := dk_keep hw_6990 h_6976 h_6985 (by decide)
                                          have h_7003 : w_6989 D.bd = some (112, dk_cz G 16 (fun i9 => bo_i (ν.bd i9))) := dk_keep hw_6990 h_6976 h_6986 (by decide)
                                          have h_7004 : w_6989 D.ks = some (113, dk_cz G 700 (fun i9 => bo_i (ν.ks i9))) := dk_keep hw_6990 h_6976 h_6987 (by decide)
                                          have h_7005 : w_6989 D.bt = some (114, dk_cz G 6000 (fun i9 => bo_i (ν.bt i9))) := dk_keep hw_6990 h_6976 h_6988 (by decide)
                                          refine lv_aload_n hx hb de_M_step_306 rfl (lv_at hl 1 rfl) ?_
                                          refine dk_get (a := h) (v := .ref D.vf) (C := kn_M) (T := kt_M) (N := 22) hx hb hts ki_M hown hK hP h_6992 rfl 15 (by decide) (hts _ wi_729) (fun _ h9 => h9) rfl de_M_step_307 ?_
                                          refine lv_iload hx hb de_M_step_310 (lv_at hl 4 rfl) ?_
                                          refine lv_aload_n hx hb de_M_step_312 rfl (lv_at hl 1 rfl) ?_
                                          refine dk_get (a := h) (v := .ref D.vf) (C := kn_M) (T := kt_M) (N := 22) hx hb hts ki_M hown hK hP h_6992 rfl 15 (by decide) (hts _ wi_729) (fun _ h9 => h9) rfl de_M_step_313 ?_
                                          refine lv_iload hx hb de_M_step_316 (lv_at hl 6 rfl) ?_
                                          refine dk_lald (a := D.vf) hx hb hK hP h_6999 k rfl (by omega) (by omega) de_M_step_318 ?_
                                          refine dk_last (a := D.vf) (x := (ν.vf k)) hx hb hK hP hS h_6999 m9 rfl (by omega) (by omega) de_M_step_319 (fun H locs w_7006 hw_7007 hP hS => ?_)
                                          rw [up_L] at hw_7007
                                          have h_7008 : w_7006 D.vf = some (108, dk_cl G 700 (fun i9 => (va_up ν.vf m9 (ν.vf k)) i9)) := dk_here hw_7007
                                          have h_7009 : w_7006 h = some (100, .inr (cx_M, [.int (nI ν.er), .int (nI ν.n), .int (nI ν.sq), .int (nI ν.sf), .int (nI ν.rs), .int (rI ν.ba), .int (nI ν.pr), .int (nI ν.mi), .ref D.kf, .ref D.nf, .ref D.rf, .ref D.lf, .ref D.sv, .ref D.bk, .ref D.od, .ref D.vf, .ref D.bv, .ref D.df, .ref D.ss, .ref D.bd, .ref D.ks, .ref D.bt])) := dk_keep hw_7007 h_6999 h_6992 (by decide)
                                          have h_7010 : w_7006 D.kf = some (101, dk_ci G 700 (fun i9 => nI ((va_up ν.kf m9 (ν.kf k)) i9))) := dk_keep hw_7007 h_6999 h_6993 (by decide)
                                          have h_7011 : w_7006 D.nf = some (102, dk_ci G 700 (fun i9 => nI ((va_up ν.nf m9 (ν.nf k)) i9))) := dk_keep hw_7007 h_6999 h_6991 (by decide)
                                          have h_7012 : w_7006 D.rf = some (103, dk_ci G 700 (fun i9 => rI (ν.rf i9))) := dk_keep hw_7007 h_6999 h_6994 (by decide)
                                          have h_7013 : w_7006 D.lf = some (104, dk_ci G 5000 (fun i9 => rI (ν.lf i9))) := dk_keep hw_7007 h_6999 h_6995 (by decide)
                                          have h_7014 : w_7006 D.sv = some (105, dk_ci G 6 (fun i9 => nI (ν.sv i9))) := dk_keep hw_7007 h_6999 h_6996 (by decide)
                                          have h_7015 : w_7006 D.bk = some (106, dk_ci G 16 (fun i9 => nI (ν.bk i9))) := dk_keep hw_7007 h_6999 h_6997 (by decide)
                                          have h_7016 : w_7006 D.od = some (107, dk_ci G 700 (fun i9 => nI (ν.od i9))) := dk_keep hw_7007 h_6999 h_6998 (by decide)
                                          have h_7017 : w_7006 D.bv = some (109, dk_cl G 16 (fun i9 => ν.bv i9)) := dk_keep hw_7007 h_6999 h_7000 (by decide)
                                          have h_7018 : w_7006 D.df = some (110, dk_cz G 700 (fun i9 => bo_i (ν.df i9))) := dk_keep hw_7007 h_6999 h_7001 (by decide)
                                          have h_7019 : w_7006 D.ss = some (111, dk_cz G 6 (fun i9 => bo_i (ν.ss i9))) := dk_keep hw_7007 h_6999 h_7002 (by decide)
                                          have h_7020 : w_7006 D.bd = some (112, dk_cz G 16 (fun i9 => bo_i (ν.bd i9))) := dk_keep hw_7007 h_6999 h_7003 (by decide)
                                          have h_7021 : w_7006 D.ks = some (113, dk_cz G 700 (fun i9 => bo_i (ν.ks i9))) := dk_keep hw_7007 h_6999 h_7004 (by decide)
                                          have h_7022 : w_7006 D.bt = some (114, dk_cz G 6000 (fun i9 => bo_i (ν.bt i9))) := dk_keep hw_7007 h_6999 h_7005 (by decide)
                                          refine lv_aload_n hx hb de_M_step_320 rfl (lv_at hl 1 rfl) ?_
                                          refine dk_get (a := h) (v := .ref D.df) (C := kn_M) (T := kt_M) (N := 22) hx hb hts ki_M hown hK hP h_7009 rfl 17 (by decide) (hts _ wi_731) (fun _ h9 => h9) rfl de_M_step_321 ?_
                                          refine lv_iload hx hb de_M_step_324 (lv_at hl 4 rfl) ?_
                                          refine lv_aload_n hx hb de_M_step_326 rfl (lv_at hl 1 rfl) ?_
                                          refine dk_get (a := h) (v := .ref D.df) (C := kn_M) (T := kt_M) (N := 22) hx hb hts ki_M hown hK hP h_7009 rfl 17 (by decide) (hts _ wi_731) (fun _ h9 => h9) rfl de_M_step_327 ?_
                                          refine lv_iload hx hb de_M_step_330 (lv_at hl 6 rfl) ?_
                                          refine dk_zald (a := D.df) hx hb hK hP h_7018 k rfl (by omega) (by omega) de_M_step_332 ?_
                                          refine dk_zast (a := D.df) (x := (bo_i (ν.df k))) hx hb hK hP hS h_7018 m9 rfl (by omega) (by omega) (bo_vn (ν.df k)) de_M_step_333 (fun H locs w_7023 hw_7024 hP hS => ?_)
                                          rw [up_bo] at hw_7024
                                          have h_7025 : w_7023 D.df = some (110, dk_cz G 700 (fun i9 => bo_i ((va_up ν.df m9 (ν.df k)) i9))) := dk_here hw_7024
                                          have h_7026 : w_7023 h = some (100, .inr (cx_M, [.int (nI ν.er), .int (nI ν.n), .int (nI ν.sq), .int (nI ν.sf), .int (nI ν.rs), .int (rI ν.ba), .int (nI ν.pr), .int (nI ν.mi), .ref D.kf, .ref D.nf, .ref D.rf, .ref D.lf, .ref D.sv, .ref D.bk, .ref D.od, .ref D.vf, .ref D.bv, .ref D.df, .ref D.ss, .ref D.bd, .ref D.ks, .ref D.bt])) := dk_keep hw_7024 h_7018 h_7009 (by decide)
                                          have h_7027 : w_7023 D.kf = some (101, dk_ci G 700 (fun i9 => nI ((va_up ν.kf m9 (ν.kf k)) i9))) := dk_keep hw_7024 h_7018 h_7010 (by decide)
                                          have h_7028 : w_7023 D.nf = some (102, dk_ci G 700 (fun i9 => nI ((va_up ν.nf m9 (ν.nf k)) i9))) := dk_keep hw_7024 h_7018 h_7011 (by decide)
                                          have h_7029 : w_7023 D.rf = some (103, dk_ci G 700 (fun i9 => rI (ν.rf i9))) := dk_keep hw_7024 h_7018 h_7012 (by decide)
                                          have h_7030 : w_7023 D.lf = some (104, dk_ci G 5000 (fun i9 => rI (ν.lf i9))) := dk_keep hw_7024 h_7018 h_7013 (by decide)
                                          have h_7031 : w_7023 D.sv = some (105, dk_ci G 6 (fun i9 => nI (ν.sv i9))) := dk_keep hw_7024 h_7018 h_7014 (by decide)
                                          have h_7032 : w_7023 D.bk = some (106, dk_ci G 16 (fun i9 => nI (ν.bk i9))) := dk_keep hw_7024 h_7018 h_7015 (by decide)
                                          have h_7033 : w_7023 D.od = some (107, dk_ci G 700 (fun i9 => nI (ν.od i9))) := dk_keep hw_7024 h_7018 h_7016 (by decide)
                                          have h_7034 : w_7023 D.vf = some (108, dk_cl G 700 (fun i9 => (va_up ν.vf m9 (ν.vf k)) i9)) := dk_keep hw_7024 h_7018 h_7008 (by decide)
                                          have h_7035 : w_7023 D.bv = some (109, dk_cl G 16 (fun i9 => ν.bv i9)) := dk_keep hw_7024 h_7018 h_7017 (by decide)
                                          have h_7036 : w_7023 D.ss = some (111, dk_cz G 6 (fun i9 => bo_i (ν.ss i9))) := dk_keep hw_7024 h_7018 h_7019 (by decide)
                                          have h_7037 : w_7023 D.bd = some (112, dk_cz G 16 (fun i9 => bo_i (ν.bd i9))) := dk_keep hw_7024 h_7018 h_7020 (by decide)
                                          have h_7038 : w_7023 D.ks = some (113, dk_cz G 700 (fun i9 => bo_i (ν.ks i9))) := dk_keep hw_7024 h_7018 h_7021 (by decide)
                                          have h_7039 : w_7023 D.bt = some (114, dk_cz G 6000 (fun i9 => bo_i (ν.bt i9))) := dk_keep hw_7024 h_7018 h_7022 (by decide)
                                          refine lv_aload_n hx hb de_M_step_334 rfl (lv_at hl 1 rfl) ?_
                                          refine dk_get (a := h) (v := .ref D.rf) (C := kn_M) (T := kt_M) (N := 22) hx hb hts ki_M hown hK hP h_7026 rfl 10 (by decide) (hts _ wi_724) (fun _ h9 => h9) rfl de_M_step_335 ?_
                                          refine lv_iload hx hb de_M_step_338 (lv_at hl 4 rfl) ?_
                                          refine lv_iinc (v := nI (m9 + 1)) (lv' := [(4, .int (nI (m9 + 1))), (7, .int (nI 0)), (0, .ref h), (1, .int (nI i)), (3, .int (nI μ.rs)), (5, .int (nI y9)), (6, .int (nI k))]) hx hb de_M_step_340 hl (k := 4) rfl (nx_inc m9) (by decide) rfl (fun ls hl => ?_)
                                          refine lv_iload hx hb de_M_step_343 (lv_at hl 1 rfl) ?_
                                          refine nx_if_eq (a := 0) (tgt := 352) hx hb (by omega) de_M_step_345 (by decide) (fun c_7040 => ?_) (fun c_7040 => ?_)
                                          · refine lv_aload_n hx hb de_M_step_352 rfl (lv_at hl 2 rfl) ?_
                                            refine dk_get (a := h) (v := .ref D.rf) (C := kn_M) (T := kt_M) (N := 22) hx hb hts ki_M hown hK hP h_7026 rfl 10 (by decide) (hts _ wi_724) (fun _ h9 => h9) rfl de_M_step_353 ?_
                                            refine lv_iload hx hb de_M_step_356 (lv_at hl 6 rfl) ?_
                                            refine dk_iald (a := D.rf) hx hb hK hP h_7029 k rfl (by omega) (by omega) de_M_step_358 ?_
                                            refine dk_iast (a := D.rf) (x := (rI (ν.rf k))) hx hb hK hP hS h_7029 m9 rfl (by omega) (by omega) de_M_step_359 (fun H locs w_7041 hw_7042 hP hS => ?_)
                                            rw [up_rI] at hw_7042
                                            have h_7043 : w_7041 D.rf = some (103, dk_ci G 700 (fun i9 => rI ((va_up ν.rf m9 (ν.rf k)) i9))) := dk_here hw_7042
                                            have h_7044 : w_7041 h = some (100, .inr (cx_M, [.int (nI ν.er), .int (nI ν.n), .int (nI ν.sq), .int (nI ν.sf), .int (nI ν.rs), .int (rI ν.ba), .int (nI ν.pr), .int (nI ν.mi), .ref D.kf, .ref D.nf, .ref D.rf, .ref D.lf, .ref D.sv, .ref D.bk, .ref D.od, .ref D.vf, .ref D.bv, .ref D.df, .ref D.ss, .ref D.bd, .ref D.ks, .ref D.bt])) := dk_keep hw_7042 h_7029 h_7026 (by decide)
                                            have h_7045 : w_7041 D.kf = some (101, dk_ci G 700 (fun i9 => nI ((va_up ν.kf m9 (ν.kf k)) i9))) := dk_keep hw_7042 h_7029 h_7027 (by decide)
                                            have h_7046 : w_7041 D.nf = some (102, dk_ci G 700 (fun i9 => nI ((va_up ν.nf m9 (ν.nf k)) i9))) := dk_keep hw_7042 h_7029 h_7028 (by decide)
                                            have h_7047 : w_7041 D.lf = some (104, dk_ci G 5000 (fun i9 => rI (ν.lf i9))) := dk_keep hw_7042 h_7029 h_7030 (by decide)
                                            have h_7048 : w_7041 D.sv = some (105, dk_ci G 6 (fun i9 => nI (ν.sv i9))) := dk_keep hw_7042 h_7029 h_7031 (by decide)
                                            have h_7049 : w_7041 D.bk = some (106, dk_ci G 16 (fun i9 => nI (ν.bk i9))) := dk_keep hw_7042 h_7029 h_7032 (by decide)
                                            have h_7050 : w_7041 D.od = some (107, dk_ci G 700 (fun i9 => nI (ν.od i9))) := dk_keep hw_7042 h_7029 h_7033 (by decide)
                                            have h_7051 : w_7041 D.vf = some (108, dk_cl G 700 (fun i9 => (va_up ν.vf m9 (ν.vf k)) i9)) := dk_keep hw_7042 h_7029 h_7034 (by decide)
                                            have h_7052 : w_7041 D.bv = some (109, dk_cl G 16 (fun i9 => ν.bv i9)) := dk_keep hw_7042 h_7029 h_7035 (by decide)
                                            have h_7053 : w_7041 D.df = some (110, dk_cz G 700 (fun i9 => bo_i ((va_up ν.df m9 (ν.df k)) i9))) := dk_keep hw_7042 h_7029 h_7025 (by decide)
                                            have h_7054 : w_7041 D.ss = some (111, dk_cz G 6 (fun i9 => bo_i (ν.ss i9))) := dk_keep hw_7042 h_7029 h_7036 (by decide)
                                            have h_7055 : w_7041 D.bd = some (112, dk_cz G 16 (fun i9 => bo_i (ν.bd i9))) := dk_keep hw_7042 h_7029 h_7037 (by decide)
                                            have h_7056 : w_7041 D.ks = some (113, dk_cz G 700 (fun i9 => bo_i (ν.ks i9))) := dk_keep hw_7042 h_7029 h_7038 (by decide)
                                            have h_7057 : w_7041 D.bt = some (114, dk_cz G 6000 (fun i9 => bo_i (ν.bt i9))) := dk_keep hw_7042 h_7029 h_7039 (by decide)
                                            refine lv_iinc (v := nI (k + 1)) (lv' := [(6, .int (nI (k + 1))), (4, .int (nI (m9 + 1))), (7, .int (nI 0)), (0, .ref h), (1, .int (nI i)), (3, .int (nI μ.rs)), (5, .int (nI y9))]) hx hb de_M_step_360 hl (k := 6) rfl (nx_inc k) (by decide) rfl (fun ls hl => ?_)
                                            refine lv_goto (tgt := 210) hx hb de_M_step_363 (by decide) ?_
                                            have hm_7058 : md_at G w_7041 h D (((((ν.kf' (va_up ν.kf m9 (ν.kf k))).nf' (va_up ν.nf m9 (ν.nf k))).vf' (va_up ν.vf m9 (ν.vf k))).df' (va_up ν.df m9 (ν.df k))).rf' (va_up ν.rf m9 (ν.rf k))) := ⟨h_7044, h_7045, h_7046, h_7043, h_7047, h_7048, h_7049, h_7050, h_7051, h_7052, h_7053, h_7054, h_7055, h_7056, h_7057⟩
                                            exact ih8 (k + 1) (md_cq ν m9 k (ν.rf k)) (m9 + 1) y9 (by omega) (by omega) (by rw [sc_o hsc e3]) (⟨by omega, by omega, q3, q4⟩) (cq_ok hok m9 k (k3 k)) _ _ _ hm_7058 (hg8.tr ((((((dk_fr.rf).tr ((dk_fr.up (T := md_T) hmv8.kf (by unfold md_T; omega)).eq hw_6973)).tr ((dk_fr.up (T := md_T) h_6976 (by unfold md_T; omega)).eq hw_6990)).tr ((dk_fr.up (T := md_T) h_6999 (by unfold md_T; omega)).eq hw_7007)).tr ((dk_fr.up (T := md_T) h_7018 (by unfold md_T; omega)).eq hw_7024)).tr ((dk_fr.up (T := md_T) h_7029 (by unfold md_T; omega)).eq hw_7042))) hP hS _ (lv_sub hl [3, 4, 5, 1, 6, 0] rfl)
                                          · exact absurd c_7040 (by omega)
                                        · exact absurd c_6971 (by omega)
                                      · exact absurd c_6970 (by omega)
                                    · have e3 := at_l1 (l := i) hr9 (hleq.mp c_6969)
                                      refine lv_iconst (v := nI 1) hx hb de_M_step_245 (by decide) ?_
                                      refine lv_goto (tgt := 250) hx hb de_M_step_246 (by decide) ?_
                                      refine lv_istore (lv' := [(7, .int (nI 1)), (0, .ref h), (1, .int (nI i)), (3, .int (nI μ.rs)), (4, .int (nI m9)), (5, .int (nI y9)), (6, .int (nI k))]) hx hb de_M_step_250 hl (by decide) rfl (fun ls hl => ?_)
                                      refine lv_iload hx hb de_M_step_252 (lv_at hl 0 rfl) ?_
                                      refine nx_if_eq (a := 1) (tgt := 270) hx hb (by omega) de_M_step_254 (by decide) (fun c_7059 => ?_) (fun c_7059 => ?_)
                                      · exact absurd c_7059 (by omega)
                                      · refine lv_aload_n hx hb de_M_step_257 rfl (lv_at hl 1 rfl) ?_
                                        refine dk_get (a := h) (v := .ref D.ks) (C := kn_M) (T := kt_M) (N := 22) hx hb hts ki_M hown hK hP hh_6877 rfl 20 (by decide) (hts _ wi_734) (fun _ h9 => h9) rfl de_M_step_258 ?_
                                        refine lv_iload hx hb de_M_step_261 (lv_at hl 6 rfl) ?_
                                        refine dk_zald (a := D.ks) hx hb hK hP hmv8.ks k rfl (by omega) (by omega) de_M_step_263 ?_
                                        refine bo_if_ne (b := (ν.ks k)) (tgt := 270) hx hb de_M_step_264 (by decide) (fun c_7060 => ?_) (fun c_7060 => ?_)
                                        · have e2 := c_7060
                                          refine lv_iload hx hb de_M_step_270 (lv_at hl 0 rfl) ?_
                                          refine nx_if_eq (a := 1) (tgt := 278) hx hb (by omega) de_M_step_272 (by decide) (fun c_7061 => ?_) (fun c_7061 => ?_)
                                          · exact absurd c_7061 (by omega)
                                          · refine lv_iinc (v := nI (y9 + 1)) (lv' := [(5, .int (nI (y9 + 1))), (7, .int (nI 1)), (0, .ref h), (1, .int (nI i)), (3, .int (nI μ.rs)), (4, .int (nI m9)), (6, .int (nI k))]) hx hb de_M_step_275 hl (k := 5) rfl (nx_inc y9) (by decide) rfl (fun ls hl => ?_)
                                            refine lv_aload_n hx hb de_M_step_278 rfl (lv_at hl 2 rfl) ?_
                                            refine dk_get (a := h) (v := .ref D.kf) (C := kn_M) (T := kt_M) (N := 22) hx hb hts ki_M hown hK hP hh_6877 rfl 8 (by decide) (hts _ wi_722) (fun _ h9 => h9) rfl de_M_step_279 ?_
                                            refine lv_iload hx hb de_M_step_282 (lv_at hl 5 rfl) ?_
                                            refine lv_aload_n hx hb de_M_step_284 rfl (lv_at hl 2 rfl) ?_
                                            refine dk_get (a := h) (v := .ref D.kf) (C := kn_M) (T := kt_M) (N := 22) hx hb hts ki_M hown hK hP hh_6877 rfl 8 (by decide) (hts _ wi_722) (fun _ h9 => h9) rfl de_M_step_285 ?_
                                            refine lv_iload hx hb de_M_step_288 (lv_at hl 6 rfl) ?_
                                            refine dk_iald (a := D.kf) hx hb hK hP hmv8.kf k rfl (by omega) (by omega) de_M_step_290 ?_
                                            refine dk_iast (a := D.kf) (x := (nI (ν.kf k))) hx hb hK hP hS hmv8.kf m9 rfl (by omega) (by omega) de_M_step_291 (fun H locs w_7062 hw_7063 hP hS => ?_)
                                            rw [up_nI] at hw_7063
                                            have h_7064 : w_7062 D.kf = some (101, dk_ci G 700 (fun i9 => nI ((va_up ν.kf m9 (ν.kf k)) i9))) := dk_here hw_7063
                                            have h_7065 : w_7062 h = some (100, .inr (cx_M, [.int (nI ν.er), .int (nI ν.n), .int (nI ν.sq), .int (nI ν.sf), .int (nI ν.rs), .int (rI ν.ba), .int (nI ν.pr), .int (nI ν.mi), .ref D.kf, .ref D.nf, .ref D.rf, .ref D.lf, .ref D.sv, .ref D.bk, .ref D.od, .ref D.vf, .ref D.bv, .ref D.df, .ref D.ss, .ref D.bd, .ref D.ks, .ref D.bt])) := dk_keep hw_7063 hmv8.kf hh_6877 (by decide)
                                            have h_7066 : w_7062 D.nf = some (102, dk_ci G 700 (fun i9 => nI (ν.nf i9))) := dk_keep hw_7063 hmv8.kf hmv8.nf (by decide)
                                            have h_7067 : w_7062 D.rf = some (103, dk_ci G 700 (fun i9 => rI (ν.rf i9))) := dk_keep hw_7063 hmv8.kf hmv8.rf (by decide)
                                            have h_7068 : w_7062 D.lf = some (104, dk_ci G 5000 (fun i9 => rI (ν.lf i9))) := dk_keep hw_7063 hmv8.kf hmv8.lf (by decide)
                                            have h_7069 : w_7062 D.sv = some (105, dk_ci G 6 (fun i9 => nI (ν.sv i9))) := dk_keep hw_7063 hmv8.kf hmv8.sv (by decide)
                                            have h_7070 : w_7062 D.bk = some (106, dk_ci G 16 (fun i9 => nI (ν.bk i9))) := dk_keep hw_7063 hmv8.kf hmv8.bk (by decide)
                                            have h_7071 : w_7062 D.od = some (107, dk_ci G 700 (fun i9 => nI (ν.od i9))) := dk_keep hw_7063 hmv8.kf hmv8.od (by decide)
                                            have h_7072 : w_7062 D.vf = some (108, dk_cl G 700 (fun i9 => ν.vf i9)) := dk_keep hw_7063 hmv8.kf hmv8.vf (by decide)
                                            have h_7073 : w_7062 D.bv = some (109, dk_cl G 16 (fun i9 => ν.bv i9)) := dk_keep hw_7063 hmv8.kf hmv8.bv (by decide)
                                            have h_7074 : w_7062 D.df = some (110, dk_cz G 700 (fun i9 => bo_i (ν.df i9))) := dk_keep hw_7063 hmv8.kf hmv8.df (by decide)
                                            have h_7075 : w_7062 D.ss = some (111, dk_cz G 6 (fun i9 => bo_i (ν.ss i9))) := dk_keep hw_7063 hmv8.kf hmv8.ss (by decide)
                                            have h_7076 : w_7062 D.bd = some (112, dk_cz G 16 (fun i9 => bo_i (ν.bd i9))) := dk_keep hw_7063 hmv8.kf hmv8.bd (by decide)
                                            have h_7077 : w_7062 D.ks = some (113, dk_cz G 700 (fun i9 => bo_i (ν.ks i9))) := dk_keep hw_7063 hmv8.kf hmv8.ks (by decide)
                                            have h_7078 : w_7062 D.bt = some (114, dk_cz G 6000 (fun i9 => bo_i (ν.bt i9))) := dk_keep hw_7063 hmv8.kf hmv8.bt (by decide)
                                            refine lv_aload_n hx hb de_M_step_292 rfl (lv_at hl 2 rfl) ?_
                                            refine dk_get (a := h) (v := .ref D.nf) (C := kn_M) (T := kt_M) (N := 22) hx hb hts ki_M hown hK hP h_7065 rfl 9 (by decide) (hts _ wi_723) (fun _ h9 => h9) rfl de_M_step_293 ?_
                                            refine lv_iload hx hb de_M_step_296 (lv_at hl 5 rfl) ?_
                                            refine lv_aload_n hx hb de_M_step_298 rfl (lv_at hl 2 rfl) ?_
                                            refine dk_get (a := h) (v := .ref D.nf) (C := kn_M) (T := kt_M) (N := 22) hx hb hts ki_M hown hK hP h_7065 rfl 9 (by decide) (hts _ wi_723) (fun _ h9 => h9) rfl de_M_step_299 ?_
                                            refine lv_iload hx hb de_M_step_302 (lv_at hl 6 rfl) ?_
                                            refine dk_iald (a := D.nf) hx hb hK hP h_7066 k rfl (by omega) (by omega) de_M_step_304 ?_
                                            refine dk_iast (a := D.nf) (x := (nI (ν.nf k))) hx hb hK hP hS h_7066 m9 rfl (by omega) (by omega) de_M_step_305 (fun H locs w_7079 hw_7080 hP hS => ?_)
                                            rw [up_nI] at hw_7080
                                            have h_7081 : w_7079 D.nf = some (102, dk_ci G 700 (fun i9 => nI ((va_up ν.nf m9 (ν.nf k)) i9))) := dk_here hw_7080
                                            have h_7082 : w_7079 h = some (100, .inr (cx_M, [.int (nI ν.er), .int (nI ν.n), .int (nI ν.sq), .int (nI ν.sf), .int (nI ν.rs), .int (rI ν.ba), .int (nI ν.pr), .int (nI ν.mi), .ref D.kf, .ref D.nf, .ref D.rf, .ref D.lf, .ref D.sv, .ref D.bk, .ref D.od, .ref D.vf, .ref D.bv, .ref D.df, .ref D.ss, .ref D.bd, .ref D.ks, .ref D.bt])) := dk_keep hw_7080 h_7066 h_7065 (by decide)
                                            have h_7083 : w_7079 D.kf = some (101, dk_ci G 700 (fun i9 => nI ((va_up ν.kf m9 (ν.kf k)) i9))) := dk_keep hw_7080 h_7066 h_7064 (by decide)
                                            have h_7084 : w_7079 D.rf = some (103, dk_ci G 700 (fun i9 => rI (ν.rf i9))) := dk_keep hw_7080 h_7066 h_7067 (by decide)
                                            have h_7085 : w_7079 D.lf = some (104, dk_ci G 5000 (fun i9 => rI (ν.lf i9))) := dk_keep hw_7080 h_7066 h_7068 (by decide)
                                            have h_7086 : w_7079 D.sv = some (105, dk_ci G 6 (fun i9 => nI (ν.sv i9))) := dk_keep hw_7080 h_7066 h_7069 (by decide)
                                            have h_7087 : w_7079 D.bk = some (106, dk_ci G 16 (fun i9 => nI (ν.bk i9))) := dk_keep hw_7080 h_7066 h_7070 (by decide)
                                            have h_7088 : w_7079 D.od = some (107, dk_ci G 700 (fun i9 => nI (ν.od i9))) := dk_keep hw_7080 h_7066 h_7071 (by decide)
                                            have h_7089 : w_7079 D.vf = some (108, dk_cl G 700 (fun i9 => ν.vf i9)) := dk_keep hw_7080 h_7066 h_7072 (by decide)
                                            have h_7090 : w_7079 D.bv = some (109, dk_cl G 16 (fun i9 => ν.bv i9)) := dk_keep hw_7080 h_7066 h_7073 (by decide)
                                            have h_7091 : w_7079 D.df = some (110, dk_cz G 700 (fun i9 => bo_i (ν.df i9))) := dk_keep hw_7080 h_7066 h_7074 (by decide)
                                            have h_7092 : w_7079 D.ss = some (111, dk_cz G 6 (fun i9 => bo_i (ν.ss i9))) := dk_keep hw_7080 h_7066 h_7075 (by decide)
                                            have h_7093 : w_7079 D.bd = some (112, dk_cz G 16 (fun i9 => bo_i (ν.bd i9))) := dk_keep hw_7080 h_7066 h_7076 (by decide)
                                            have h_7094 : w_7079 D.ks = some (113, dk_cz G 700 (fun i9 => bo_i (ν.ks i9))) := dk_keep hw_7080 h_7066 h_7077 (by decide)
                                            have h_7095 : w_7079 D.bt = some (114, dk_cz G 6000 (fun i9 => bo_i (ν.bt i9))) := dk_keep hw_7080 h_7066 h_7078 (by decide)
                                            refine lv_aload_n hx hb de_M_step_306 rfl (lv_at hl 2 rfl) ?_
                                            refine dk_get (a := h) (v := .ref D.vf) (C := kn_M) (T := kt_M) (N := 22) hx hb hts ki_M hown hK hP h_7082 rfl 15 (by decide) (hts _ wi_729) (fun _ h9 => h9) rfl de_M_step_307 ?_
                                            refine lv_iload hx hb de_M_step_310 (lv_at hl 5 rfl) ?_
                                            refine lv_aload_n hx hb de_M_step_312 rfl (lv_at hl 2 rfl) ?_
                                            refine dk_get (a := h) (v := .ref D.vf) (C := kn_M) (T := kt_M) (N := 22) hx hb hts ki_M hown hK hP h_7082 rfl 15 (by decide) (hts _ wi_729) (fun _ h9 => h9) rfl de_M_step_313 ?_
                                            refine lv_iload hx hb de_M_step_316 (lv_at hl 6 rfl) ?_
                                            refine dk_lald (a := D.vf) hx hb hK hP h_7089 k rfl (by omega) (by omega) de_M_step_318 ?_
                                            refine dk_last (a := D.vf) (x := (ν.vf k)) hx hb hK hP hS h_7089 m9 rfl (by omega) (by omega) de_M_step_319 (fun H locs w_7096 hw_7097 hP hS => ?_)
                                            rw [up_L] at hw_7097
                                            have h_7098 : w_7096 D.vf = some (108, dk_cl G 700 (fun i9 => (va_up ν.vf m9 (ν.vf k)) i9)) := dk_here hw_7097
                                            have h_7099 : w_7096 h = some (100, .inr (cx_M, [.int (nI ν.er), .int (nI ν.n), .int (nI ν.sq), .int (nI ν.sf), .int (nI ν.rs), .int (rI ν.ba), .int (nI ν.pr), .int (nI ν.mi), .ref D.kf, .ref D.nf, .ref D.rf, .ref D.lf, .ref D.sv, .ref D.bk, .ref D.od, .ref D.vf, .ref D.bv, .ref D.df, .ref D.ss, .ref D.bd, .ref D.ks, .ref D.bt])) := dk_keep hw_7097 h_7089 h_7082 (by decide)
                                            have h_7100 : w_7096 D.kf = some (101, dk_ci G 700 (fun i9 => nI ((va_up ν.kf m9 (ν.kf k)) i9))) := dk_keep hw_7097 h_7089 h_7083 (by decide)
                                            have h_7101 : w_7096 D.nf = some (102, dk_ci G 700 (fun i9 => nI ((va_up ν.nf m9 (ν.nf k)) i9))) := dk_keep hw_7097 h_7089 h_7081 (by decide)
                                            have h_7102 : w_7096 D.rf = some (103, dk_ci G 700 (fun i9 => rI (ν.rf i9))) := dk_keep hw_7097 h_7089 h_7084 (by decide)
                                            have h_7103 : w_7096 D.lf = some (104, dk_ci G 5000 (fun i9 => rI (ν.lf i9))) := dk_keep hw_7097 h_7089 h_7085 (by decide)
                                            have h_7104 : w_7096 D.sv = some (105, dk_ci G 6 (fun i9 => nI (ν.sv i9))) := dk_keep hw_7097 h_7089 h_7086 (by decide)
                                            have h_7105 : w_7096 D.bk = some (106, dk_ci G 16 (fun i9 => nI (ν.bk i9))) := dk_keep hw_7097 h_7089 h_7087 (by decide)
                                            have h_7106 : w_7096 D.od = some (107, dk_ci G 700 (fun i9 => nI (ν.od i9))) := dk_keep hw_7097 h_7089 h_7088 (by decide)
                                            have h_7107 : w_7096 D.bv = some (109, dk_cl G 16 (fun i9 => ν.bv i9)) := dk_keep hw_7097 h_7089 h_7090 (by decide)
                                            have h_7108 : w_7096 D.df = some (110, dk_cz G 700 (fun i9 => bo_i (ν.df i9))) := dk_keep hw_7097 h_7089 h_7091 (by decide)
                                            have h_7109 : w_7096 D.ss = some (111, dk_cz G 6 (fun i9 => bo_i (ν.ss i9))) := dk_keep hw_7097 h_7089 h_7092 (by decide)
                                            have h_7110 : w_7096 D.bd = some (112, dk_cz G 16 (fun i9 => bo_i (ν.bd i9))) := dk_keep hw_7097 h_7089 h_7093 (by decide)
                                            have h_7111 : w_7096 D.ks = some (113, dk_cz G 700 (fun i9 => bo_i (ν.ks i9))) := dk_keep hw_7097 h_7089 h_7094 (by decide)
                                            have h_7112 : w_7096 D.bt = some (114, dk_cz G 6000 (fun i9 => bo_i (ν.bt i9))) := dk_keep hw_7097 h_7089 h_7095 (by decide)
                                            refine lv_aload_n hx hb de_M_step_320 rfl (lv_at hl 2 rfl) ?_
                                            refine dk_get (a := h) (v := .ref D.df) (C := kn_M) (T := kt_M) (N := 22) hx hb hts ki_M hown hK hP h_7099 rfl 17 (by decide) (hts _ wi_731) (fun _ h9 => h9) rfl de_M_step_321 ?_
                                            refine lv_iload hx hb de_M_step_324 (lv_at hl 5 rfl) ?_
                                            refine lv_aload_n hx hb de_M_step_326 rfl (lv_at hl 2 rfl) ?_
                                            refine dk_get (a := h) (v := .ref D.df) (C := kn_M) (T := kt_M) (N := 22) hx hb hts ki_M hown hK hP h_7099 rfl 17 (by decide) (hts _ wi_731) (fun _ h9 => h9) rfl de_M_step_327 ?_
                                            refine lv_iload hx hb de_M_step_330 (lv_at hl 6 rfl) ?_
                                            refine dk_zald (a := D.df) hx hb hK hP h_7108 k rfl (by omega) (by omega) de_M_step_332 ?_
                                            refine dk_zast (a := D.df) (x := (bo_i (ν.df k))) hx hb hK hP hS h_7108 m9 rfl (by omega) (by omega) (bo_vn (ν.df k)) de_M_step_333 (fun H locs w_7113 hw_7114 hP hS => ?_)
                                            rw [up_bo] at hw_7114
                                            have h_7115 : w_7113 D.df = some (110, dk_cz G 700 (fun i9 => bo_i ((va_up ν.df m9 (ν.df k)) i9))) := dk_here hw_7114
                                            have h_7116 : w_7113 h = some (100, .inr (cx_M, [.int (nI ν.er), .int (nI ν.n), .int (nI ν.sq), .int (nI ν.sf), .int (nI ν.rs), .int (rI ν.ba), .int (nI ν.pr), .int (nI ν.mi), .ref D.kf, .ref D.nf, .ref D.rf, .ref D.lf, .ref D.sv, .ref D.bk, .ref D.od, .ref D.vf, .ref D.bv, .ref D.df, .ref D.ss, .ref D.bd, .ref D.ks, .ref D.bt])) := dk_keep hw_7114 h_7108 h_7099 (by decide)
                                            have h_7117 : w_7113 D.kf = some (101, dk_ci G 700 (fun i9 => nI ((va_up ν.kf m9 (ν.kf k)) i9))) := dk_keep hw_7114 h_7108 h_7100 (by decide)
                                            have h_7118 : w_7113 D.nf = some (102, dk_ci G 700 (fun i9 => nI ((va_up ν.nf m9 (ν.nf k)) i9))) := dk_keep hw_7114 h_7108 h_7101 (by decide)
                                            have h_7119 : w_7113 D.rf = some (103, dk_ci G 700 (fun i9 => rI (ν.rf i9))) := dk_keep hw_7114 h_7108 h_7102 (by decide)
                                            have h_7120 : w_7113 D.lf = some (104, dk_ci G 5000 (fun i9 => rI (ν.lf i9))) := dk_keep hw_7114 h_7108 h_7103 (by decide)
                                            have h_7121 : w_7113 D.sv = some (105, dk_ci G 6 (fun i9 => nI (ν.sv i9))) := dk_keep hw_7114 h_7108 h_7104 (by decide)
                                            have h_7122 : w_7113 D.bk = some (106, dk_ci G 16 (fun i9 => nI (ν.bk i9))) := dk_keep hw_7114 h_7108 h_7105 (by decide)
                                            have h_7123 : w_7113 D.od = some (107, dk_ci G 700 (fun i9 => nI (ν.od i9))) := dk_keep hw_7114 h_7108 h_7106 (by decide)
                                            have h_7124 : w_7113 D.vf = some (108, dk_cl G 700 (fun i9 => (va_up ν.vf m9 (ν.vf k)) i9)) := dk_keep hw_7114 h_7108 h_7098 (by decide)
                                            have h_7125 : w_7113 D.bv = some (109, dk_cl G 16 (fun i9 => ν.bv i9)) := dk_keep hw_7114 h_7108 h_7107 (by decide)
                                            have h_7126 : w_7113 D.ss = some (111, dk_cz G 6 (fun i9 => bo_i (ν.ss i9))) := dk_keep hw_7114 h_7108 h_7109 (by decide)
                                            have h_7127 : w_7113 D.bd = some (112, dk_cz G 16 (fun i9 => bo_i (ν.bd i9))) := dk_keep hw_7114 h_7108 h_7110 (by decide)
                                            have h_7128 : w_7113 D.ks = some (113, dk_cz G 700 (fun i9 => bo_i (ν.ks i9))) := dk_keep hw_7114 h_7108 h_7111 (by decide)
                                            have h_7129 : w_7113 D.bt = some (114, dk_cz G 6000 (fun i9 => bo_i (ν.bt i9))) := dk_keep hw_7114 h_7108 h_7112 (by decide)
                                            refine lv_aload_n hx hb de_M_step_334 rfl (lv_at hl 2 rfl) ?_
                                            refine dk_get (a := h) (v := .ref D.rf) (C := kn_M) (T := kt_M) (N := 22) hx hb hts ki_M hown hK hP h_7116 rfl 10 (by decide) (hts _ wi_724) (fun _ h9 => h9) rfl de_M_step_335 ?_
                                            refine lv_iload hx hb de_M_step_338 (lv_at hl 5 rfl) ?_
                                            refine lv_iinc (v := nI (m9 + 1)) (lv' := [(4, .int (nI (m9 + 1))), (5, .int (nI (y9 + 1))), (7, .int (nI 1)), (0, .ref h), (1, .int (nI i)), (3, .int (nI μ.rs)), (6, .int (nI k))]) hx hb de_M_step_340 hl (k := 5) rfl (nx_inc m9) (by decide) rfl (fun ls hl => ?_)
                                            refine lv_iload hx hb de_M_step_343 (lv_at hl 2 rfl) ?_
                                            refine nx_if_eq (a := 1) (tgt := 352) hx hb (by omega) de_M_step_345 (by decide) (fun c_7130 => ?_) (fun c_7130 => ?_)
                                            · exact absurd c_7130 (by omega)
                                            · refine lv_iload_n hx hb de_M_step_348 rfl (lv_at hl 5 rfl) ?_
                                              refine lv_goto (tgt := 359) hx hb de_M_step_349 (by decide) ?_
                                              refine dk_iast (a := D.rf) (x := (rI (some μ.rs))) hx hb hK hP hS h_7119 m9 rfl (by omega) (by omega) de_M_step_359 (fun H locs w_7131 hw_7132 hP hS => ?_)
                                              rw [up_rI] at hw_7132
                                              have h_7133 : w_7131 D.rf = some (103, dk_ci G 700 (fun i9 => rI ((va_up ν.rf m9 (some μ.rs)) i9))) := dk_here hw_7132
                                              have h_7134 : w_7131 h = some (100, .inr (cx_M, [.int (nI ν.er), .int (nI ν.n), .int (nI ν.sq), .int (nI ν.sf), .int (nI ν.rs), .int (rI ν.ba), .int (nI ν.pr), .int (nI ν.mi), .ref D.kf, .ref D.nf, .ref D.rf, .ref D.lf, .ref D.sv, .ref D.bk, .ref D.od, .ref D.vf, .ref D.bv, .ref D.df, .ref D.ss, .ref D.bd, .ref D.ks, .ref D.bt])) := dk_keep hw_7132 h_7119 h_7116 (by decide)
                                              have h_7135 : w_7131 D.kf = some (101, dk_ci G 700 (fun i9 => nI ((va_up ν.kf m9 (ν.kf k)) i9))) := dk_keep hw_7132 h_7119 h_7117 (by decide)
                                              have h_7136 : w_7131 D.nf = some (102, dk_ci G 700 (fun i9 => nI ((va_up ν.nf m9 (ν.nf k)) i9))) := dk_keep hw_7132 h_7119 h_7118 (by decide)
                                              have h_7137 : w_7131 D.lf = some (104, dk_ci G 5000 (fun i9 => rI (ν.lf i9))) := dk_keep hw_7132 h_7119 h_7120 (by decide)
                                              have h_7138 : w_7131 D.sv = some (105, dk_ci G 6 (fun i9 => nI (ν.sv i9))) := dk_keep hw_7132 h_7119 h_7121 (by decide)
                                              have h_7139 : w_7131 D.bk = some (106, dk_ci G 16 (fun i9 => nI (ν.bk i9))) := dk_keep hw_7132 h_7119 h_7122 (by decide)
                                              have h_7140 : w_7131 D.od = some (107, dk_ci G 700 (fun i9 => nI (ν.od i9))) := dk_keep hw_7132 h_7119 h_7123 (by decide)
                                              have h_7141 : w_7131 D.vf = some (108, dk_cl G 700 (fun i9 => (va_up ν.vf m9 (ν.vf k)) i9)) := dk_keep hw_7132 h_7119 h_7124 (by decide)
                                              have h_7142 : w_7131 D.bv = some (109, dk_cl G 16 (fun i9 => ν.bv i9)) := dk_keep hw_7132 h_7119 h_7125 (by decide)
                                              have h_7143 : w_7131 D.df = some (110, dk_cz G 700 (fun i9 => bo_i ((va_up ν.df m9 (ν.df k)) i9))) := dk_keep hw_7132 h_7119 h_7115 (by decide)
                                              have h_7144 : w_7131 D.ss = some (111, dk_cz G 6 (fun i9 => bo_i (ν.ss i9))) := dk_keep hw_7132 h_7119 h_7126 (by decide)
                                              have h_7145 : w_7131 D.bd = some (112, dk_cz G 16 (fun i9 => bo_i (ν.bd i9))) := dk_keep hw_7132 h_7119 h_7127 (by decide)
                                              have h_7146 : w_7131 D.ks = some (113, dk_cz G 700 (fun i9 => bo_i (ν.ks i9))) := dk_keep hw_7132 h_7119 h_7128 (by decide)
                                              have h_7147 : w_7131 D.bt = some (114, dk_cz G 6000 (fun i9 => bo_i (ν.bt i9))) := dk_keep hw_7132 h_7119 h_7129 (by decide)
                                              refine lv_iinc (v := nI (k + 1)) (lv' := [(6, .int (nI (k + 1))), (4, .int (nI (m9 + 1))), (5, .int (nI (y9 + 1))), (7, .int (nI 1)), (0, .ref h), (1, .int (nI i)), (3, .int (nI μ.rs))]) hx hb de_M_step_360 hl (k := 6) rfl (nx_inc k) (by decide) rfl (fun ls hl => ?_)
                                              refine lv_goto (tgt := 210) hx hb de_M_step_363 (by decide) ?_
                                              have hm_7148 : md_at G w_7131 h D (((((ν.kf' (va_up ν.kf m9 (ν.kf k))).nf' (va_up ν.nf m9 (ν.nf k))).vf' (va_up ν.vf m9 (ν.vf k))).df' (va_up ν.df m9 (ν.df k))).rf' (va_up ν.rf m9 (some μ.rs))) := ⟨h_7134, h_7135, h_7136, h_7133, h_7137, h_7138, h_7139, h_7140, h_7141, h_7142, h_7143, h_7144, h_7145, h_7146, h_7147⟩
                                              exact ih8 (k + 1) (md_cq ν m9 k (some μ.rs)) (m9 + 1) (y9 + 1) (by omega) (by omega) (by rw [sc_m hsc e3 e2]) (⟨by omega, by omega, q3, q4⟩) (cq_ok hok m9 k (fun r hr => by cases hr; omega)) _ _ _ hm_7148 (hg8.tr ((((((dk_fr.rf).tr ((dk_fr.up (T := md_T) hmv8.kf (by unfold md_T; omega)).eq hw_7063)).tr ((dk_fr.up (T := md_T) h_7066 (by unfold md_T; omega)).eq hw_7080)).tr ((dk_fr.up (T := md_T) h_7089 (by unfold md_T; omega)).eq hw_7097)).tr ((dk_fr.up (T := md_T) h_7108 (by unfold md_T; omega)).eq hw_7114)).tr ((dk_fr.up (T := md_T) h_7119 (by unfold md_T; omega)).eq hw_7132))) hP hS _ (lv_sub hl [4, 5, 6, 1, 2, 0] rfl)
                                        · have e2 := c_7060
                                          refine lv_goto (tgt := 360) hx hb de_M_step_267 (by decide) ?_
                                          refine lv_iinc (v := nI (k + 1)) (lv' := [(6, .int (nI (k + 1))), (7, .int (nI 1)), (0, .ref h), (1, .int (nI i)), (3, .int (nI μ.rs)), (4, .int (nI m9)), (5, .int (nI y9))]) hx hb de_M_step_360 hl (k := 6) rfl (nx_inc k) (by decide) rfl (fun ls hl => ?_)
                                          refine lv_goto (tgt := 210) hx hb de_M_step_363 (by decide) ?_
                                          exact ih8 (k + 1) ν m9 y9 (by omega) (by omega) (by rw [sc_d hsc e3 e2]) (⟨by omega, by omega, q3, q4⟩) hok _ _ _ hmv8 hg8 hP hS _ (lv_sub hl [2, 3, 4, 5, 6, 0] rfl)
                            exact lp8 (μ.n + 1) 0 ((μ.ks' f).rs' (μ.rs + 1)) 0 0 (by omega) (Nat.zero_le _) rfl (⟨by omega, by omega, rfl, rfl⟩) (⟨ok3, ok4⟩) _ _ _ hm_6861 (hg5.tr ((dk_fr.rf).tr ((dk_fr.up (T := md_T) hh_6829 (by unfold md_T; omega)).eq hw_6845))) hP hS _ (lv_sub hl [4, 5, 3, 2, 1, 0] rfl)
                        refine lv_iload_n hx hb de_M_step_117 rfl (lv_at hl 2 rfl) ?_
                        refine bo_if_eq (b := (lb_b μ i 6)) (tgt := 189) hx hb de_M_step_118 (by decide) (fun c_6770 => ?_) (fun c_6770 => ?_)
                        · exact lpT 1 (kf_f μ i k) (by omega) (Or.inl ⟨c_6770, fun q hq => by rw [e5]; exact kf_y hq⟩) _ _ _ hmv hg hP hS _ (lv_sub hl [0, 1] rfl)
                        · refine lv_iconst (v := nI 1) hx hb de_M_step_121 (by decide) ?_
                          refine lv_istore_n (lv' := [(3, .int (nI 1)), (0, .ref h), (1, .int (nI i)), (2, .int (bo_i (lb_b μ i 6)))]) hx hb de_M_step_122 rfl hl (by decide) rfl (fun ls hl => ?_)
                          replace hl : lv_has ls 8 [(3, .int (bo_i true)), (0, .ref h), (1, .int (nI i)), (2, .int (bo_i (lb_b μ i 6)))] := hl
                          have lp6 : ∀ (zk6 : Nat) (f : Nat → Bool) (mo : Bool), ct_f f μ.n + (if mo = true then 1 else 0) < zk6 → (tr_i μ i f) → (mo = false → tr_e μ f) → ∀ (H : Heap) (locs : List Loc) (v6 : dk_H), (md_at G v6 h D (μ.ks' f)) → (dk_fr md_T w v6) → dk_P G v6 H → dk_S G s.heap H locs → ∀ (ls : Array Slot), lv_has ls 8 [(0, .ref h), (1, .int (nI i)), (3, .int (bo_i mo))] → W p l e rm_M_step s m args below meth c H locs (0 + 0) (0 + 0) Q (F0 m 123 ls []) := by
                            intro zk6
                            induction zk6 with
                            | zero =>
                              intro f mo hk
                              exact absurd hk (by omega)
                            | succ zk6 ih6 =>
                              intro f mo hk hti hfin
                              intro H locs v6 hmv6 hg6 hP hS
                              intro ls hl
                              have hh_6771 : v6 h = some (100, .inr (cx_M, [.int (nI μ.er), .int (nI μ.n), .int (nI μ.sq), .int (nI μ.sf), .int (nI μ.rs), .int (rI μ.ba), .int (nI μ.pr), .int (nI μ.mi), .ref D.kf, .ref D.nf, .ref D.rf, .ref D.lf, .ref D.sv, .ref D.bk, .ref D.od, .ref D.vf, .ref D.bv, .ref D.df, .ref D.ss, .ref D.bd, .ref D.ks, .ref D.bt])) := hmv6.o
                              have ha_6772 : v6 D.kf = some (101, dk_ci G 700 (fun i9 => nI (μ.kf i9))) := hmv6.kf
                              have ha_6773 : v6 D.nf = some (102, dk_ci G 700 (fun i9 => nI (μ.nf i9))) := hmv6.nf
                              have ha_6774 : v6 D.rf = some (103, dk_ci G 700 (fun i9 => rI (μ.rf i9))) := hmv6.rf
                              have ha_6775 : v6 D.lf = some (104, dk_ci G 5000 (fun i9 => rI (μ.lf i9))) := hmv6.lf
                              have ha_6776 : v6 D.sv = some (105, dk_ci G 6 (fun i9 => nI (μ.sv i9))) := hmv6.sv
                              have ha_6777 : v6 D.bk = some (106, dk_ci G 16 (fun i9 => nI (μ.bk i9))) := hmv6.bk
                              have ha_6778 : v6 D.od = some (107, dk_ci G 700 (fun i9 => nI (μ.od i9))) := hmv6.od
                              have ha_6779 : v6 D.vf = some (108, dk_cl G 700 (fun i9 => μ.vf i9)) := hmv6.vf
                              have ha_6780 : v6 D.bv = some (109, dk_cl G 16 (fun i9 => μ.bv i9)) := hmv6.bv
                              have ha_6781 : v6 D.df = some (110, dk_cz G 700 (fun i9 => bo_i (μ.df i9))) := hmv6.df
                              have ha_6782 : v6 D.ss = some (111, dk_cz G 6 (fun i9 => bo_i (μ.ss i9))) := hmv6.ss
                              have ha_6783 : v6 D.bd = some (112, dk_cz G 16 (fun i9 => bo_i (μ.bd i9))) := hmv6.bd
                              have ha_6784 : v6 D.ks = some (113, dk_cz G 700 (fun i9 => bo_i (f i9))) := hmv6.ks
                              have ha_6785 : v6 D.bt = some (114, dk_cz G 6000 (fun i9 => bo_i (μ.bt i9))) := hmv6.bt
                              refine lv_iload_n hx hb de_M_step_123 rfl (lv_at hl 2 rfl) ?_
                              refine bo_if_eq (b := mo) (tgt := 189) hx hb de_M_step_124 (by decide) (fun c_6786 => ?_) (fun c_6786 => ?_)
                              · exact lpT 1 f (by omega) (Or.inr ⟨c_6770, hti, hfin c_6786⟩) _ _ _ hmv6 hg6 hP hS _ (lv_sub hl [0, 1] rfl)
                              · rw [c_6786] at hk
                                rw [if_pos rfl] at hk
                                have hk6 := hk
                                refine lv_iconst (v := nI 0) hx hb de_M_step_127 (by decide) ?_
                                refine lv_istore_n (lv' := [(3, .int (nI 0)), (0, .ref h), (1, .int (nI i))]) hx hb de_M_step_128 rfl hl (by decide) rfl (fun ls hl => ?_)
                                refine lv_iconst (v := nI 0) hx hb de_M_step_129 (by decide) ?_
                                refine lv_istore (lv' := [(4, .int (nI 0)), (3, .int (nI 0)), (0, .ref h), (1, .int (nI i))]) hx hb de_M_step_130 hl (by decide) rfl (fun ls hl => ?_)
                                replace hl : lv_has ls 8 [(4, .int (nI 0)), (3, .int (bo_i false)), (0, .ref h), (1, .int (nI i))] := hl
                                have lp7 : ∀ (zk7 : Nat) (q : Nat) (g : Nat → Bool) (m2 : Bool), μ.n - q < zk7 → (q ≤ μ.n) → (tr_i μ i g) → (m2 = true → ct_f g μ.n < ct_f f μ.n) → (m2 = false → g = f ∧ ∀ p, p < q → rm_b μ g p = false) → ∀ (H : Heap) (locs : List Loc) (v7 : dk_H), (md_at G v7 h D (μ.ks' g)) → (dk_fr md_T w v7) → dk_P G v7 H → dk_S G s.heap H locs → ∀ (ls : Array Slot), lv_has ls 8 [(0, .ref h), (1, .int (nI i)), (3, .int (bo_i m2)), (4, .int (nI q))] → W p l e rm_M_step s m args below meth c H locs (0 + 0) (0 + 0) Q (F0 m 132 ls []) := by
                                  intro zk7
                                  induction zk7 with
                                  | zero =>
                                    intro q g m2 hk
                                    exact absurd hk (by omega)
                                  | succ zk7 ih7 =>
                                    intro q g m2 hk hq9 hti2 hmt hmf
                                    intro H locs v7 hmv7 hg7 hP hS
                                    intro ls hl
                                    have hh_6787 : v7 h = some (100, .inr (cx_M, [.int (nI μ.er), .int (nI μ.n), .int (nI μ.sq), .int (nI μ.sf), .int (nI μ.rs), .int (rI μ.ba), .int (nI μ.pr), .int (nI μ.mi), .ref D.kf, .ref D.nf, .ref D.rf, .ref D.lf, .ref D.sv, .ref D.bk, .ref D.od, .ref D.vf, .ref D.bv, .ref D.df, .ref D.ss, .ref D.bd, .ref D.ks, .ref D.bt])) := hmv7.o
                                    have ha_6788 : v7 D.kf = some (101, dk_ci G 700 (fun i9 => nI (μ.kf i9))) := hmv7.kf
                                    have ha_6789 : v7 D.nf = some (102, dk_ci G 700 (fun i9 => nI (μ.nf i9))) := hmv7.nf
                                    have ha_6790 : v7 D.rf = some (103, dk_ci G 700 (fun i9 => rI (μ.rf i9))) := hmv7.rf
                                    have ha_6791 : v7 D.lf = some (104, dk_ci G 5000 (fun i9 => rI (μ.lf i9))) := hmv7.lf
                                    have ha_6792 : v7 D.sv = some (105, dk_ci G 6 (fun i9 => nI (μ.sv i9))) := hmv7.sv
                                    have ha_6793 : v7 D.bk = some (106, dk_ci G 16 (fun i9 => nI (μ.bk i9))) := hmv7.bk
                                    have ha_6794 : v7 D.od = some (107, dk_ci G 700 (fun i9 => nI (μ.od i9))) := hmv7.od
                                    have ha_6795 : v7 D.vf = some (108, dk_cl G 700 (fun i9 => μ.vf i9)) := hmv7.vf
                                    have ha_6796 : v7 D.bv = some (109, dk_cl G 16 (fun i9 => μ.bv i9)) := hmv7.bv
                                    have ha_6797 : v7 D.df = some (110, dk_cz G 700 (fun i9 => bo_i (μ.df i9))) := hmv7.df
                                    have ha_6798 : v7 D.ss = some (111, dk_cz G 6 (fun i9 => bo_i (μ.ss i9))) := hmv7.ss
                                    have ha_6799 : v7 D.bd = some (112, dk_cz G 16 (fun i9 => bo_i (μ.bd i9))) := hmv7.bd
                                    have ha_6800 : v7 D.ks = some (113, dk_cz G 700 (fun i9 => bo_i (g i9))) := hmv7.ks
                                    have ha_6801 : v7 D.bt = some (114, dk_cz G 6000 (fun i9 => bo_i (μ.bt i9))) := hmv7.bt
                                    have hmo2 : md_ok (μ.ks' g) := ⟨ok1, ok2, ok3, ok4, ok5, ok6, ok7, ok8, ok9, ok10, ok11⟩
                                    refine lv_iload hx hb de_M_step_132 (lv_at hl 3 rfl) ?_
                                    refine lv_aload_n hx hb de_M_step_134 rfl (lv_at hl 0 rfl) ?_
                                    refine dk_get (a := h) (v := .int (nI μ.n)) (C := kn_M) (T := kt_M) (N := 22) hx hb hts ki_M hown hK hP hh_6787 rfl 1 (by decide) (hts _ wi_715) (fun _ h9 => h9) rfl de_M_step_135 ?_
                                    refine nx_icmp_ge (a := q) (b := μ.n) (tgt := 186) hx hb (by omega) (by omega) de_M_step_138 (by decide) (fun c_6802 => ?_) (fun c_6802 => ?_)
                                    · have e4 : q = μ.n := by omega
                                      refine lv_goto (tgt := 123) hx hb de_M_step_186 (by decide) ?_
                                      exact ih6 g m2 (tr_ms hmt hmf hk6) hti2 (fun z => tr_fin (e4 ▸ (hmf z).2)) _ _ _ hmv7 hg7 hP hS _ (lv_sub hl [0, 1, 2] rfl)
                                    · refine lv_aload_n hx hb de_M_step_141 rfl (lv_at hl 0 rfl) ?_
                                      refine dk_get (a := h) (v := .ref D.ks) (C := kn_M) (T := kt_M) (N := 22) hx hb hts ki_M hown hK hP hh_6787 rfl 20 (by decide) (hts _ wi_734) (fun _ h9 => h9) rfl de_M_step_142 ?_
                                      refine lv_iload hx hb de_M_step_145 (lv_at hl 3 rfl) ?_
                                      refine dk_zald (a := D.ks) hx hb hK hP ha_6800 q rfl (by omega) (by omega) de_M_step_147 ?_
                                      refine bo_if_eq (b := (g q)) (tgt := 180) hx hb de_M_step_148 (by decide) (fun c_6803 => ?_) (fun c_6803 => ?_)
                                      · refine lv_iinc (v := nI (q + 1)) (lv' := [(4, .int (nI (q + 1))), (0, .ref h), (1, .int (nI i)), (3, .int (bo_i m2))]) hx hb de_M_step_180 hl (k := 3) rfl (nx_inc q) (by decide) rfl (fun ls hl => ?_)
                                        refine lv_goto (tgt := 132) hx hb de_M_step_183 (by decide) ?_
                                        exact ih7 (q + 1) g m2 (by omega) (by omega) hti2 hmt (fun y9 => ⟨(hmf y9).1, lt_s (hmf y9).2 (by rw [rm_b, c_6803]; rfl)⟩) _ _ _ hmv7 hg7 hP hS _ (lv_sub hl [1, 2, 3, 0] rfl)
                                      · refine lv_aload_n hx hb de_M_step_151 rfl (lv_at hl 0 rfl) ?_
                                        refine dk_get (a := h) (v := .ref D.df) (C := kn_M) (T := kt_M) (N := 22) hx hb hts ki_M hown hK hP hh_6787 rfl 17 (by decide) (hts _ wi_731) (fun _ h9 => h9) rfl de_M_step_152 ?_
                                        refine lv_iload hx hb de_M_step_155 (lv_at hl 3 rfl) ?_
                                        refine dk_zald (a := D.df) hx hb hK hP ha_6797 q rfl (by omega) (by omega) de_M_step_157 ?_
                                        refine bo_if_eq (b := (μ.df q)) (tgt := 180) hx hb de_M_step_158 (by decide) (fun c_6804 => ?_) (fun c_6804 => ?_)
                                        · refine lv_iinc (v := nI (q + 1)) (lv' := [(4, .int (nI (q + 1))), (0, .ref h), (1, .int (nI i)), (3, .int (bo_i m2))]) hx hb de_M_step_180 hl (k := 3) rfl (nx_inc q) (by decide) rfl (fun ls hl => ?_)
                                          refine lv_goto (tgt := 132) hx hb de_M_step_183 (by decide) ?_
                                          exact ih7 (q + 1) g m2 (by omega) (by omega) hti2 hmt (fun y9 => ⟨(hmf y9).1, lt_s (hmf y9).2 (by rw [rm_b, c_6804]; simp)⟩) _ _ _ hmv7 hg7 hP hS _ (lv_sub hl [1, 2, 3, 0] rfl)
                                        · refine lv_aload_n hx hb de_M_step_161 rfl (lv_at hl 0 rfl) ?_
                                          refine lv_iload hx hb de_M_step_162 (lv_at hl 3 rfl) ?_
                                          refine dk_calli (va_runV (As := [.int (nI q)]) (rest := []) ⟨hx, hb, hml, hown, hts⟩ (c_M_isLast l G v7 h D (μ.ks' g) hmv7 hmo2 q (by omega)) (cwV 1 hts (wd_gV (C := "RunKeeperModel") wi_856 wi_853 wi_855 (wd_p (q := (⟨"RunKeeperModel", "isLast", "(I)Z"⟩, 22)) (by decide +kernel) (by decide +kernel)) wi_8) rfl rfl rfl (by decide +kernel) ⟨Nat.le_of_ble_eq_true rfl, Nat.le_of_ble_eq_true rfl⟩) (dk_preV (kn_M, kt_M, 22) hE hP hS hh_6787 rfl) rfl rfl hl.1 rfl (lv_room (Nat.le_of_ble_eq_true rfl)) de_M_step_164 ⟨(by first | exact Nat.le_of_ble_eq_true rfl | (simp only [Nat.zero_add]; omega) | omega), (by first | exact Nat.le_of_ble_eq_true rfl | (simp only [Nat.zero_add]; omega) | omega)⟩) hS (fun r_6807 w_6805 H locs hq_6806 hP hS => ?_)
                                          obtain ⟨hr_6808, he_6809⟩ := hq_6806
                                          subst hr_6808
                                          rw [he_6809] at hP
                                          refine bo_if_eq (b := (al_b (fun j => !la_b (μ.ks' g) q j) μ.n)) (tgt := 180) hx hb de_M_step_167 (by decide) (fun c_6810 => ?_) (fun c_6810 => ?_)
                                          · refine lv_iinc (v := nI (q + 1)) (lv' := [(4, .int (nI (q + 1))), (0, .ref h), (1, .int (nI i)), (3, .int (bo_i m2))]) hx hb de_M_step_180 hl (k := 3) rfl (nx_inc q) (by decide) rfl (fun ls hl => ?_)
                                            refine lv_goto (tgt := 132) hx hb de_M_step_183 (by decide) ?_
                                            exact ih7 (q + 1) g m2 (by omega) (by omega) hti2 hmt (fun y9 => ⟨(hmf y9).1, lt_s (hmf y9).2 (by rw [rm_b, show al_b (fun j => !la_b (μ.ks' g) q j) μ.n = false from c_6810]; simp)⟩) _ _ _ hmv7 hg7 hP hS _ (lv_sub hl [1, 2, 3, 0] rfl)
                                          · refine lv_aload_n hx hb de_M_step_170 rfl (lv_at hl 0 rfl) ?_
                                            refine dk_get (a := h) (v := .ref D.ks) (C := kn_M) (T := kt_M) (N := 22) hx hb hts ki_M hown hK hP hh_6787 rfl 20 (by decide) (hts _ wi_734) (fun _ h9 => h9) rfl de_M_step_171 ?_
                                            refine lv_iload hx hb de_M_step_174 (lv_at hl 3 rfl) ?_
                                            refine lv_iconst (v := nI 0) hx hb de_M_step_176 (by decide) ?_
                                            refine dk_zast (a := D.ks) (x := (bo_i false)) hx hb hK hP hS ha_6800 q rfl (by omega) (by omega) (bo_vn false) de_M_step_177 (fun H locs w_6811 hw_6812 hP hS => ?_)
                                            rw [up_bo] at hw_6812
                                            have h_6813 : w_6811 D.ks = some (113, dk_cz G 700 (fun i9 => bo_i ((va_up g q false) i9))) := dk_here hw_6812
                                            have h_6814 : w_6811 h = some (100, .inr (cx_M, [.int (nI μ.er), .int (nI μ.n), .int (nI μ.sq), .int (nI μ.sf), .int (nI μ.rs), .int (rI μ.ba), .int (nI μ.pr), .int (nI μ.mi), .ref D.kf, .ref D.nf, .ref D.rf, .ref D.lf, .ref D.sv, .ref D.bk, .ref D.od, .ref D.vf, .ref D.bv, .ref D.df, .ref D.ss, .ref D.bd, .ref D.ks, .ref D.bt])) := dk_keep hw_6812 ha_6800 hh_6787 (by decide)
                                            have h_6815 : w_6811 D.kf = some (101, dk_ci G 700 (fun i9 => nI (μ.kf i9))) := dk_keep hw_6812 ha_6800 ha_6788 (by decide)
                                            have h_6816 : w_6811 D.nf = some (102, dk_ci G 700 (fun i9 => nI (μ.nf i9))) := dk_keep hw_6812 ha_6800 ha_6789 (by decide)
                                            have h_6817 : w_6811 D.rf = some (103, dk_ci G 700 (fun i9 => rI (μ.rf i9))) := dk_keep hw_6812 ha_6800 ha_6790 (by decide)
                                            have h_6818 : w_6811 D.lf = some (104, dk_ci G 5000 (fun i9 => rI (μ.lf i9))) := dk_keep hw_6812 ha_6800 ha_6791 (by decide)
                                            have h_6819 : w_6811 D.sv = some (105, dk_ci G 6 (fun i9 => nI (μ.sv i9))) := dk_keep hw_6812 ha_6800 ha_6792 (by decide)
                                            have h_6820 : w_6811 D.bk = some (106, dk_ci G 16 (fun i9 => nI (μ.bk i9))) := dk_keep hw_6812 ha_6800 ha_6793 (by decide)
                                            have h_6821 : w_6811 D.od = some (107, dk_ci G 700 (fun i9 => nI (μ.od i9))) := dk_keep hw_6812 ha_6800 ha_6794 (by decide)
                                            have h_6822 : w_6811 D.vf = some (108, dk_cl G 700 (fun i9 => μ.vf i9)) := dk_keep hw_6812 ha_6800 ha_6795 (by decide)
                                            have h_6823 : w_6811 D.bv = some (109, dk_cl G 16 (fun i9 => μ.bv i9)) := dk_keep hw_6812 ha_6800 ha_6796 (by decide)
                                            have h_6824 : w_6811 D.df = some (110, dk_cz G 700 (fun i9 => bo_i (μ.df i9))) := dk_keep hw_6812 ha_6800 ha_6797 (by decide)
                                            have h_6825 : w_6811 D.ss = some (111, dk_cz G 6 (fun i9 => bo_i (μ.ss i9))) := dk_keep hw_6812 ha_6800 ha_6798 (by decide)
                                            have h_6826 : w_6811 D.bd = some (112, dk_cz G 16 (fun i9 => bo_i (μ.bd i9))) := dk_keep hw_6812 ha_6800 ha_6799 (by decide)
                                            have h_6827 : w_6811 D.bt = some (114, dk_cz G 6000 (fun i9 => bo_i (μ.bt i9))) := dk_keep hw_6812 ha_6800 ha_6801 (by decide)
                                            have hm_6828 : md_at G w_6811 h D ((μ.ks' g).ks' (va_up g q false)) := ⟨h_6814, h_6815, h_6816, h_6817, h_6818, h_6819, h_6820, h_6821, h_6822, h_6823, h_6824, h_6825, h_6826, h_6813, h_6827⟩
                                            refine lv_iconst (v := nI 1) hx hb de_M_step_178 (by decide) ?_
                                            refine lv_istore_n (lv' := [(3, .int (nI 1)), (0, .ref h), (1, .int (nI i)), (4, .int (nI q))]) hx hb de_M_step_179 rfl hl (by decide) rfl (fun ls hl => ?_)
                                            refine lv_iinc (v := nI (q + 1)) (lv' := [(4, .int (nI (q + 1))), (3, .int (nI 1)), (0, .ref h), (1, .int (nI i))]) hx hb de_M_step_180 hl (k := 3) rfl (nx_inc q) (by decide) rfl (fun ls hl => ?_)
                                            refine lv_goto (tgt := 132) hx hb de_M_step_183 (by decide) ?_
                                            replace hl : lv_has ls 8 [(4, .int (nI (q + 1))), (3, .int (bo_i true)), (0, .ref h), (1, .int (nI i))] := hl
                                            have hct := ct_dn (n := μ.n) (k := q) c_6802 c_6803
                                            exact ih7 (q + 1) (va_up g q false) true (by omega) (by omega) (tr_rm hti2 c_6802 c_6803 c_6804 c_6810) (fun _ => tr_lt hct hmt hmf) (fun z => absurd z (by decide)) _ _ _ hm_6828 (hg7.tr ((dk_fr.rf).tr ((dk_fr.up (T := md_T) ha_6800 (by unfold md_T; omega)).eq hw_6812))) hP hS _ (lv_sub hl [2, 3, 1, 0] rfl)
                                exact lp7 (μ.n + 1) 0 f false (by omega) (Nat.zero_le _) hti (fun z => absurd z (by decide)) (fun _ => ⟨rfl, fun p9 h9 => absurd h9 (by omega)⟩) _ _ _ hmv6 hg6 hP hS _ (lv_sub hl [2, 3, 1, 0] rfl)
                          exact lp6 (ct_f (kf_f μ i k) μ.n + 2) (kf_f μ i k) true (by rw [if_pos rfl]; omega) (by rw [e5]; exact tr_0) (fun z => absurd z (by decide)) _ _ _ hmv hg hP hS _ (lv_sub hl [1, 2, 0] rfl)
                      · refine lv_aload_n hx hb de_M_step_67 rfl (lv_at hl 0 rfl) ?_
                        refine dk_get (a := h) (v := .ref D.ks) (C := kn_M) (T := kt_M) (N := 22) hx hb hts ki_M hown hK hP hh_6674 rfl 20 (by decide) (hts _ wi_734) (fun _ h9 => h9) rfl de_M_step_68 ?_
                        refine lv_iload_n hx hb de_M_step_71 rfl (lv_at hl 3 rfl) ?_
                        refine lv_aload_n hx hb de_M_step_72 rfl (lv_at hl 0 rfl) ?_
                        refine dk_get (a := h) (v := .ref D.rf) (C := kn_M) (T := kt_M) (N := 22) hx hb hts ki_M hown hK hP hh_6674 rfl 10 (by decide) (hts _ wi_724) (fun _ h9 => h9) rfl de_M_step_73 ?_
                        refine lv_iload_n hx hb de_M_step_76 rfl (lv_at hl 3 rfl) ?_
                        refine dk_iald (a := D.rf) hx hb hK hP ha_6677 k rfl (by omega) (by omega) de_M_step_77 ?_
                        refine lv_if_lt (tgt := 109) hx hb de_M_step_78 (by decide) (fun c_6690 => ?_) (fun c_6690 => ?_)
                        · refine lv_iconst (v := nI 0) hx hb de_M_step_109 (by decide) ?_
                          refine dk_zast (a := D.ks) (x := (bo_i false)) hx hb hK hP hS ha_6687 k rfl (by omega) (by omega) (bo_vn false) de_M_step_110 (fun H locs w_6691 hw_6692 hP hS => ?_)
                          rw [up_bo] at hw_6692
                          have h_6693 : w_6691 D.ks = some (113, dk_cz G 700 (fun i9 => bo_i ((va_up (kf_f μ i k) k false) i9))) := dk_here hw_6692
                          have h_6694 : w_6691 h = some (100, .inr (cx_M, [.int (nI μ.er), .int (nI μ.n), .int (nI μ.sq), .int (nI μ.sf), .int (nI μ.rs), .int (rI μ.ba), .int (nI μ.pr), .int (nI μ.mi), .ref D.kf, .ref D.nf, .ref D.rf, .ref D.lf, .ref D.sv, .ref D.bk, .ref D.od, .ref D.vf, .ref D.bv, .ref D.df, .ref D.ss, .ref D.bd, .ref D.ks, .ref D.bt])) := dk_keep hw_6692 ha_6687 hh_6674 (by decide)
                          have h_6695 : w_6691 D.kf = some (101, dk_ci G 700 (fun i9 => nI (μ.kf i9))) := dk_keep hw_6692 ha_6687 ha_6675 (by decide)
                          have h_6696 : w_6691 D.nf = some (102, dk_ci G 700 (fun i9 => nI (μ.nf i9))) := dk_keep hw_6692 ha_6687 ha_6676 (by decide)
                          have h_6697 : w_6691 D.rf = some (103, dk_ci G 700 (fun i9 => rI (μ.rf i9))) := dk_keep hw_6692 ha_6687 ha_6677 (by decide)
                          have h_6698 : w_6691 D.lf = some (104, dk_ci G 5000 (fun i9 => rI (μ.lf i9))) := dk_keep hw_6692 ha_6687 ha_6678 (by decide)
                          have h_6699 : w_6691 D.sv = some (105, dk_ci G 6 (fun i9 => nI (μ.sv i9))) := dk_keep hw_6692 ha_6687 ha_6679 (by decide)
                          have h_6700 : w_6691 D.bk = some (106, dk_ci G 16 (fun i9 => nI (μ.bk i9))) := dk_keep hw_6692 ha_6687 ha_6680 (by decide)
                          have h_6701 : w_6691 D.od = some (107, dk_ci G 700 (fun i9 => nI (μ.od i9))) := dk_keep hw_6692 ha_6687 ha_6681 (by decide)
                          have h_6702 : w_6691 D.vf = some (108, dk_cl G 700 (fun i9 => μ.vf i9)) := dk_keep hw_6692 ha_6687 ha_6682 (by decide)
                          have h_6703 : w_6691 D.bv = some (109, dk_cl G 16 (fun i9 => μ.bv i9)) := dk_keep hw_6692 ha_6687 ha_6683 (by decide)
                          have h_6704 : w_6691 D.df = some (110, dk_cz G 700 (fun i9 => bo_i (μ.df i9))) := dk_keep hw_6692 ha_6687 ha_6684 (by decide)
                          have h_6705 : w_6691 D.ss = some (111, dk_cz G 6 (fun i9 => bo_i (μ.ss i9))) := dk_keep hw_6692 ha_6687 ha_6685 (by decide)
                          have h_6706 : w_6691 D.bd = some (112, dk_cz G 16 (fun i9 => bo_i (μ.bd i9))) := dk_keep hw_6692 ha_6687 ha_6686 (by decide)
                          have h_6707 : w_6691 D.bt = some (114, dk_cz G 6000 (fun i9 => bo_i (μ.bt i9))) := dk_keep hw_6692 ha_6687 ha_6688 (by decide)
                          have hm_6708 : md_at G w_6691 h D ((μ.ks' (kf_f μ i k)).ks' (va_up (kf_f μ i k) k false)) := ⟨h_6694, h_6695, h_6696, h_6697, h_6698, h_6699, h_6700, h_6701, h_6702, h_6703, h_6704, h_6705, h_6706, h_6693, h_6707⟩
                          refine lv_iinc (v := nI (k + 1)) (lv' := [(3, .int (nI (k + 1))), (0, .ref h), (1, .int (nI i)), (2, .int (bo_i (lb_b μ i 6)))]) hx hb de_M_step_111 hl (k := 3) rfl (nx_inc k) (by decide) rfl (fun ls hl => ?_)
                          refine lv_goto (tgt := 59) hx hb de_M_step_114 (by decide) ?_
                          exact ih3 (k + 1) (by omega) (by omega) _ _ _ (by rw [kf_s (show _ = false by rw [kk_b, at_l0 (hneg.mp c_6690)]; rfl)]; exact hm_6708) (hg.tr ((dk_fr.rf).tr ((dk_fr.up (T := md_T) ha_6687 (by unfold md_T; omega)).eq hw_6692))) hP hS _ (lv_sub hl [1, 2, 3, 0] rfl)
                        · obtain ⟨r9, hr9⟩ := rI_so c_6690
                          have hr5 := ok3 k r9 hr9
                          have hleq := rI_eq (a := μ.lf r9) (b := some i) (fun r hr => by have := ok4 r9 r hr; omega) (fun r hr => by cases hr; omega)
                          refine lv_aload_n hx hb de_M_step_81 rfl (lv_at hl 0 rfl) ?_
                          refine dk_get (a := h) (v := .ref D.lf) (C := kn_M) (T := kt_M) (N := 22) hx hb hts ki_M hown hK hP hh_6674 rfl 11 (by decide) (hts _ wi_725) (fun _ h9 => h9) rfl de_M_step_82 ?_
                          refine lv_aload_n hx hb de_M_step_85 rfl (lv_at hl 0 rfl) ?_
                          refine dk_get (a := h) (v := .ref D.rf) (C := kn_M) (T := kt_M) (N := 22) hx hb hts ki_M hown hK hP hh_6674 rfl 10 (by decide) (hts _ wi_724) (fun _ h9 => h9) rfl de_M_step_86 ?_
                          refine lv_iload_n hx hb de_M_step_89 rfl (lv_at hl 3 rfl) ?_
                          refine dk_iald (a := D.rf) hx hb hK hP ha_6677 k rfl (by omega) (by omega) de_M_step_90 ?_
                          rw [hr9]
                          rw [show rI (some r9) = nI r9 from rfl]
                          refine dk_iald (a := D.lf) hx hb hK hP ha_6678 r9 rfl (by omega) (by omega) de_M_step_91 ?_
                          refine lv_iload_n hx hb de_M_step_92 rfl (lv_at hl 1 rfl) ?_
                          refine lv_icmp_ne (tgt := 109) hx hb de_M_step_93 (by decide) (fun c_6709 => ?_) (fun c_6709 => ?_)
                          · refine lv_iconst (v := nI 0) hx hb de_M_step_109 (by decide) ?_
                            refine dk_zast (a := D.ks) (x := (bo_i false)) hx hb hK hP hS ha_6687 k rfl (by omega) (by omega) (bo_vn false) de_M_step_110 (fun H locs w_6710 hw_6711 hP hS => ?_)
                            rw [up_bo] at hw_6711
                            have h_6712 : w_6710 D.ks = some (113, dk_cz G 700 (fun i9 => bo_i ((va_up (kf_f μ i k) k false) i9))) := dk_here hw_6711
                            have h_6713 : w_6710 h = some (100, .inr (cx_M, [.int (nI μ.er), .int (nI μ.n), .int (nI μ.sq), .int (nI μ.sf), .int (nI μ.rs), .int (rI μ.ba), .int (nI μ.pr), .int (nI μ.mi), .ref D.kf, .ref D.nf, .ref D.rf, .ref D.lf, .ref D.sv, .ref D.bk, .ref D.od, .ref D.vf, .ref D.bv, .ref D.df, .ref D.ss, .ref D.bd, .ref D.ks, .ref D.bt])) := dk_keep hw_6711 ha_6687 hh_6674 (by decide)
                            have h_6714 : w_6710 D.kf = some (101, dk_ci G 700 (fun i9 => nI (μ.kf i9))) := dk_keep hw_6711 ha_6687 ha_6675 (by decide)
                            have h_6715 : w_6710 D.nf = some (102, dk_ci G 700 (fun i9 => nI (μ.nf i9))) := dk_keep hw_6711 ha_6687 ha_6676 (by decide)
                            have h_6716 : w_6710 D.rf = some (103, dk_ci G 700 (fun i9 => rI (μ.rf i9))) := dk_keep hw_6711 ha_6687 ha_6677 (by decide)
                            have h_6717 : w_6710 D.lf = some (104, dk_ci G 5000 (fun i9 => rI (μ.lf i9))) := dk_keep hw_6711 ha_6687 ha_6678 (by decide)
                            have h_6718 : w_6710 D.sv = some (105, dk_ci G 6 (fun i9 => nI (μ.sv i9))) := dk_keep hw_6711 ha_6687 ha_6679 (by decide)
                            have h_6719 : w_6710 D.bk = some (106, dk_ci G 16 (fun i9 => nI (μ.bk i9))) := dk_keep hw_6711 ha_6687 ha_6680 (by decide)
                            have h_6720 : w_6710 D.od = some (107, dk_ci G 700 (fun i9 => nI (μ.od i9))) := dk_keep hw_6711 ha_6687 ha_6681 (by decide)
                            have h_6721 : w_6710 D.vf = some (108, dk_cl G 700 (fun i9 => μ.vf i9)) := dk_keep hw_6711 ha_6687 ha_6682 (by decide)
                            have h_6722 : w_6710 D.bv = some (109, dk_cl G 16 (fun i9 => μ.bv i9)) := dk_keep hw_6711 ha_6687 ha_6683 (by decide)
                            have h_6723 : w_6710 D.df = some (110, dk_cz G 700 (fun i9 => bo_i (μ.df i9))) := dk_keep hw_6711 ha_6687 ha_6684 (by decide)
                            have h_6724 : w_6710 D.ss = some (111, dk_cz G 6 (fun i9 => bo_i (μ.ss i9))) := dk_keep hw_6711 ha_6687 ha_6685 (by decide)
                            have h_6725 : w_6710 D.bd = some (112, dk_cz G 16 (fun i9 => bo_i (μ.bd i9))) := dk_keep hw_6711 ha_6687 ha_6686 (by decide)
                            have h_6726 : w_6710 D.bt = some (114, dk_cz G 6000 (fun i9 => bo_i (μ.bt i9))) := dk_keep hw_6711 ha_6687 ha_6688 (by decide)
                            have hm_6727 : md_at G w_6710 h D ((μ.ks' (kf_f μ i k)).ks' (va_up (kf_f μ i k) k false)) := ⟨h_6713, h_6714, h_6715, h_6716, h_6717, h_6718, h_6719, h_6720, h_6721, h_6722, h_6723, h_6724, h_6725, h_6712, h_6726⟩
                            refine lv_iinc (v := nI (k + 1)) (lv' := [(3, .int (nI (k + 1))), (0, .ref h), (1, .int (nI i)), (2, .int (bo_i (lb_b μ i 6)))]) hx hb de_M_step_111 hl (k := 3) rfl (nx_inc k) (by decide) rfl (fun ls hl => ?_)
                            refine lv_goto (tgt := 59) hx hb de_M_step_114 (by decide) ?_
                            exact ih3 (k + 1) (by omega) (by omega) _ _ _ (by rw [kf_s (show _ = false by rw [kk_b, at_l2 hr9 (fun z => c_6709 (hleq.mpr z))]; rfl)]; exact hm_6727) (hg.tr ((dk_fr.rf).tr ((dk_fr.up (T := md_T) ha_6687 (by unfold md_T; omega)).eq hw_6711))) hP hS _ (lv_sub hl [1, 2, 3, 0] rfl)
                          · refine lv_aload_n hx hb de_M_step_96 rfl (lv_at hl 0 rfl) ?_
                            refine lv_iload_n hx hb de_M_step_97 rfl (lv_at hl 3 rfl) ?_
                            refine lv_iload_n hx hb de_M_step_98 rfl (lv_at hl 1 rfl) ?_
                            refine dk_calli (va_runV (As := [.int (nI k), .int (nI i)]) (rest := [.int (nI k), .ref D.ks]) ⟨hx, hb, hml, hown, hts⟩ (c_M_isKept l G v h D (μ.ks' (kf_f μ i k)) hmv hmo2 k i (by omega) (by omega)) (cwV 2 hts (wd_gV (C := "RunKeeperModel") wi_847 wi_844 wi_846 (wd_p (q := (⟨"RunKeeperModel", "isKept", "(II)Z"⟩, 22)) (by decide +kernel) (by decide +kernel)) wi_8) rfl rfl rfl (by decide +kernel) ⟨Nat.le_of_ble_eq_true rfl, Nat.le_of_ble_eq_true rfl⟩) (dk_preV (kn_M, kt_M, 22) hE hP hS hh_6674 rfl) rfl rfl hl.1 rfl (lv_room (Nat.le_of_ble_eq_true rfl)) de_M_step_99 ⟨(by first | exact Nat.le_of_ble_eq_true rfl | (simp only [Nat.zero_add]; omega) | omega), (by first | exact Nat.le_of_ble_eq_true rfl | (simp only [Nat.zero_add]; omega) | omega)⟩) hS (fun r_6730 w_6728 H locs hq_6729 hP hS => ?_)
                            obtain ⟨hr_6731, he_6732⟩ := hq_6729
                            subst hr_6731
                            rw [he_6732] at hP
                            refine bo_if_eq (b := (ik_b μ k i)) (tgt := 109) hx hb de_M_step_102 (by decide) (fun c_6733 => ?_) (fun c_6733 => ?_)
                            · refine lv_iconst (v := nI 0) hx hb de_M_step_109 (by decide) ?_
                              refine dk_zast (a := D.ks) (x := (bo_i false)) hx hb hK hP hS ha_6687 k rfl (by omega) (by omega) (bo_vn false) de_M_step_110 (fun H locs w_6734 hw_6735 hP hS => ?_)
                              rw [up_bo] at hw_6735
                              have h_6736 : w_6734 D.ks = some (113, dk_cz G 700 (fun i9 => bo_i ((va_up (kf_f μ i k) k false) i9))) := dk_here hw_6735
                              have h_6737 : w_6734 h = some (100, .inr (cx_M, [.int (nI μ.er), .int (nI μ.n), .int (nI μ.sq), .int (nI μ.sf), .int (nI μ.rs), .int (rI μ.ba), .int (nI μ.pr), .int (nI μ.mi), .ref D.kf, .ref D.nf, .ref D.rf, .ref D.lf, .ref D.sv, .ref D.bk, .ref D.od, .ref D.vf, .ref D.bv, .ref D.df, .ref D.ss, .ref D.bd, .ref D.ks, .ref D.bt])) := dk_keep hw_6735 ha_6687 hh_6674 (by decide)
                              have h_6738 : w_6734 D.kf = some (101, dk_ci G 700 (fun i9 => nI (μ.kf i9))) := dk_keep hw_6735 ha_6687 ha_6675 (by decide)
                              have h_6739 : w_6734 D.nf = some (102, dk_ci G 700 (fun i9 => nI (μ.nf i9))) := dk_keep hw_6735 ha_6687 ha_6676 (by decide)
                              have h_6740 : w_6734 D.rf = some (103, dk_ci G 700 (fun i9 => rI (μ.rf i9))) := dk_keep hw_6735 ha_6687 ha_6677 (by decide)
                              have h_6741 : w_6734 D.lf = some (104, dk_ci G 5000 (fun i9 => rI (μ.lf i9))) := dk_keep hw_6735 ha_6687 ha_6678 (by decide)
                              have h_6742 : w_6734 D.sv = some (105, dk_ci G 6 (fun i9 => nI (μ.sv i9))) := dk_keep hw_6735 ha_6687 ha_6679 (by decide)
                              have h_6743 : w_6734 D.bk = some (106, dk_ci G 16 (fun i9 => nI (μ.bk i9))) := dk_keep hw_6735 ha_6687 ha_6680 (by decide)
                              have h_6744 : w_6734 D.od = some (107, dk_ci G 700 (fun i9 => nI (μ.od i9))) := dk_keep hw_6735 ha_6687 ha_6681 (by decide)
                              have h_6745 : w_6734 D.vf = some (108, dk_cl G 700 (fun i9 => μ.vf i9)) := dk_keep hw_6735 ha_6687 ha_6682 (by decide)
                              have h_6746 : w_6734 D.bv = some (109, dk_cl G 16 (fun i9 => μ.bv i9)) := dk_keep hw_6735 ha_6687 ha_6683 (by decide)
                              have h_6747 : w_6734 D.df = some (110, dk_cz G 700 (fun i9 => bo_i (μ.df i9))) := dk_keep hw_6735 ha_6687 ha_6684 (by decide)
                              have h_6748 : w_6734 D.ss = some (111, dk_cz G 6 (fun i9 => bo_i (μ.ss i9))) := dk_keep hw_6735 ha_6687 ha_6685 (by decide)
                              have h_6749 : w_6734 D.bd = some (112, dk_cz G 16 (fun i9 => bo_i (μ.bd i9))) := dk_keep hw_6735 ha_6687 ha_6686 (by decide)
                              have h_6750 : w_6734 D.bt = some (114, dk_cz G 6000 (fun i9 => bo_i (μ.bt i9))) := dk_keep hw_6735 ha_6687 ha_6688 (by decide)
                              have hm_6751 : md_at G w_6734 h D ((μ.ks' (kf_f μ i k)).ks' (va_up (kf_f μ i k) k false)) := ⟨h_6737, h_6738, h_6739, h_6740, h_6741, h_6742, h_6743, h_6744, h_6745, h_6746, h_6747, h_6748, h_6749, h_6736, h_6750⟩
                              refine lv_iinc (v := nI (k + 1)) (lv' := [(3, .int (nI (k + 1))), (0, .ref h), (1, .int (nI i)), (2, .int (bo_i (lb_b μ i 6)))]) hx hb de_M_step_111 hl (k := 3) rfl (nx_inc k) (by decide) rfl (fun ls hl => ?_)
                              refine lv_goto (tgt := 59) hx hb de_M_step_114 (by decide) ?_
                              exact ih3 (k + 1) (by omega) (by omega) _ _ _ (by rw [kf_s (show _ = false by rw [kk_b, show ik_b μ k i = false from c_6733]; simp)]; exact hm_6751) (hg.tr ((dk_fr.rf).tr ((dk_fr.up (T := md_T) ha_6687 (by unfold md_T; omega)).eq hw_6735))) hP hS _ (lv_sub hl [1, 2, 3, 0] rfl)
                            · refine lv_iconst (v := nI 1) hx hb de_M_step_105 (by decide) ?_
                              refine lv_goto (tgt := 110) hx hb de_M_step_106 (by decide) ?_
                              refine dk_zast (a := D.ks) (x := (bo_i true)) hx hb hK hP hS ha_6687 k rfl (by omega) (by omega) (bo_vn true) de_M_step_110 (fun H locs w_6752 hw_6753 hP hS => ?_)
                              rw [up_bo] at hw_6753
                              have h_6754 : w_6752 D.ks = some (113, dk_cz G 700 (fun i9 => bo_i ((va_up (kf_f μ i k) k true) i9))) := dk_here hw_6753
                              have h_6755 : w_6752 h = some (100, .inr (cx_M, [.int (nI μ.er), .int (nI μ.n), .int (nI μ.sq), .int (nI μ.sf), .int (nI μ.rs), .int (rI μ.ba), .int (nI μ.pr), .int (nI μ.mi), .ref D.kf, .ref D.nf, .ref D.rf, .ref D.lf, .ref D.sv, .ref D.bk, .ref D.od, .ref D.vf, .ref D.bv, .ref D.df, .ref D.ss, .ref D.bd, .ref D.ks, .ref D.bt])) := dk_keep hw_6753 ha_6687 hh_6674 (by decide)
                              have h_6756 : w_6752 D.kf = some (101, dk_ci G 700 (fun i9 => nI (μ.kf i9))) := dk_keep hw_6753 ha_6687 ha_6675 (by decide)
                              have h_6757 : w_6752 D.nf = some (102, dk_ci G 700 (fun i9 => nI (μ.nf i9))) := dk_keep hw_6753 ha_6687 ha_6676 (by decide)
                              have h_6758 : w_6752 D.rf = some (103, dk_ci G 700 (fun i9 => rI (μ.rf i9))) := dk_keep hw_6753 ha_6687 ha_6677 (by decide)
                              have h_6759 : w_6752 D.lf = some (104, dk_ci G 5000 (fun i9 => rI (μ.lf i9))) := dk_keep hw_6753 ha_6687 ha_6678 (by decide)
                              have h_6760 : w_6752 D.sv = some (105, dk_ci G 6 (fun i9 => nI (μ.sv i9))) := dk_keep hw_6753 ha_6687 ha_6679 (by decide)
                              have h_6761 : w_6752 D.bk = some (106, dk_ci G 16 (fun i9 => nI (μ.bk i9))) := dk_keep hw_6753 ha_6687 ha_6680 (by decide)
                              have h_6762 : w_6752 D.od = some (107, dk_ci G 700 (fun i9 => nI (μ.od i9))) := dk_keep hw_6753 ha_6687 ha_6681 (by decide)
                              have h_6763 : w_6752 D.vf = some (108, dk_cl G 700 (fun i9 => μ.vf i9)) := dk_keep hw_6753 ha_6687 ha_6682 (by decide)
                              have h_6764 : w_6752 D.bv = some (109, dk_cl G 16 (fun i9 => μ.bv i9)) := dk_keep hw_6753 ha_6687 ha_6683 (by decide)
                              have h_6765 : w_6752 D.df = some (110, dk_cz G 700 (fun i9 => bo_i (μ.df i9))) := dk_keep hw_6753 ha_6687 ha_6684 (by decide)
                              have h_6766 : w_6752 D.ss = some (111, dk_cz G 6 (fun i9 => bo_i (μ.ss i9))) := dk_keep hw_6753 ha_6687 ha_6685 (by decide)
                              have h_6767 : w_6752 D.bd = some (112, dk_cz G 16 (fun i9 => bo_i (μ.bd i9))) := dk_keep hw_6753 ha_6687 ha_6686 (by decide)
                              have h_6768 : w_6752 D.bt = some (114, dk_cz G 6000 (fun i9 => bo_i (μ.bt i9))) := dk_keep hw_6753 ha_6687 ha_6688 (by decide)
                              have hm_6769 : md_at G w_6752 h D ((μ.ks' (kf_f μ i k)).ks' (va_up (kf_f μ i k) k true)) := ⟨h_6755, h_6756, h_6757, h_6758, h_6759, h_6760, h_6761, h_6762, h_6763, h_6764, h_6765, h_6766, h_6767, h_6754, h_6768⟩
                              refine lv_iinc (v := nI (k + 1)) (lv' := [(3, .int (nI (k + 1))), (0, .ref h), (1, .int (nI i)), (2, .int (bo_i (lb_b μ i 6)))]) hx hb de_M_step_111 hl (k := 3) rfl (nx_inc k) (by decide) rfl (fun ls hl => ?_)
                              refine lv_goto (tgt := 59) hx hb de_M_step_114 (by decide) ?_
                              exact ih3 (k + 1) (by omega) (by omega) _ _ _ (by rw [kf_s (show _ = true by rw [kk_b, show ik_b μ k i = true from c_6733, at_l1 hr9 (hleq.mp c_6709)]; rfl)]; exact hm_6769) (hg.tr ((dk_fr.rf).tr ((dk_fr.up (T := md_T) ha_6687 (by unfold md_T; omega)).eq hw_6753))) hP hS _ (lv_sub hl [1, 2, 3, 0] rfl)
                  exact lp3 (μ.n + 1) 0 (by omega) (Nat.zero_le _) _ _ _ (by rw [kf_0]; exact hm) dk_fr.rf hP hS _ (lv_sub hl [1, 2, 3, 0] rfl)
                · refine lv_aload_n hx hb de_M_step_41 rfl (lv_at hl 0 rfl) ?_
                  refine lv_iload_n hx hb de_M_step_42 rfl (lv_at hl 3 rfl) ?_
                  refine dk_calli (va_runV (As := [.int (nI j)]) (rest := []) ⟨hx, hb, hml, hown, hts⟩ (c_M_runsOf l G w h D μ hm hmo (some j) (fun r hr => by cases hr; omega)) (cwV 1 hts (wd_gV (C := "RunKeeperModel") wi_843 wi_840 wi_842 (wd_p (q := (⟨"RunKeeperModel", "runsOf", "(I)I"⟩, 22)) (by decide +kernel) (by decide +kernel)) wi_8) rfl rfl rfl (by decide +kernel) ⟨Nat.le_of_ble_eq_true rfl, Nat.le_of_ble_eq_true rfl⟩) (dk_preV (kn_M, kt_M, 22) hE hP hS hh_6658 rfl) rfl rfl hl.1 rfl (lv_room (Nat.le_of_ble_eq_true rfl)) de_M_step_43 ⟨(by first | exact Nat.le_of_ble_eq_true rfl | (simp only [Nat.zero_add]; omega) | omega), (by first | exact Nat.le_of_ble_eq_true rfl | (simp only [Nat.zero_add]; omega) | omega)⟩) hS (fun r_6670 w_6668 H locs hq_6669 hP hS => ?_)
                  obtain ⟨hr_6671, he_6672⟩ := hq_6669
                  subst hr_6671
                  rw [he_6672] at hP
                  have hrl := ro_le μ j
                  refine nx_if_le (a := ro_c μ j) (tgt := 51) hx hb (by omega) de_M_step_46 (by decide) (fun c_6673 => ?_) (fun c_6673 => ?_)
                  · refine lv_iinc (v := nI (j + 1)) (lv' := [(3, .int (nI (j + 1))), (0, .ref h), (1, .int (nI i)), (2, .int (bo_i (lb_b μ i j)))]) hx hb de_M_step_51 hl (k := 3) rfl (nx_inc j) (by decide) rfl (fun ls hl => ?_)
                    refine lv_goto (tgt := 35) hx hb de_M_step_54 (by decide) ?_
                    replace hl : lv_has ls 8 [(3, .int (nI (j + 1))), (0, .ref h), (1, .int (nI i)), (2, .int (bo_i (lb_b μ i (j + 1))))] := by rw [lb_y c_6673]; exact hl
                    exact ih2 (j + 1) (by omega) (by omega) _ _ hP hS _ (lv_sub hl [1, 2, 3, 0] rfl)
                  · refine lv_iconst (v := nI 0) hx hb de_M_step_49 (by decide) ?_
                    refine lv_istore_n (lv' := [(2, .int (nI 0)), (0, .ref h), (1, .int (nI i)), (3, .int (nI j))]) hx hb de_M_step_50 rfl hl (by decide) rfl (fun ls hl => ?_)
                    refine lv_iinc (v := nI (j + 1)) (lv' := [(3, .int (nI (j + 1))), (2, .int (nI 0)), (0, .ref h), (1, .int (nI i))]) hx hb de_M_step_51 hl (k := 3) rfl (nx_inc j) (by decide) rfl (fun ls hl => ?_)
                    refine lv_goto (tgt := 35) hx hb de_M_step_54 (by decide) ?_
                    replace hl : lv_has ls 8 [(3, .int (nI (j + 1))), (2, .int (bo_i (lb_b μ i (j + 1)))), (0, .ref h), (1, .int (nI i))] := by rw [lb_n (by omega) c_6673]; exact hl
                    exact ih2 (j + 1) (by omega) (by omega) _ _ hP hS _ (lv_sub hl [2, 3, 1, 0] rfl)
            rw [← lb_0 μ i] at hl
            exact lp2 7 (i + 1) (by omega) (by omega) _ _ hP hS _ (lv_sub hl [2, 3, 1, 0] rfl)
          · exact absurd c_6666 (by omega)
        · have h9 : i ≠ l9 := fun z => by rw [z] at c_6665; omega
          refine lv_iinc (v := nI (i + 1)) (lv' := [(1, .int (nI (i + 1))), (0, .ref h)]) hx hb de_M_step_16 hl (k := 1) rfl (nx_inc i) (by decide) rfl (fun ls hl => ?_)
          refine lv_goto (tgt := 2) hx hb de_M_step_19 (by decide) ?_
          exact ih (i + 1) (by omega) (by omega) _ _ hP hS _ (lv_sub hl [1, 0] rfl)
  exact lp (l9 + 1) 0 (by omega) (by omega) _ _ hP hS _ (lv_sub hl [1, 0] rfl)
