/-! RunKeeperModel: what it asks itself (printed by gen/c_md2.py) -/
theorem im_nat {k : Int32} {n : Nat} (hn : n < 2 ^ 31) (h : im_b k (nI 0) (nI n) = true) : ∃ j, j ≤ n ∧ k = nI j := by
  simp only [im_b, Bool.and_eq_true, Bool.not_eq_true', decide_eq_false_iff_not] at h
  obtain ⟨j, hj, e⟩ := nI_of (x := k) h.1
  subst e
  exact ⟨j, by have := h.2; rw [nI_ltI hn hj] at this; omega, rfl⟩
theorem im_y {j n : Nat} (hn : n < 2 ^ 31) (h : j ≤ n) : im_b (nI j) (nI 0) (nI n) = true := by
  have h1 : ¬ nI j < nI 0 := nI_pos (by omega)
  have h2 : ¬ nI n < nI j := by rw [nI_ltI hn (by omega)]; omega
  simp only [im_b, decide_eq_false h1, decide_eq_false h2]
  rfl
/-- the snapshot that an int names -/
def vs_g (μ : md_S) (k : Int32) : Option Nat := if im_b k (nI 0) (nI 5) = true ∧ μ.ss k.toNatClampNeg = true then some (μ.sv k.toNatClampNeg) else none
theorem vs_n {μ : md_S} {k : Int32} (h : im_b k (nI 0) (nI 5) = false) : vs_g μ k = none := if_neg (fun z => by rw [h] at z; exact absurd z.1 (by decide))
theorem vs_y {μ : md_S} {j : Nat} (hj : j < 6) (h : μ.ss j = true) : vs_g μ (nI j) = some (μ.sv j) := by
  have e := nI_clamp (n := j) (by omega)
  rw [vs_g, e, if_pos ⟨im_y (by decide) (by omega), h⟩]
theorem vs_o {μ : md_S} {j : Nat} (hj : j < 6) (h : μ.ss j = false) : vs_g μ (nI j) = none := by
  have e := nI_clamp (n := j) (by omega)
  rw [vs_g, e, if_neg (fun z => by rw [h] at z; exact absurd z.2 (by decide))]
theorem vs_s {μ : md_S} {k : Int32} {u : Nat} (h : vs_g μ k = some u) : ∃ j, j < 6 ∧ k = nI j ∧ μ.sv j = u := by
  unfold vs_g at h
  split at h
  · rename_i hc
    obtain ⟨j, hj, e⟩ := im_nat (by decide) hc.1
    subst e
    rw [nI_clamp (by omega)] at h
    exact ⟨j, by omega, rfl, Option.some.inj h⟩
  · cases h
def mu_u (μ : md_S) (k : Int32) : Option Nat := if k = -1 then some 2147483647 else vs_g μ k
def be_f (μ : md_S) (k u : Nat) : Nat → Option Nat
  | 0 => none
  | j + 1 => if μ.kf j = k ∧ μ.nf j ≤ u ∧ (be_f μ k u j).all (fun b => decide (μ.nf b < μ.nf j)) = true then some j else be_f μ k u j
theorem be_all {o : Option Nat} {q : Nat → Bool} : o.all q = true ↔ ∀ b, o = some b → q b = true := by
  cases o with
  | none => simp
  | some x => simp
theorem be_y {μ : md_S} {k u j : Nat} (h : μ.kf j = k ∧ μ.nf j ≤ u ∧ ∀ b, be_f μ k u j = some b → μ.nf b < μ.nf j) : be_f μ k u (j + 1) = some j := if_pos ⟨h.1, h.2.1, be_all.mpr (fun b hb => decide_eq_true (h.2.2 b hb))⟩
theorem be_n {μ : md_S} {k u j : Nat} (h : ¬ (μ.kf j = k ∧ μ.nf j ≤ u ∧ ∀ b, be_f μ k u j = some b → μ.nf b < μ.nf j)) : be_f μ k u (j + 1) = be_f μ k u j := if_neg (fun z => h ⟨z.1, z.2.1, fun b hb => of_decide_eq_true (be_all.mp z.2.2 b hb)⟩)
theorem be_lt {μ : md_S} {k u : Nat} : ∀ {i b : Nat}, be_f μ k u i = some b → b < i
  | 0, b, h => by cases h
  | i + 1, b, h => by
    unfold be_f at h
    split at h
    · cases h; omega
    · have := be_lt h; omega
theorem rI_so {o : Option Nat} (h : ¬ rI o < 0) : ∃ b, o = some b := by
  cases o with
  | none => exact absurd (show rI none < 0 by decide) h
  | some b => exact ⟨b, rfl⟩
def al_b (p : Nat → Bool) : Nat → Bool
  | 0 => true
  | n + 1 => al_b p n && p n
theorem al_s {p : Nat → Bool} {n : Nat} : al_b p (n + 1) = (al_b p n && p n) := rfl
theorem al_f {p : Nat → Bool} {i n : Nat} (h : i < n) (hp : p i = false) : al_b p n = false := by
  induction n with
  | zero => omega
  | succ n ih =>
    rw [al_s]
    by_cases e : i = n
    · subst e; rw [hp]; simp
    · rw [ih (by omega)]; rfl
/-- is the j-th entry in level l -/
def at_l (μ : md_S) (j l : Nat) : Bool := match μ.rf j with
  | none => false
  | some r => decide (μ.lf r = some l)
theorem at_l0 {μ : md_S} {j l : Nat} (h : μ.rf j = none) : at_l μ j l = false := by simp only [at_l, h]
theorem at_l1 {μ : md_S} {j l r : Nat} (h : μ.rf j = some r) (h1 : μ.lf r = some l) : at_l μ j l = true := by simp only [at_l, h, h1, decide_eq_true_eq]
theorem at_l2 {μ : md_S} {j l r : Nat} (h : μ.rf j = some r) (h1 : ¬ μ.lf r = some l) : at_l μ j l = false := by simp only [at_l, h, decide_eq_false h1]
def it_b (μ : md_S) (k l u j : Nat) : Bool := decide (μ.kf j = μ.kf k) && at_l μ j l && decide (μ.nf k < μ.nf j) && decide (μ.nf j ≤ u)
def it_t (μ : md_S) (k l u : Nat) : Bool := decide (μ.nf k ≤ u) && al_b (fun j => !it_b μ k l u j) μ.n
def la_b (μ : md_S) (k j : Nat) : Bool := μ.ks j && decide (μ.kf j = μ.kf k) && decide (μ.nf j < μ.nf k)
def ik_b (μ : md_S) (k l : Nat) : Bool := it_t μ k l 2147483647 || !al_b (fun j => !(μ.ss j && it_t μ k l (μ.sv j))) 6
abbrev rm_M_isNone : Room := { frames := 1, cells := 0, slots := 0, locals := 22 }
set_option maxHeartbeats 4000000 in
set_option maxRecDepth 100000 in
theorem c_M_isNone (l : Launch) (G : dk_G) (w : dk_H) (h : Nat) (D : md_D) (μ : md_S) (hm : md_at G w h D μ) (k : Int32) : dk_Mi l my_M_isNone (wd_c my_M_isNone mb_M_isNone 2 (some .boolean)) rm_M_isNone G w [.ref h, .int k] (fun r w1 => r = bo_i (vs_g μ k).isNone ∧ w1 = w) 0 0 := by
  refine dk_enter (lv := [(0, .ref h), (1, .int k)]) (by decide) (Nat.le_of_ble_eq_true rfl) rfl (fun p e s m args below meth c ls Q hQ C hP hS hl => ?_)
  obtain ⟨hx, hb, hr, hml, hlocks, hown, hnm, hts, hE⟩ := C
  have hK := hE.1
  have hN := hE.2.1
  have hh_1911 : w h = some (100, .inr (cx_M, [.int (nI μ.er), .int (nI μ.n), .int (nI μ.sq), .int (nI μ.sf), .int (nI μ.rs), .int (rI μ.ba), .int (nI μ.pr), .int (nI μ.mi), .ref D.kf, .ref D.nf, .ref D.rf, .ref D.lf, .ref D.sv, .ref D.bk, .ref D.od, .ref D.vf, .ref D.bv, .ref D.df, .ref D.ss, .ref D.bd, .ref D.ks, .ref D.bt])) := hm.o
  refine lv_iload_n hx hb de_M_isNone_0 rfl (lv_at hl 1 rfl) ?_
  refine lv_iconst (v := nI 0) hx hb de_M_isNone_1 (by decide) ?_
  refine lv_iconst (v := nI 5) hx hb de_M_isNone_2 (by decide) ?_
  refine dk_calli (va_runS (As := [.int k, .int (nI 0), .int (nI 5)]) (rest := []) ⟨hx, hb, hml, hown, hts⟩ (c_M_in l G w k (nI 0) (nI 5)) (va_cwS 3 hts (wd_gS wi_795 wi_793 wi_794 wi_8) rfl rfl rfl (by decide +kernel) ⟨Nat.le_of_ble_eq_true rfl, Nat.le_of_ble_eq_true rfl⟩) (dk_preS hE hP hS) rfl rfl hl.1 rfl (lv_room (Nat.le_of_ble_eq_true rfl)) de_M_isNone_3 ⟨(by first | exact Nat.le_of_ble_eq_true rfl | (simp only [Nat.zero_add]; omega) | omega), (by first | exact Nat.le_of_ble_eq_true rfl | (simp only [Nat.zero_add]; omega) | omega)⟩) hS (fun r_1914 w_1912 H locs hq_1913 hP hS => ?_)
  obtain ⟨hr_1915, he_1916⟩ := hq_1913
  subst hr_1915
  rw [he_1916] at hP
  refine bo_if_eq (b := (im_b k (nI 0) (nI 5))) (tgt := 18) hx hb de_M_isNone_6 (by decide) (fun c_1917 => ?_) (fun c_1917 => ?_)
  · refine lv_iconst (v := nI 1) hx hb de_M_isNone_18 (by decide) ?_
    refine lv_goto (tgt := 23) hx hb de_M_isNone_19 (by decide) ?_
    exact dk_zret hQ hx hb hr hlocks hP hS (Nat.le_refl _) (Nat.le_refl _) (by decide +kernel) (⟨bo_of1 (by rw [vs_n c_1917]; rfl), rfl⟩) de_M_isNone_23
  · obtain ⟨j, hj, hkj⟩ := im_nat (by decide) c_1917
    subst hkj
    refine lv_aload_n hx hb de_M_isNone_9 rfl (lv_at hl 0 rfl) ?_
    refine dk_get (a := h) (v := .ref D.ss) (C := kn_M) (T := kt_M) (N := 22) hx hb hts ki_M hown hK hP hh_1911 rfl 18 (by decide) (hts _ wi_732) (fun _ h9 => h9) rfl de_M_isNone_10 ?_
    refine lv_iload_n hx hb de_M_isNone_13 rfl (lv_at hl 1 rfl) ?_
    refine dk_zald (a := D.ss) hx hb hK hP hm.ss j rfl (by omega) (by omega) de_M_isNone_14 ?_
    refine bo_if_ne (b := (μ.ss j)) (tgt := 22) hx hb de_M_isNone_15 (by decide) (fun c_1918 => ?_) (fun c_1918 => ?_)
    · refine lv_iconst (v := nI 0) hx hb de_M_isNone_22 (by decide) ?_
      exact dk_zret hQ hx hb hr hlocks hP hS (Nat.le_refl _) (Nat.le_refl _) (by decide +kernel) (⟨bo_of0 (by rw [vs_y (by omega) c_1918]; rfl), rfl⟩) de_M_isNone_23
    · refine lv_iconst (v := nI 1) hx hb de_M_isNone_18 (by decide) ?_
      refine lv_goto (tgt := 23) hx hb de_M_isNone_19 (by decide) ?_
      exact dk_zret hQ hx hb hr hlocks hP hS (Nat.le_refl _) (Nat.le_refl _) (by decide +kernel) (⟨bo_of1 (by rw [vs_o (by omega) c_1918]; rfl), rfl⟩) de_M_isNone_23
abbrev rm_M_upTo : Room := { frames := 0, cells := 0, slots := 0, locals := 0 }
set_option maxHeartbeats 4000000 in
set_option maxRecDepth 100000 in
theorem c_M_upTo (l : Launch) (G : dk_G) (w : dk_H) (h : Nat) (D : md_D) (μ : md_S) (hm : md_at G w h D μ) (k : Int32) (u : Nat) (hv : mu_u μ k = some u) : dk_Mi l my_M_upTo (wd_c my_M_upTo mb_M_upTo 2 (some .int)) rm_M_upTo G w [.ref h, .int k] (fun r w1 => r = nI u ∧ w1 = w) 0 0 := by
  refine dk_enter (lv := [(0, .ref h), (1, .int k)]) (by decide) (Nat.le_of_ble_eq_true rfl) rfl (fun p e s m args below meth c ls Q hQ C hP hS hl => ?_)
  obtain ⟨hx, hb, hr, hml, hlocks, hown, hnm, hts, hE⟩ := C
  have hK := hE.1
  have hN := hE.2.1
  have hh_1919 : w h = some (100, .inr (cx_M, [.int (nI μ.er), .int (nI μ.n), .int (nI μ.sq), .int (nI μ.sf), .int (nI μ.rs), .int (rI μ.ba), .int (nI μ.pr), .int (nI μ.mi), .ref D.kf, .ref D.nf, .ref D.rf, .ref D.lf, .ref D.sv, .ref D.bk, .ref D.od, .ref D.vf, .ref D.bv, .ref D.df, .ref D.ss, .ref D.bd, .ref D.ks, .ref D.bt])) := hm.o
  refine lv_iload_n hx hb de_M_upTo_0 rfl (lv_at hl 1 rfl) ?_
  refine lv_iconst (v := (-1)) hx hb de_M_upTo_1 (by decide) ?_
  refine lv_icmp_ne (tgt := 10) hx hb de_M_upTo_2 (by decide) (fun c_1920 => ?_) (fun c_1920 => ?_)
  · rw [mu_u, if_neg c_1920] at hv
    obtain ⟨j, hj, hkj, hju⟩ := vs_s hv
    subst hkj
    refine lv_aload_n hx hb de_M_upTo_10 rfl (lv_at hl 0 rfl) ?_
    refine dk_get (a := h) (v := .ref D.sv) (C := kn_M) (T := kt_M) (N := 22) hx hb hts ki_M hown hK hP hh_1919 rfl 12 (by decide) (hts _ wi_726) (fun _ h9 => h9) rfl de_M_upTo_11 ?_
    refine lv_iload_n hx hb de_M_upTo_14 rfl (lv_at hl 1 rfl) ?_
    refine dk_iald (a := D.sv) hx hb hK hP hm.sv j rfl (by omega) (by omega) de_M_upTo_15 ?_
    exact dk_iret hQ hx hb hr hlocks hP hS (Nat.le_refl _) (Nat.le_refl _) (⟨by rw [hju], rfl⟩) de_M_upTo_16
  · rw [mu_u, if_pos (by simpa using c_1920)] at hv
    refine lv_ldc (v := nI 2147483647) hx hb hown (by rw [show nI 2147483647 = (2147483647 : Int32) by decide]; exact hts _ wi_848) de_M_upTo_5 ?_
    refine lv_goto (tgt := 16) hx hb de_M_upTo_7 (by decide) ?_
    exact dk_iret hQ hx hb hr hlocks hP hS (Nat.le_refl _) (Nat.le_refl _) (⟨by rw [Option.some.inj hv], rfl⟩) de_M_upTo_16
abbrev rm_M_comesBefore : Room := { frames := 0, cells := 0, slots := 0, locals := 0 }
set_option maxHeartbeats 4000000 in
set_option maxRecDepth 100000 in
theorem c_M_comesBefore (l : Launch) (G : dk_G) (w : dk_H) (h : Nat) (D : md_D) (μ : md_S) (hm : md_at G w h D μ) (hmo : md_ok μ) (a b : Nat) (ha : a < 700) (hb0 : b < 700) : dk_Mi l my_M_comesBefore (wd_c my_M_comesBefore mb_M_comesBefore 3 (some .boolean)) rm_M_comesBefore G w [.ref h, .int (nI a), .int (nI b)] (fun r w1 => r = bo_i (if μ.kf a = μ.kf b then decide (μ.nf b < μ.nf a) else decide (μ.kf a < μ.kf b)) ∧ w1 = w) 0 0 := by
  obtain ⟨ok1, ok2, ok3, ok4, ok5, ok6, ok7, ok8, ok9, ok10, ok11⟩ := id hmo
  have b1 := ok1 a
  have b2 := ok1 b
  have b3 := ok2 a
  have b4 := ok2 b
  refine dk_enter (lv := [(0, .ref h), (1, .int (nI a)), (2, .int (nI b))]) (by decide) (Nat.le_of_ble_eq_true rfl) rfl (fun p e s m args below meth c ls Q hQ C hP hS hl => ?_)
  obtain ⟨hx, hb, hr, hml, hlocks, hown, hnm, hts, hE⟩ := C
  have hK := hE.1
  have hN := hE.2.1
  have hh_1921 : w h = some (100, .inr (cx_M, [.int (nI μ.er), .int (nI μ.n), .int (nI μ.sq), .int (nI μ.sf), .int (nI μ.rs), .int (rI μ.ba), .int (nI μ.pr), .int (nI μ.mi), .ref D.kf, .ref D.nf, .ref D.rf, .ref D.lf, .ref D.sv, .ref D.bk, .ref D.od, .ref D.vf, .ref D.bv, .ref D.df, .ref D.ss, .ref D.bd, .ref D.ks, .ref D.bt])) := hm.o
  refine lv_aload_n hx hb de_M_comesBefore_0 rfl (lv_at hl 0 rfl) ?_
  refine dk_get (a := h) (v := .ref D.kf) (C := kn_M) (T := kt_M) (N := 22) hx hb hts ki_M hown hK hP hh_1921 rfl 8 (by decide) (hts _ wi_722) (fun _ h9 => h9) rfl de_M_comesBefore_1 ?_
  refine lv_iload_n hx hb de_M_comesBefore_4 rfl (lv_at hl 1 rfl) ?_
  refine dk_iald (a := D.kf) hx hb hK hP hm.kf a rfl (by omega) (by omega) de_M_comesBefore_5 ?_
  refine lv_aload_n hx hb de_M_comesBefore_6 rfl (lv_at hl 0 rfl) ?_
  refine dk_get (a := h) (v := .ref D.kf) (C := kn_M) (T := kt_M) (N := 22) hx hb hts ki_M hown hK hP hh_1921 rfl 8 (by decide) (hts _ wi_722) (fun _ h9 => h9) rfl de_M_comesBefore_7 ?_
  refine lv_iload_n hx hb de_M_comesBefore_10 rfl (lv_at hl 2 rfl) ?_
  refine dk_iald (a := D.kf) hx hb hK hP hm.kf b rfl (by omega) (by omega) de_M_comesBefore_11 ?_
  refine nx_icmp_eq (a := μ.kf a) (b := μ.kf b) (tgt := 38) hx hb (by omega) (by omega) de_M_comesBefore_12 (by decide) (fun c_1922 => ?_) (fun c_1922 => ?_)
  · refine lv_aload_n hx hb de_M_comesBefore_38 rfl (lv_at hl 0 rfl) ?_
    refine dk_get (a := h) (v := .ref D.nf) (C := kn_M) (T := kt_M) (N := 22) hx hb hts ki_M hown hK hP hh_1921 rfl 9 (by decide) (hts _ wi_723) (fun _ h9 => h9) rfl de_M_comesBefore_39 ?_
    refine lv_iload_n hx hb de_M_comesBefore_42 rfl (lv_at hl 1 rfl) ?_
    refine dk_iald (a := D.nf) hx hb hK hP hm.nf a rfl (by omega) (by omega) de_M_comesBefore_43 ?_
    refine lv_aload_n hx hb de_M_comesBefore_44 rfl (lv_at hl 0 rfl) ?_
    refine dk_get (a := h) (v := .ref D.nf) (C := kn_M) (T := kt_M) (N := 22) hx hb hts ki_M hown hK hP hh_1921 rfl 9 (by decide) (hts _ wi_723) (fun _ h9 => h9) rfl de_M_comesBefore_45 ?_
    refine lv_iload_n hx hb de_M_comesBefore_48 rfl (lv_at hl 2 rfl) ?_
    refine dk_iald (a := D.nf) hx hb hK hP hm.nf b rfl (by omega) (by omega) de_M_comesBefore_49 ?_
    refine nx_icmp_le (a := μ.nf a) (b := μ.nf b) (tgt := 57) hx hb (by omega) (by omega) de_M_comesBefore_50 (by decide) (fun c_1923 => ?_) (fun c_1923 => ?_)
    · refine lv_iconst (v := nI 0) hx hb de_M_comesBefore_57 (by decide) ?_
      exact dk_zret hQ hx hb hr hlocks hP hS (Nat.le_refl _) (Nat.le_refl _) (by decide +kernel) (⟨bo_of0 (by rw [if_pos c_1922]; simp; omega), rfl⟩) de_M_comesBefore_58
    · refine lv_iconst (v := nI 1) hx hb de_M_comesBefore_53 (by decide) ?_
      refine lv_goto (tgt := 58) hx hb de_M_comesBefore_54 (by decide) ?_
      exact dk_zret hQ hx hb hr hlocks hP hS (Nat.le_refl _) (Nat.le_refl _) (by decide +kernel) (⟨bo_of1 (by rw [if_pos c_1922]; simp; omega), rfl⟩) de_M_comesBefore_58
  · refine lv_aload_n hx hb de_M_comesBefore_15 rfl (lv_at hl 0 rfl) ?_
    refine dk_get (a := h) (v := .ref D.kf) (C := kn_M) (T := kt_M) (N := 22) hx hb hts ki_M hown hK hP hh_1921 rfl 8 (by decide) (hts _ wi_722) (fun _ h9 => h9) rfl de_M_comesBefore_16 ?_
    refine lv_iload_n hx hb de_M_comesBefore_19 rfl (lv_at hl 1 rfl) ?_
    refine dk_iald (a := D.kf) hx hb hK hP hm.kf a rfl (by omega) (by omega) de_M_comesBefore_20 ?_
    refine lv_aload_n hx hb de_M_comesBefore_21 rfl (lv_at hl 0 rfl) ?_
    refine dk_get (a := h) (v := .ref D.kf) (C := kn_M) (T := kt_M) (N := 22) hx hb hts ki_M hown hK hP hh_1921 rfl 8 (by decide) (hts _ wi_722) (fun _ h9 => h9) rfl de_M_comesBefore_22 ?_
    refine lv_iload_n hx hb de_M_comesBefore_25 rfl (lv_at hl 2 rfl) ?_
    refine dk_iald (a := D.kf) hx hb hK hP hm.kf b rfl (by omega) (by omega) de_M_comesBefore_26 ?_
    refine nx_icmp_ge (a := μ.kf a) (b := μ.kf b) (tgt := 34) hx hb (by omega) (by omega) de_M_comesBefore_27 (by decide) (fun c_1924 => ?_) (fun c_1924 => ?_)
    · refine lv_iconst (v := nI 0) hx hb de_M_comesBefore_34 (by decide) ?_
      refine lv_goto (tgt := 58) hx hb de_M_comesBefore_35 (by decide) ?_
      exact dk_zret hQ hx hb hr hlocks hP hS (Nat.le_refl _) (Nat.le_refl _) (by decide +kernel) (⟨bo_of0 (by rw [if_neg c_1922]; simp; omega), rfl⟩) de_M_comesBefore_58
    · refine lv_iconst (v := nI 1) hx hb de_M_comesBefore_30 (by decide) ?_
      refine lv_goto (tgt := 58) hx hb de_M_comesBefore_31 (by decide) ?_
      exact dk_zret hQ hx hb hr hlocks hP hS (Nat.le_refl _) (Nat.le_refl _) (by decide +kernel) (⟨bo_of1 (by rw [if_neg c_1922]; simp; omega), rfl⟩) de_M_comesBefore_58
abbrev rm_M_best : Room := { frames := 0, cells := 0, slots := 0, locals := 0 }
set_option maxHeartbeats 4000000 in
set_option maxRecDepth 100000 in
theorem c_M_best (l : Launch) (G : dk_G) (w : dk_H) (h : Nat) (D : md_D) (μ : md_S) (hm : md_at G w h D μ) (hmo : md_ok μ) (k u : Nat) (hk0 : k < 2 ^ 31) (hu0 : u < 2 ^ 31) : dk_Mi l my_M_best (wd_c my_M_best mb_M_best 5 (some .int)) rm_M_best G w [.ref h, .int (nI k), .int (nI u)] (fun r w1 => r = rI (be_f μ k u μ.n) ∧ w1 = w) 0 0 := by
  obtain ⟨ok1, ok2, ok3, ok4, ok5, ok6, ok7, ok8, ok9, ok10, ok11⟩ := id hmo
  refine dk_enter (lv := [(0, .ref h), (1, .int (nI k)), (2, .int (nI u))]) (by decide) (Nat.le_of_ble_eq_true rfl) rfl (fun p e s m args below meth c ls Q hQ C hP hS hl => ?_)
  obtain ⟨hx, hb, hr, hml, hlocks, hown, hnm, hts, hE⟩ := C
  have hK := hE.1
  have hN := hE.2.1
  have hh_1925 : w h = some (100, .inr (cx_M, [.int (nI μ.er), .int (nI μ.n), .int (nI μ.sq), .int (nI μ.sf), .int (nI μ.rs), .int (rI μ.ba), .int (nI μ.pr), .int (nI μ.mi), .ref D.kf, .ref D.nf, .ref D.rf, .ref D.lf, .ref D.sv, .ref D.bk, .ref D.od, .ref D.vf, .ref D.bv, .ref D.df, .ref D.ss, .ref D.bd, .ref D.ks, .ref D.bt])) := hm.o
  refine lv_iconst (v := (-1)) hx hb de_M_best_0 (by decide) ?_
  refine lv_istore_n (lv' := [(3, .int (-1)), (0, .ref h), (1, .int (nI k)), (2, .int (nI u))]) hx hb de_M_best_1 rfl hl (by decide) rfl (fun ls hl => ?_)
  refine lv_iconst (v := nI 0) hx hb de_M_best_2 (by decide) ?_
  refine lv_istore (lv' := [(4, .int (nI 0)), (3, .int (-1)), (0, .ref h), (1, .int (nI k)), (2, .int (nI u))]) hx hb de_M_best_3 hl (by decide) rfl (fun ls hl => ?_)
  have lp : ∀ (zk : Nat) (i : Nat) (o : Option Nat), μ.n - i < zk → (i ≤ μ.n) → (o = be_f μ k u i) → ∀ (ls : Array Slot), lv_has ls 5 [(0, .ref h), (1, .int (nI k)), (2, .int (nI u)), (3, .int (rI o)), (4, .int (nI i))] → W p l e rm_M_best s m args below meth c s.heap [] 0 0 Q (F0 m 5 ls []) := by
    intro zk
    induction zk with
    | zero =>
      intro i o hk
      exact absurd hk (by omega)
    | succ zk ih =>
      intro i o hk hi ho
      intro ls hl
      have hob : ∀ b, o = some b → b < i := fun b hb => be_lt (ho.symm.trans hb)
      have b1 := ok1 i
      have b3 := ok2 i
      have hneg := rI_neg (a := o) (fun b hb => by have := hob b hb; omega)
      refine lv_iload hx hb de_M_best_5 (lv_at hl 4 rfl) ?_
      refine lv_aload_n hx hb de_M_best_7 rfl (lv_at hl 0 rfl) ?_
      refine dk_get (a := h) (v := .int (nI μ.n)) (C := kn_M) (T := kt_M) (N := 22) hx hb hts ki_M hown hK hP hh_1925 rfl 1 (by decide) (hts _ wi_715) (fun _ h9 => h9) rfl de_M_best_8 ?_
      refine nx_icmp_ge (a := i) (b := μ.n) (tgt := 65) hx hb (by omega) (by omega) de_M_best_11 (by decide) (fun c_1926 => ?_) (fun c_1926 => ?_)
      · have e9 : i = μ.n := by omega
        refine lv_iload_n hx hb de_M_best_65 rfl (lv_at hl 3 rfl) ?_
        exact dk_iret hQ hx hb hr hlocks hP hS (Nat.le_refl _) (Nat.le_refl _) (⟨by rw [ho, e9], rfl⟩) de_M_best_66
      · refine lv_aload_n hx hb de_M_best_14 rfl (lv_at hl 0 rfl) ?_
        refine dk_get (a := h) (v := .ref D.kf) (C := kn_M) (T := kt_M) (N := 22) hx hb hts ki_M hown hK hP hh_1925 rfl 8 (by decide) (hts _ wi_722) (fun _ h9 => h9) rfl de_M_best_15 ?_
        refine lv_iload hx hb de_M_best_18 (lv_at hl 4 rfl) ?_
        refine dk_iald (a := D.kf) hx hb hK hP hm.kf i rfl (by omega) (by omega) de_M_best_20 ?_
        refine lv_iload_n hx hb de_M_best_21 rfl (lv_at hl 1 rfl) ?_
        refine nx_icmp_ne (a := μ.kf i) (b := k) (tgt := 59) hx hb (by omega) (by omega) de_M_best_22 (by decide) (fun c_1927 => ?_) (fun c_1927 => ?_)
        · refine lv_iinc (v := nI (i + 1)) (lv' := [(4, .int (nI (i + 1))), (0, .ref h), (1, .int (nI k)), (2, .int (nI u)), (3, .int (rI o))]) hx hb de_M_best_59 hl (k := 4) rfl (nx_inc i) (by decide) rfl (fun ls hl => ?_)
          refine lv_goto (tgt := 5) hx hb de_M_best_62 (by decide) ?_
          exact ih (i + 1) o (by omega) (by omega) (by rw [be_n (fun z => c_1927 z.1), ho]) _ (lv_sub hl [1, 2, 3, 4, 0] rfl)
        · refine lv_aload_n hx hb de_M_best_25 rfl (lv_at hl 0 rfl) ?_
          refine dk_get (a := h) (v := .ref D.nf) (C := kn_M) (T := kt_M) (N := 22) hx hb hts ki_M hown hK hP hh_1925 rfl 9 (by decide) (hts _ wi_723) (fun _ h9 => h9) rfl de_M_best_26 ?_
          refine lv_iload hx hb de_M_best_29 (lv_at hl 4 rfl) ?_
          refine dk_iald (a := D.nf) hx hb hK hP hm.nf i rfl (by omega) (by omega) de_M_best_31 ?_
          refine lv_iload_n hx hb de_M_best_32 rfl (lv_at hl 2 rfl) ?_
          refine nx_icmp_gt (a := μ.nf i) (b := u) (tgt := 59) hx hb (by omega) (by omega) de_M_best_33 (by decide) (fun c_1928 => ?_) (fun c_1928 => ?_)
          · refine lv_iinc (v := nI (i + 1)) (lv' := [(4, .int (nI (i + 1))), (0, .ref h), (1, .int (nI k)), (2, .int (nI u)), (3, .int (rI o))]) hx hb de_M_best_59 hl (k := 4) rfl (nx_inc i) (by decide) rfl (fun ls hl => ?_)
            refine lv_goto (tgt := 5) hx hb de_M_best_62 (by decide) ?_
            exact ih (i + 1) o (by omega) (by omega) (by rw [be_n (fun z => absurd z.2.1 (by omega)), ho]) _ (lv_sub hl [1, 2, 3, 4, 0] rfl)
          · refine lv_iload_n hx hb de_M_best_36 rfl (lv_at hl 3 rfl) ?_
            refine lv_if_lt (tgt := 56) hx hb de_M_best_37 (by decide) (fun c_1929 => ?_) (fun c_1929 => ?_)
            · have e8 : o = none := hneg.mp c_1929
              refine lv_iload hx hb de_M_best_56 (lv_at hl 4 rfl) ?_
              refine lv_istore_n (lv' := [(3, .int (nI i)), (0, .ref h), (1, .int (nI k)), (2, .int (nI u)), (4, .int (nI i))]) hx hb de_M_best_58 rfl hl (by decide) rfl (fun ls hl => ?_)
              refine lv_iinc (v := nI (i + 1)) (lv' := [(4, .int (nI (i + 1))), (3, .int (nI i)), (0, .ref h), (1, .int (nI k)), (2, .int (nI u))]) hx hb de_M_best_59 hl (k := 4) rfl (nx_inc i) (by decide) rfl (fun ls hl => ?_)
              refine lv_goto (tgt := 5) hx hb de_M_best_62 (by decide) ?_
              exact ih (i + 1) (some i) (by omega) (by omega) (by rw [be_y ⟨c_1927, by omega, fun b hb => by rw [← ho, e8] at hb; cases hb⟩]) _ (lv_sub hl [2, 3, 4, 1, 0] rfl)
            · obtain ⟨b9, hb9⟩ := rI_so c_1929
              have hb8 := hob b9 hb9
              have b4 := ok2 b9
              rw [hb9] at hl
              replace hl : lv_has ls 5 [(0, .ref h), (1, .int (nI k)), (2, .int (nI u)), (3, .int (nI b9)), (4, .int (nI i))] := hl
              refine lv_aload_n hx hb de_M_best_40 rfl (lv_at hl 0 rfl) ?_
              refine dk_get (a := h) (v := .ref D.nf) (C := kn_M) (T := kt_M) (N := 22) hx hb hts ki_M hown hK hP hh_1925 rfl 9 (by decide) (hts _ wi_723) (fun _ h9 => h9) rfl de_M_best_41 ?_
              refine lv_iload hx hb de_M_best_44 (lv_at hl 4 rfl) ?_
              refine dk_iald (a := D.nf) hx hb hK hP hm.nf i rfl (by omega) (by omega) de_M_best_46 ?_
              refine lv_aload_n hx hb de_M_best_47 rfl (lv_at hl 0 rfl) ?_
              refine dk_get (a := h) (v := .ref D.nf) (C := kn_M) (T := kt_M) (N := 22) hx hb hts ki_M hown hK hP hh_1925 rfl 9 (by decide) (hts _ wi_723) (fun _ h9 => h9) rfl de_M_best_48 ?_
              refine lv_iload_n hx hb de_M_best_51 rfl (lv_at hl 3 rfl) ?_
              refine dk_iald (a := D.nf) hx hb hK hP hm.nf b9 rfl (by omega) (by omega) de_M_best_52 ?_
              refine nx_icmp_le (a := μ.nf i) (b := μ.nf b9) (tgt := 59) hx hb (by omega) (by omega) de_M_best_53 (by decide) (fun c_1930 => ?_) (fun c_1930 => ?_)
              · rw [← show rI (some b9) = nI b9 from rfl, ← hb9] at hl
                replace hl : lv_has ls 5 [(0, .ref h), (1, .int (nI k)), (2, .int (nI u)), (3, .int (rI o)), (4, .int (nI i))] := hl
                refine lv_iinc (v := nI (i + 1)) (lv' := [(4, .int (nI (i + 1))), (0, .ref h), (1, .int (nI k)), (2, .int (nI u)), (3, .int (rI o))]) hx hb de_M_best_59 hl (k := 4) rfl (nx_inc i) (by decide) rfl (fun ls hl => ?_)
                refine lv_goto (tgt := 5) hx hb de_M_best_62 (by decide) ?_
                exact ih (i + 1) o (by omega) (by omega) (by rw [be_n (fun z => absurd (z.2.2 b9 (ho.symm.trans hb9)) (by omega)), ho]) _ (lv_sub hl [1, 2, 3, 4, 0] rfl)
              · refine lv_iload hx hb de_M_best_56 (lv_at hl 4 rfl) ?_
                refine lv_istore_n (lv' := [(3, .int (nI i)), (0, .ref h), (1, .int (nI k)), (2, .int (nI u)), (4, .int (nI i))]) hx hb de_M_best_58 rfl hl (by decide) rfl (fun ls hl => ?_)
                refine lv_iinc (v := nI (i + 1)) (lv' := [(4, .int (nI (i + 1))), (3, .int (nI i)), (0, .ref h), (1, .int (nI k)), (2, .int (nI u))]) hx hb de_M_best_59 hl (k := 4) rfl (nx_inc i) (by decide) rfl (fun ls hl => ?_)
                refine lv_goto (tgt := 5) hx hb de_M_best_62 (by decide) ?_
                exact ih (i + 1) (some i) (by omega) (by omega) (by rw [be_y ⟨c_1927, by omega, fun b hb => by rw [← ho, hb9] at hb; cases hb; omega⟩]) _ (lv_sub hl [2, 3, 4, 1, 0] rfl)
  exact lp (μ.n + 1) 0 none (by omega) (Nat.zero_le _) rfl _ (lv_sub hl [2, 3, 4, 1, 0] rfl)
abbrev rm_M_isTop : Room := { frames := 0, cells := 0, slots := 0, locals := 0 }
set_option maxHeartbeats 4000000 in
set_option maxRecDepth 100000 in
theorem c_M_isTop (l : Launch) (G : dk_G) (w : dk_H) (h : Nat) (D : md_D) (μ : md_S) (hm : md_at G w h D μ) (hmo : md_ok μ) (k l9 u : Nat) (hk0 : k < 700) (hl0 : l9 < 6) (hu0 : u < 2 ^ 31) : dk_Mi l my_M_isTop (wd_c my_M_isTop mb_M_isTop 5 (some .boolean)) rm_M_isTop G w [.ref h, .int (nI k), .int (nI l9), .int (nI u)] (fun r w1 => r = bo_i (it_t μ k l9 u) ∧ w1 = w) 0 0 := by
  obtain ⟨ok1, ok2, ok3, ok4, ok5, ok6, ok7, ok8, ok9, ok10, ok11⟩ := id hmo
  have c1 := ok1 k
  have c3 := ok2 k
  refine dk_enter (lv := [(0, .ref h), (1, .int (nI k)), (2, .int (nI l9)), (3, .int (nI u))]) (by decide) (Nat.le_of_ble_eq_true rfl) rfl (fun p e s m args below meth c ls Q hQ C hP hS hl => ?_)
  obtain ⟨hx, hb, hr, hml, hlocks, hown, hnm, hts, hE⟩ := C
  have hK := hE.1
  have hN := hE.2.1
  have hh_1931 : w h = some (100, .inr (cx_M, [.int (nI μ.er), .int (nI μ.n), .int (nI μ.sq), .int (nI μ.sf), .int (nI μ.rs), .int (rI μ.ba), .int (nI μ.pr), .int (nI μ.mi), .ref D.kf, .ref D.nf, .ref D.rf, .ref D.lf, .ref D.sv, .ref D.bk, .ref D.od, .ref D.vf, .ref D.bv, .ref D.df, .ref D.ss, .ref D.bd, .ref D.ks, .ref D.bt])) := hm.o
  refine lv_aload_n hx hb de_M_isTop_0 rfl (lv_at hl 0 rfl) ?_
  refine dk_get (a := h) (v := .ref D.nf) (C := kn_M) (T := kt_M) (N := 22) hx hb hts ki_M hown hK hP hh_1931 rfl 9 (by decide) (hts _ wi_723) (fun _ h9 => h9) rfl de_M_isTop_1 ?_
  refine lv_iload_n hx hb de_M_isTop_4 rfl (lv_at hl 1 rfl) ?_
  refine dk_iald (a := D.nf) hx hb hK hP hm.nf k rfl (by omega) (by omega) de_M_isTop_5 ?_
  refine lv_iload_n hx hb de_M_isTop_6 rfl (lv_at hl 3 rfl) ?_
  refine nx_icmp_le (a := μ.nf k) (b := u) (tgt := 12) hx hb (by omega) (by omega) de_M_isTop_7 (by decide) (fun c_1932 => ?_) (fun c_1932 => ?_)
  · refine lv_iconst (v := nI 0) hx hb de_M_isTop_12 (by decide) ?_
    refine lv_istore (lv' := [(4, .int (nI 0)), (0, .ref h), (1, .int (nI k)), (2, .int (nI l9)), (3, .int (nI u))]) hx hb de_M_isTop_13 hl (by decide) rfl (fun ls hl => ?_)
    have lp : ∀ (zk : Nat) (i : Nat), μ.n - i < zk → (i ≤ μ.n) → (al_b (fun j => !it_b μ k l9 u j) i = true) → ∀ (ls : Array Slot), lv_has ls 5 [(0, .ref h), (1, .int (nI k)), (2, .int (nI l9)), (3, .int (nI u)), (4, .int (nI i))] → W p l e rm_M_isTop s m args below meth c s.heap [] 0 0 Q (F0 m 15 ls []) := by
      intro zk
      induction zk with
      | zero =>
        intro i hk
        exact absurd hk (by omega)
      | succ zk ih =>
        intro i hk hi ha
        intro ls hl
        have b1 := ok1 i
        have b3 := ok2 i
        have hneg := rI_neg (a := μ.rf i) (fun r hr => by have := ok3 i r hr; omega)
        refine lv_iload hx hb de_M_isTop_15 (lv_at hl 4 rfl) ?_
        refine lv_aload_n hx hb de_M_isTop_17 rfl (lv_at hl 0 rfl) ?_
        refine dk_get (a := h) (v := .int (nI μ.n)) (C := kn_M) (T := kt_M) (N := 22) hx hb hts ki_M hown hK hP hh_1931 rfl 1 (by decide) (hts _ wi_715) (fun _ h9 => h9) rfl de_M_isTop_18 ?_
        refine nx_icmp_ge (a := i) (b := μ.n) (tgt := 101) hx hb (by omega) (by omega) de_M_isTop_21 (by decide) (fun c_1933 => ?_) (fun c_1933 => ?_)
        · have e9 : i = μ.n := by omega
          refine lv_iconst (v := nI 1) hx hb de_M_isTop_101 (by decide) ?_
          exact dk_zret hQ hx hb hr hlocks hP hS (Nat.le_refl _) (Nat.le_refl _) (by decide +kernel) (⟨bo_of1 (by rw [it_t, decide_eq_true (show μ.nf k ≤ u by omega), ← e9, ha]; rfl), rfl⟩) de_M_isTop_102
        · refine lv_aload_n hx hb de_M_isTop_24 rfl (lv_at hl 0 rfl) ?_
          refine dk_get (a := h) (v := .ref D.kf) (C := kn_M) (T := kt_M) (N := 22) hx hb hts ki_M hown hK hP hh_1931 rfl 8 (by decide) (hts _ wi_722) (fun _ h9 => h9) rfl de_M_isTop_25 ?_
          refine lv_iload hx hb de_M_isTop_28 (lv_at hl 4 rfl) ?_
          refine dk_iald (a := D.kf) hx hb hK hP hm.kf i rfl (by omega) (by omega) de_M_isTop_30 ?_
          refine lv_aload_n hx hb de_M_isTop_31 rfl (lv_at hl 0 rfl) ?_
          refine dk_get (a := h) (v := .ref D.kf) (C := kn_M) (T := kt_M) (N := 22) hx hb hts ki_M hown hK hP hh_1931 rfl 8 (by decide) (hts _ wi_722) (fun _ h9 => h9) rfl de_M_isTop_32 ?_
          refine lv_iload_n hx hb de_M_isTop_35 rfl (lv_at hl 1 rfl) ?_
          refine dk_iald (a := D.kf) hx hb hK hP hm.kf k rfl (by omega) (by omega) de_M_isTop_36 ?_
          refine nx_icmp_ne (a := μ.kf i) (b := μ.kf k) (tgt := 95) hx hb (by omega) (by omega) de_M_isTop_37 (by decide) (fun c_1934 => ?_) (fun c_1934 => ?_)
          · refine lv_iinc (v := nI (i + 1)) (lv' := [(4, .int (nI (i + 1))), (0, .ref h), (1, .int (nI k)), (2, .int (nI l9)), (3, .int (nI u))]) hx hb de_M_isTop_95 hl (k := 4) rfl (nx_inc i) (by decide) rfl (fun ls hl => ?_)
            refine lv_goto (tgt := 15) hx hb de_M_isTop_98 (by decide) ?_
            have e8 : it_b μ k l9 u i = false := by rw [it_b, decide_eq_false c_1934]; rfl
            exact ih (i + 1) (by omega) (by omega) (by rw [al_s, ha, e8]; rfl) _ (lv_sub hl [1, 2, 3, 4, 0] rfl)
          · refine lv_aload_n hx hb de_M_isTop_40 rfl (lv_at hl 0 rfl) ?_
            refine dk_get (a := h) (v := .ref D.rf) (C := kn_M) (T := kt_M) (N := 22) hx hb hts ki_M hown hK hP hh_1931 rfl 10 (by decide) (hts _ wi_724) (fun _ h9 => h9) rfl de_M_isTop_41 ?_
            refine lv_iload hx hb de_M_isTop_44 (lv_at hl 4 rfl) ?_
            refine dk_iald (a := D.rf) hx hb hK hP hm.rf i rfl (by omega) (by omega) de_M_isTop_46 ?_
            refine lv_if_lt (tgt := 95) hx hb de_M_isTop_47 (by decide) (fun c_1935 => ?_) (fun c_1935 => ?_)
            · refine lv_iinc (v := nI (i + 1)) (lv' := [(4, .int (nI (i + 1))), (0, .ref h), (1, .int (nI k)), (2, .int (nI l9)), (3, .int (nI u))]) hx hb de_M_isTop_95 hl (k := 4) rfl (nx_inc i) (by decide) rfl (fun ls hl => ?_)
              refine lv_goto (tgt := 15) hx hb de_M_isTop_98 (by decide) ?_
              have e8 : it_b μ k l9 u i = false := by rw [it_b, at_l0 (hneg.mp c_1935)]; simp
              exact ih (i + 1) (by omega) (by omega) (by rw [al_s, ha, e8]; rfl) _ (lv_sub hl [1, 2, 3, 4, 0] rfl)
            · obtain ⟨r9, hr9⟩ := rI_so c_1935
              have hr5 := ok3 i r9 hr9
              have hleq := rI_eq (a := μ.lf r9) (b := some l9) (fun r hr => by have := ok4 r9 r hr; omega) (fun r hr => by cases hr; omega)
              refine lv_aload_n hx hb de_M_isTop_50 rfl (lv_at hl 0 rfl) ?_
              refine dk_get (a := h) (v := .ref D.lf) (C := kn_M) (T := kt_M) (N := 22) hx hb hts ki_M hown hK hP hh_1931 rfl 11 (by decide) (hts _ wi_725) (fun _ h9 => h9) rfl de_M_isTop_51 ?_
              refine lv_aload_n hx hb de_M_isTop_54 rfl (lv_at hl 0 rfl) ?_
              refine dk_get (a := h) (v := .ref D.rf) (C := kn_M) (T := kt_M) (N := 22) hx hb hts ki_M hown hK hP hh_1931 rfl 10 (by decide) (hts _ wi_724) (fun _ h9 => h9) rfl de_M_isTop_55 ?_
              refine lv_iload hx hb de_M_isTop_58 (lv_at hl 4 rfl) ?_
              refine dk_iald (a := D.rf) hx hb hK hP hm.rf i rfl (by omega) (by omega) de_M_isTop_60 ?_
              rw [hr9]
              rw [show rI (some r9) = nI r9 from rfl]
              refine dk_iald (a := D.lf) hx hb hK hP hm.lf r9 rfl (by omega) (by omega) de_M_isTop_61 ?_
              refine lv_iload_n hx hb de_M_isTop_62 rfl (lv_at hl 2 rfl) ?_
              refine lv_icmp_ne (tgt := 95) hx hb de_M_isTop_63 (by decide) (fun c_1936 => ?_) (fun c_1936 => ?_)
              · refine lv_iinc (v := nI (i + 1)) (lv' := [(4, .int (nI (i + 1))), (0, .ref h), (1, .int (nI k)), (2, .int (nI l9)), (3, .int (nI u))]) hx hb de_M_isTop_95 hl (k := 4) rfl (nx_inc i) (by decide) rfl (fun ls hl => ?_)
                refine lv_goto (tgt := 15) hx hb de_M_isTop_98 (by decide) ?_
                have e8 : it_b μ k l9 u i = false := by rw [it_b, at_l2 hr9 (fun z => c_1936 (hleq.mpr z))]; simp
                exact ih (i + 1) (by omega) (by omega) (by rw [al_s, ha, e8]; rfl) _ (lv_sub hl [1, 2, 3, 4, 0] rfl)
              · refine lv_aload_n hx hb de_M_isTop_66 rfl (lv_at hl 0 rfl) ?_
                refine dk_get (a := h) (v := .ref D.nf) (C := kn_M) (T := kt_M) (N := 22) hx hb hts ki_M hown hK hP hh_1931 rfl 9 (by decide) (hts _ wi_723) (fun _ h9 => h9) rfl de_M_isTop_67 ?_
                refine lv_iload hx hb de_M_isTop_70 (lv_at hl 4 rfl) ?_
                refine dk_iald (a := D.nf) hx hb hK hP hm.nf i rfl (by omega) (by omega) de_M_isTop_72 ?_
                refine lv_aload_n hx hb de_M_isTop_73 rfl (lv_at hl 0 rfl) ?_
                refine dk_get (a := h) (v := .ref D.nf) (C := kn_M) (T := kt_M) (N := 22) hx hb hts ki_M hown hK hP hh_1931 rfl 9 (by decide) (hts _ wi_723) (fun _ h9 => h9) rfl de_M_isTop_74 ?_
                refine lv_iload_n hx hb de_M_isTop_77 rfl (lv_at hl 1 rfl) ?_
                refine dk_iald (a := D.nf) hx hb hK hP hm.nf k rfl (by omega) (by omega) de_M_isTop_78 ?_
                refine nx_icmp_le (a := μ.nf i) (b := μ.nf k) (tgt := 95) hx hb (by omega) (by omega) de_M_isTop_79 (by decide) (fun c_1937 => ?_) (fun c_1937 => ?_)
                · refine lv_iinc (v := nI (i + 1)) (lv' := [(4, .int (nI (i + 1))), (0, .ref h), (1, .int (nI k)), (2, .int (nI l9)), (3, .int (nI u))]) hx hb de_M_isTop_95 hl (k := 4) rfl (nx_inc i) (by decide) rfl (fun ls hl => ?_)
                  refine lv_goto (tgt := 15) hx hb de_M_isTop_98 (by decide) ?_
                  have e8 : it_b μ k l9 u i = false := by rw [it_b, decide_eq_false (show ¬ μ.nf k < μ.nf i by omega)]; simp
                  exact ih (i + 1) (by omega) (by omega) (by rw [al_s, ha, e8]; rfl) _ (lv_sub hl [1, 2, 3, 4, 0] rfl)
                · refine lv_aload_n hx hb de_M_isTop_82 rfl (lv_at hl 0 rfl) ?_
                  refine dk_get (a := h) (v := .ref D.nf) (C := kn_M) (T := kt_M) (N := 22) hx hb hts ki_M hown hK hP hh_1931 rfl 9 (by decide) (hts _ wi_723) (fun _ h9 => h9) rfl de_M_isTop_83 ?_
                  refine lv_iload hx hb de_M_isTop_86 (lv_at hl 4 rfl) ?_
                  refine dk_iald (a := D.nf) hx hb hK hP hm.nf i rfl (by omega) (by omega) de_M_isTop_88 ?_
                  refine lv_iload_n hx hb de_M_isTop_89 rfl (lv_at hl 3 rfl) ?_
                  refine nx_icmp_gt (a := μ.nf i) (b := u) (tgt := 95) hx hb (by omega) (by omega) de_M_isTop_90 (by decide) (fun c_1938 => ?_) (fun c_1938 => ?_)
                  · refine lv_iinc (v := nI (i + 1)) (lv' := [(4, .int (nI (i + 1))), (0, .ref h), (1, .int (nI k)), (2, .int (nI l9)), (3, .int (nI u))]) hx hb de_M_isTop_95 hl (k := 4) rfl (nx_inc i) (by decide) rfl (fun ls hl => ?_)
                    refine lv_goto (tgt := 15) hx hb de_M_isTop_98 (by decide) ?_
                    have e8 : it_b μ k l9 u i = false := by rw [it_b, decide_eq_false (show ¬ μ.nf i ≤ u by omega)]; simp
                    exact ih (i + 1) (by omega) (by omega) (by rw [al_s, ha, e8]; rfl) _ (lv_sub hl [1, 2, 3, 4, 0] rfl)
                  · refine lv_iconst (v := nI 0) hx hb de_M_isTop_93 (by decide) ?_
                    exact dk_zret hQ hx hb hr hlocks hP hS (Nat.le_refl _) (Nat.le_refl _) (by decide +kernel) (⟨bo_of0 (by rw [it_t, al_f (p := (fun j => !it_b μ k l9 u j)) (i := i) (by omega) (by simp only [it_b, decide_eq_true c_1934, at_l1 hr9 (hleq.mp c_1936), decide_eq_true (show μ.nf k < μ.nf i by omega), decide_eq_true (show μ.nf i ≤ u by omega)]; rfl)]; simp), rfl⟩) de_M_isTop_94
    exact lp (μ.n + 1) 0 (by omega) (Nat.zero_le _) rfl _ (lv_sub hl [1, 2, 3, 4, 0] rfl)
  · refine lv_iconst (v := nI 0) hx hb de_M_isTop_10 (by decide) ?_
    exact dk_zret hQ hx hb hr hlocks hP hS (Nat.le_refl _) (Nat.le_refl _) (by decide +kernel) (⟨bo_of0 (by simp only [it_t, decide_eq_false (show ¬ μ.nf k ≤ u by omega)]; rfl), rfl⟩) de_M_isTop_11
abbrev rm_M_isLast : Room := { frames := 0, cells := 0, slots := 0, locals := 0 }
set_option maxHeartbeats 4000000 in
set_option maxRecDepth 100000 in
theorem c_M_isLast (l : Launch) (G : dk_G) (w : dk_H) (h : Nat) (D : md_D) (μ : md_S) (hm : md_at G w h D μ) (hmo : md_ok μ) (k : Nat) (hk0 : k < 700) : dk_Mi l my_M_isLast (wd_c my_M_isLast mb_M_isLast 3 (some .boolean)) rm_M_isLast G w [.ref h, .int (nI k)] (fun r w1 => r = bo_i (al_b (fun j => !la_b μ k j) μ.n) ∧ w1 = w) 0 0 := by
  obtain ⟨ok1, ok2, ok3, ok4, ok5, ok6, ok7, ok8, ok9, ok10, ok11⟩ := id hmo
  have c1 := ok1 k
  have c3 := ok2 k
  refine dk_enter (lv := [(0, .ref h), (1, .int (nI k))]) (by decide) (Nat.le_of_ble_eq_true rfl) rfl (fun p e s m args below meth c ls Q hQ C hP hS hl => ?_)
  obtain ⟨hx, hb, hr, hml, hlocks, hown, hnm, hts, hE⟩ := C
  have hK := hE.1
  have hN := hE.2.1
  have hh_1939 : w h = some (100, .inr (cx_M, [.int (nI μ.er), .int (nI μ.n), .int (nI μ.sq), .int (nI μ.sf), .int (nI μ.rs), .int (rI μ.ba), .int (nI μ.pr), .int (nI μ.mi), .ref D.kf, .ref D.nf, .ref D.rf, .ref D.lf, .ref D.sv, .ref D.bk, .ref D.od, .ref D.vf, .ref D.bv, .ref D.df, .ref D.ss, .ref D.bd, .ref D.ks, .ref D.bt])) := hm.o
  refine lv_iconst (v := nI 0) hx hb de_M_isLast_0 (by decide) ?_
  refine lv_istore_n (lv' := [(2, .int (nI 0)), (0, .ref h), (1, .int (nI k))]) hx hb de_M_isLast_1 rfl hl (by decide) rfl (fun ls hl => ?_)
  have lp : ∀ (zk : Nat) (i : Nat), μ.n - i < zk → (i ≤ μ.n) → (al_b (fun j => !la_b μ k j) i = true) → ∀ (ls : Array Slot), lv_has ls 3 [(0, .ref h), (1, .int (nI k)), (2, .int (nI i))] → W p l e rm_M_isLast s m args below meth c s.heap [] 0 0 Q (F0 m 2 ls []) := by
    intro zk
    induction zk with
    | zero =>
      intro i hk
      exact absurd hk (by omega)
    | succ zk ih =>
      intro i hk hi ha
      intro ls hl
      have b1 := ok1 i
      have b3 := ok2 i
      refine lv_iload_n hx hb de_M_isLast_2 rfl (lv_at hl 2 rfl) ?_
      refine lv_aload_n hx hb de_M_isLast_3 rfl (lv_at hl 0 rfl) ?_
      refine dk_get (a := h) (v := .int (nI μ.n)) (C := kn_M) (T := kt_M) (N := 22) hx hb hts ki_M hown hK hP hh_1939 rfl 1 (by decide) (hts _ wi_715) (fun _ h9 => h9) rfl de_M_isLast_4 ?_
      refine nx_icmp_ge (a := i) (b := μ.n) (tgt := 57) hx hb (by omega) (by omega) de_M_isLast_7 (by decide) (fun c_1940 => ?_) (fun c_1940 => ?_)
      · have e9 : i = μ.n := by omega
        refine lv_iconst (v := nI 1) hx hb de_M_isLast_57 (by decide) ?_
        exact dk_zret hQ hx hb hr hlocks hP hS (Nat.le_refl _) (Nat.le_refl _) (by decide +kernel) (⟨bo_of1 (by rw [← e9, ha]), rfl⟩) de_M_isLast_58
      · refine lv_aload_n hx hb de_M_isLast_10 rfl (lv_at hl 0 rfl) ?_
        refine dk_get (a := h) (v := .ref D.ks) (C := kn_M) (T := kt_M) (N := 22) hx hb hts ki_M hown hK hP hh_1939 rfl 20 (by decide) (hts _ wi_734) (fun _ h9 => h9) rfl de_M_isLast_11 ?_
        refine lv_iload_n hx hb de_M_isLast_14 rfl (lv_at hl 2 rfl) ?_
        refine dk_zald (a := D.ks) hx hb hK hP hm.ks i rfl (by omega) (by omega) de_M_isLast_15 ?_
        refine bo_if_eq (b := (μ.ks i)) (tgt := 51) hx hb de_M_isLast_16 (by decide) (fun c_1941 => ?_) (fun c_1941 => ?_)
        · refine lv_iinc (v := nI (i + 1)) (lv' := [(2, .int (nI (i + 1))), (0, .ref h), (1, .int (nI k))]) hx hb de_M_isLast_51 hl (k := 2) rfl (nx_inc i) (by decide) rfl (fun ls hl => ?_)
          refine lv_goto (tgt := 2) hx hb de_M_isLast_54 (by decide) ?_
          have e8 : la_b μ k i = false := by rw [la_b, c_1941]; rfl
          exact ih (i + 1) (by omega) (by omega) (by rw [al_s, ha, e8]; rfl) _ (lv_sub hl [1, 2, 0] rfl)
        · refine lv_aload_n hx hb de_M_isLast_19 rfl (lv_at hl 0 rfl) ?_
          refine dk_get (a := h) (v := .ref D.kf) (C := kn_M) (T := kt_M) (N := 22) hx hb hts ki_M hown hK hP hh_1939 rfl 8 (by decide) (hts _ wi_722) (fun _ h9 => h9) rfl de_M_isLast_20 ?_
          refine lv_iload_n hx hb de_M_isLast_23 rfl (lv_at hl 2 rfl) ?_
          refine dk_iald (a := D.kf) hx hb hK hP hm.kf i rfl (by omega) (by omega) de_M_isLast_24 ?_
          refine lv_aload_n hx hb de_M_isLast_25 rfl (lv_at hl 0 rfl) ?_
          refine dk_get (a := h) (v := .ref D.kf) (C := kn_M) (T := kt_M) (N := 22) hx hb hts ki_M hown hK hP hh_1939 rfl 8 (by decide) (hts _ wi_722) (fun _ h9 => h9) rfl de_M_isLast_26 ?_
          refine lv_iload_n hx hb de_M_isLast_29 rfl (lv_at hl 1 rfl) ?_
          refine dk_iald (a := D.kf) hx hb hK hP hm.kf k rfl (by omega) (by omega) de_M_isLast_30 ?_
          refine nx_icmp_ne (a := μ.kf i) (b := μ.kf k) (tgt := 51) hx hb (by omega) (by omega) de_M_isLast_31 (by decide) (fun c_1942 => ?_) (fun c_1942 => ?_)
          · refine lv_iinc (v := nI (i + 1)) (lv' := [(2, .int (nI (i + 1))), (0, .ref h), (1, .int (nI k))]) hx hb de_M_isLast_51 hl (k := 2) rfl (nx_inc i) (by decide) rfl (fun ls hl => ?_)
            refine lv_goto (tgt := 2) hx hb de_M_isLast_54 (by decide) ?_
            have e8 : la_b μ k i = false := by rw [la_b, decide_eq_false c_1942]; simp
            exact ih (i + 1) (by omega) (by omega) (by rw [al_s, ha, e8]; rfl) _ (lv_sub hl [1, 2, 0] rfl)
          · refine lv_aload_n hx hb de_M_isLast_34 rfl (lv_at hl 0 rfl) ?_
            refine dk_get (a := h) (v := .ref D.nf) (C := kn_M) (T := kt_M) (N := 22) hx hb hts ki_M hown hK hP hh_1939 rfl 9 (by decide) (hts _ wi_723) (fun _ h9 => h9) rfl de_M_isLast_35 ?_
            refine lv_iload_n hx hb de_M_isLast_38 rfl (lv_at hl 2 rfl) ?_
            refine dk_iald (a := D.nf) hx hb hK hP hm.nf i rfl (by omega) (by omega) de_M_isLast_39 ?_
            refine lv_aload_n hx hb de_M_isLast_40 rfl (lv_at hl 0 rfl) ?_
            refine dk_get (a := h) (v := .ref D.nf) (C := kn_M) (T := kt_M) (N := 22) hx hb hts ki_M hown hK hP hh_1939 rfl 9 (by decide) (hts _ wi_723) (fun _ h9 => h9) rfl de_M_isLast_41 ?_
            refine lv_iload_n hx hb de_M_isLast_44 rfl (lv_at hl 1 rfl) ?_
            refine dk_iald (a := D.nf) hx hb hK hP hm.nf k rfl (by omega) (by omega) de_M_isLast_45 ?_
            refine nx_icmp_ge (a := μ.nf i) (b := μ.nf k) (tgt := 51) hx hb (by omega) (by omega) de_M_isLast_46 (by decide) (fun c_1943 => ?_) (fun c_1943 => ?_)
            · refine lv_iinc (v := nI (i + 1)) (lv' := [(2, .int (nI (i + 1))), (0, .ref h), (1, .int (nI k))]) hx hb de_M_isLast_51 hl (k := 2) rfl (nx_inc i) (by decide) rfl (fun ls hl => ?_)
              refine lv_goto (tgt := 2) hx hb de_M_isLast_54 (by decide) ?_
              have e8 : la_b μ k i = false := by rw [la_b, decide_eq_false (show ¬ μ.nf i < μ.nf k by omega)]; simp
              exact ih (i + 1) (by omega) (by omega) (by rw [al_s, ha, e8]; rfl) _ (lv_sub hl [1, 2, 0] rfl)
            · refine lv_iconst (v := nI 0) hx hb de_M_isLast_49 (by decide) ?_
              exact dk_zret hQ hx hb hr hlocks hP hS (Nat.le_refl _) (Nat.le_refl _) (by decide +kernel) (⟨bo_of0 (al_f (i := i) (by omega) (by simp only [la_b, c_1941, decide_eq_true c_1942, decide_eq_true (show μ.nf i < μ.nf k by omega)]; rfl)), rfl⟩) de_M_isLast_50
  exact lp (μ.n + 1) 0 (by omega) (Nat.zero_le _) rfl _ (lv_sub hl [1, 2, 0] rfl)
abbrev rm_M_isKept : Room := { frames := 1, cells := 0, slots := 0, locals := 24 }
set_option maxHeartbeats 4000000 in
set_option maxRecDepth 100000 in
theorem c_M_isKept (l : Launch) (G : dk_G) (w : dk_H) (h : Nat) (D : md_D) (μ : md_S) (hm : md_at G w h D μ) (hmo : md_ok μ) (k l9 : Nat) (hk0 : k < 700) (hl0 : l9 < 6) : dk_Mi l my_M_isKept (wd_c my_M_isKept mb_M_isKept 4 (some .boolean)) rm_M_isKept G w [.ref h, .int (nI k), .int (nI l9)] (fun r w1 => r = bo_i (ik_b μ k l9) ∧ w1 = w) 0 0 := by
  obtain ⟨ok1, ok2, ok3, ok4, ok5, ok6, ok7, ok8, ok9, ok10, ok11⟩ := id hmo
  refine dk_enter (lv := [(0, .ref h), (1, .int (nI k)), (2, .int (nI l9))]) (by decide) (Nat.le_of_ble_eq_true rfl) rfl (fun p e s m args below meth c ls Q hQ C hP hS hl => ?_)
  obtain ⟨hx, hb, hr, hml, hlocks, hown, hnm, hts, hE⟩ := C
  have hK := hE.1
  have hN := hE.2.1
  have hh_1944 : w h = some (100, .inr (cx_M, [.int (nI μ.er), .int (nI μ.n), .int (nI μ.sq), .int (nI μ.sf), .int (nI μ.rs), .int (rI μ.ba), .int (nI μ.pr), .int (nI μ.mi), .ref D.kf, .ref D.nf, .ref D.rf, .ref D.lf, .ref D.sv, .ref D.bk, .ref D.od, .ref D.vf, .ref D.bv, .ref D.df, .ref D.ss, .ref D.bd, .ref D.ks, .ref D.bt])) := hm.o
  refine lv_aload_n hx hb de_M_isKept_0 rfl (lv_at hl 0 rfl) ?_
  refine lv_iload_n hx hb de_M_isKept_1 rfl (lv_at hl 1 rfl) ?_
  refine lv_iload_n hx hb de_M_isKept_2 rfl (lv_at hl 2 rfl) ?_
  refine lv_ldc (v := nI 2147483647) hx hb hown (by rw [show nI 2147483647 = (2147483647 : Int32) by decide]; exact hts _ wi_848) de_M_isKept_3 ?_
  refine dk_calli (va_runV (As := [.int (nI k), .int (nI l9), .int (nI 2147483647)]) (rest := []) ⟨hx, hb, hml, hown, hts⟩ (c_M_isTop l G w h D μ hm hmo k l9 2147483647 hk0 hl0 (by decide)) (cwV 3 hts (wd_gV (C := "RunKeeperModel") wi_852 wi_849 wi_851 (wd_p (q := (⟨"RunKeeperModel", "isTop", "(III)Z"⟩, 22)) (by decide +kernel) (by decide +kernel)) wi_8) rfl rfl rfl (by decide +kernel) ⟨Nat.le_of_ble_eq_true rfl, Nat.le_of_ble_eq_true rfl⟩) (dk_preV (kn_M, kt_M, 22) hE hP hS hh_1944 rfl) rfl rfl hl.1 rfl (lv_room (Nat.le_of_ble_eq_true rfl)) de_M_isKept_5 ⟨(by first | exact Nat.le_of_ble_eq_true rfl | (simp only [Nat.zero_add]; omega) | omega), (by first | exact Nat.le_of_ble_eq_true rfl | (simp only [Nat.zero_add]; omega) | omega)⟩) hS (fun r_1947 w_1945 H locs hq_1946 hP hS => ?_)
  obtain ⟨hr_1948, he_1949⟩ := hq_1946
  subst hr_1948
  rw [he_1949] at hP
  refine bo_if_eq (b := (it_t μ k l9 2147483647)) (tgt := 13) hx hb de_M_isKept_8 (by decide) (fun c_1950 => ?_) (fun c_1950 => ?_)
  · refine lv_iconst (v := nI 0) hx hb de_M_isKept_13 (by decide) ?_
    refine lv_istore_n (lv' := [(3, .int (nI 0)), (0, .ref h), (1, .int (nI k)), (2, .int (nI l9))]) hx hb de_M_isKept_14 rfl hl (by decide) rfl (fun ls hl => ?_)
    have lp : ∀ (zk : Nat) (i : Nat), 6 - i < zk → (i ≤ 6) → (al_b (fun j => !(μ.ss j && it_t μ k l9 (μ.sv j))) i = true) → ∀ (H : Heap) (locs : List Loc), dk_P G w H → dk_S G s.heap H locs → ∀ (ls : Array Slot), lv_has ls 4 [(0, .ref h), (1, .int (nI k)), (2, .int (nI l9)), (3, .int (nI i))] → W p l e rm_M_isKept s m args below meth c H locs (0 + 0) (0 + 0) Q (F0 m 15 ls []) := by
      intro zk
      induction zk with
      | zero =>
        intro i hk
        exact absurd hk (by omega)
      | succ zk ih =>
        intro i hk hi ha
        intro H locs hP hS
        intro ls hl
        refine lv_iload_n hx hb de_M_isKept_15 rfl (lv_at hl 3 rfl) ?_
        refine lv_bipush (v := nI 6) hx hb de_M_isKept_16 (by decide) ?_
        refine nx_icmp_ge (a := i) (b := 6) (tgt := 53) hx hb (by omega) (by omega) de_M_isKept_18 (by decide) (fun c_1951 => ?_) (fun c_1951 => ?_)
        · have e9 : i = 6 := by omega
          refine lv_iconst (v := nI 0) hx hb de_M_isKept_53 (by decide) ?_
          exact dk_zret hQ hx hb hr hlocks hP hS (Nat.le_refl _) (Nat.le_refl _) (by decide +kernel) (⟨bo_of0 (by rw [ik_b, c_1950, ← e9, ha]; rfl), rfl⟩) de_M_isKept_54
        · refine lv_aload_n hx hb de_M_isKept_21 rfl (lv_at hl 0 rfl) ?_
          refine dk_get (a := h) (v := .ref D.ss) (C := kn_M) (T := kt_M) (N := 22) hx hb hts ki_M hown hK hP hh_1944 rfl 18 (by decide) (hts _ wi_732) (fun _ h9 => h9) rfl de_M_isKept_22 ?_
          refine lv_iload_n hx hb de_M_isKept_25 rfl (lv_at hl 3 rfl) ?_
          refine dk_zald (a := D.ss) hx hb hK hP hm.ss i rfl (by omega) (by omega) de_M_isKept_26 ?_
          refine bo_if_eq (b := (μ.ss i)) (tgt := 47) hx hb de_M_isKept_27 (by decide) (fun c_1952 => ?_) (fun c_1952 => ?_)
          · refine lv_iinc (v := nI (i + 1)) (lv' := [(3, .int (nI (i + 1))), (0, .ref h), (1, .int (nI k)), (2, .int (nI l9))]) hx hb de_M_isKept_47 hl (k := 3) rfl (nx_inc i) (by decide) rfl (fun ls hl => ?_)
            refine lv_goto (tgt := 15) hx hb de_M_isKept_50 (by decide) ?_
            have e8 : (μ.ss i && it_t μ k l9 (μ.sv i)) = false := by rw [c_1952]; rfl
            exact ih (i + 1) (by omega) (by omega) (by rw [al_s, ha, e8]; rfl) _ _ hP hS _ (lv_sub hl [1, 2, 3, 0] rfl)
          · refine lv_aload_n hx hb de_M_isKept_30 rfl (lv_at hl 0 rfl) ?_
            refine lv_iload_n hx hb de_M_isKept_31 rfl (lv_at hl 1 rfl) ?_
            refine lv_iload_n hx hb de_M_isKept_32 rfl (lv_at hl 2 rfl) ?_
            refine lv_aload_n hx hb de_M_isKept_33 rfl (lv_at hl 0 rfl) ?_
            refine dk_get (a := h) (v := .ref D.sv) (C := kn_M) (T := kt_M) (N := 22) hx hb hts ki_M hown hK hP hh_1944 rfl 12 (by decide) (hts _ wi_726) (fun _ h9 => h9) rfl de_M_isKept_34 ?_
            refine lv_iload_n hx hb de_M_isKept_37 rfl (lv_at hl 3 rfl) ?_
            refine dk_iald (a := D.sv) hx hb hK hP hm.sv i rfl (by omega) (by omega) de_M_isKept_38 ?_
            refine dk_calli (va_runV (As := [.int (nI k), .int (nI l9), .int (nI (μ.sv i))]) (rest := []) ⟨hx, hb, hml, hown, hts⟩ (c_M_isTop l G w h D μ hm hmo k l9 (μ.sv i) hk0 hl0 (by have := ok8 i; omega)) (cwV 3 hts (wd_gV (C := "RunKeeperModel") wi_852 wi_849 wi_851 (wd_p (q := (⟨"RunKeeperModel", "isTop", "(III)Z"⟩, 22)) (by decide +kernel) (by decide +kernel)) wi_8) rfl rfl rfl (by decide +kernel) ⟨Nat.le_of_ble_eq_true rfl, Nat.le_of_ble_eq_true rfl⟩) (dk_preV (kn_M, kt_M, 22) hE hP hS hh_1944 rfl) rfl rfl hl.1 rfl (lv_room (Nat.le_of_ble_eq_true rfl)) de_M_isKept_39 ⟨(by first | exact Nat.le_of_ble_eq_true rfl | (simp only [Nat.zero_add]; omega) | omega), (by first | exact Nat.le_of_ble_eq_true rfl | (simp only [Nat.zero_add]; omega) | omega)⟩) hS (fun r_1955 w_1953 H locs hq_1954 hP hS => ?_)
            obtain ⟨hr_1956, he_1957⟩ := hq_1954
            subst hr_1956
            rw [he_1957] at hP
            refine bo_if_eq (b := (it_t μ k l9 (μ.sv i))) (tgt := 47) hx hb de_M_isKept_42 (by decide) (fun c_1958 => ?_) (fun c_1958 => ?_)
            · refine lv_iinc (v := nI (i + 1)) (lv' := [(3, .int (nI (i + 1))), (0, .ref h), (1, .int (nI k)), (2, .int (nI l9))]) hx hb de_M_isKept_47 hl (k := 3) rfl (nx_inc i) (by decide) rfl (fun ls hl => ?_)
              refine lv_goto (tgt := 15) hx hb de_M_isKept_50 (by decide) ?_
              have e8 : (μ.ss i && it_t μ k l9 (μ.sv i)) = false := by rw [c_1958]; simp
              exact ih (i + 1) (by omega) (by omega) (by rw [al_s, ha, e8]; rfl) _ _ hP hS _ (lv_sub hl [1, 2, 3, 0] rfl)
            · refine lv_iconst (v := nI 1) hx hb de_M_isKept_45 (by decide) ?_
              exact dk_zret hQ hx hb hr hlocks hP hS (Nat.le_refl _) (Nat.le_refl _) (by decide +kernel) (⟨bo_of1 (by rw [ik_b, al_f (p := (fun j => !(μ.ss j && it_t μ k l9 (μ.sv j)))) (i := i) (by omega) (by simp only [c_1952, c_1958]; rfl)]; simp), rfl⟩) de_M_isKept_46
    exact lp 7 0 (by omega) (Nat.zero_le _) rfl _ _ hP hS _ (lv_sub hl [1, 2, 3, 0] rfl)
  · refine lv_iconst (v := nI 1) hx hb de_M_isKept_11 (by decide) ?_
    exact dk_zret hQ hx hb hr hlocks hP hS (Nat.le_refl _) (Nat.le_refl _) (by decide +kernel) (⟨bo_of1 (by rw [ik_b, c_1950]; rfl), rfl⟩) de_M_isKept_12
