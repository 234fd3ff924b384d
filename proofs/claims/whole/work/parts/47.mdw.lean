/-! RunKeeperModel, walked (printed by gen/c_md.py) -/
def im_b (k a b : Int32) : Bool := !decide (k < a) && !decide (b < k)
def fa_e (b : Bool) (c e : Nat) : Nat := if b = true ∧ e = 0 then c else e
theorem fa_0 {b : Bool} {c e : Nat} (h : b = false ∨ 0 < e) : fa_e b c e = e := by
  unfold fa_e
  rw [if_neg]
  rintro ⟨h1, h2⟩
  rcases h with h | h
  · rw [h1] at h; cases h
  · omega
theorem fa_1 {b : Bool} {c e : Nat} (h1 : b = true) (h2 : e = 0) : fa_e b c e = c := if_pos ⟨h1, h2⟩
def md_w (μ : md_S) (k : Nat) (z : Int64) (b : Bool) : md_S := ((((((μ.kf' (va_up μ.kf μ.n k)).nf' (va_up μ.nf μ.n (μ.sq + 1))).sq' (μ.sq + 1)).vf' (va_up μ.vf μ.n z)).df' (va_up μ.df μ.n b)).rf' (va_up μ.rf μ.n none)).n' (μ.n + 1)
/-- the first i entries of the table are of the new run -/
def fl_r (μ : md_S) (i : Nat) : Nat → Option Nat := fun k => if k < i ∧ μ.rf k = none then some μ.rs else μ.rf k
theorem fl_r0 (μ : md_S) : fl_r μ 0 = μ.rf := by
  funext k
  exact if_neg (fun z => absurd z.1 (by omega))
theorem fl_rn {μ : md_S} {i : Nat} (h : ¬ μ.rf i = none) : fl_r μ (i + 1) = fl_r μ i := by
  funext k
  unfold fl_r
  by_cases e : k = i
  · subst e
    rw [if_neg (fun z => h z.2), if_neg (fun z => h z.2)]
  · by_cases h1 : k < i ∧ μ.rf k = none
    · rw [if_pos h1, if_pos ⟨by omega, h1.2⟩]
    · rw [if_neg h1, if_neg (fun z => h1 ⟨by omega, z.2⟩)]
theorem fl_ry {μ : md_S} {i : Nat} (h : μ.rf i = none) : fl_r μ (i + 1) = va_up (fl_r μ i) i (some μ.rs) := by
  funext k
  by_cases e : k = i
  · subst e
    rw [dk_us]
    exact if_pos ⟨by omega, h⟩
  · rw [dk_un e]
    unfold fl_r
    by_cases h1 : k < i ∧ μ.rf k = none
    · rw [if_pos h1, if_pos ⟨by omega, h1.2⟩]
    · rw [if_neg h1, if_neg (fun z => h1 ⟨by omega, z.2⟩)]
def md_fl (μ : md_S) : md_S := if ct_f (fun k9 => decide (μ.rf k9 = none)) μ.n = 0 then (μ.rf' (fl_r μ μ.n)).sf' 0 else (((μ.rf' (fl_r μ μ.n)).rs' (μ.rs + 1)).lf' (va_up μ.lf μ.rs (some 0))).sf' 0
theorem fl_a0 {μ : md_S} {m i : Nat} (e : i = μ.n) (h : m = ct_f (fun k9 => decide (μ.rf k9 = none)) i) (h0 : m = 0) : md_fl μ = (μ.rf' (fl_r μ i)).sf' 0 := by
  rw [e] at h ⊢
  exact if_pos (h.symm.trans h0)
theorem fl_a1 {μ : md_S} {m i : Nat} (e : i = μ.n) (h : m = ct_f (fun k9 => decide (μ.rf k9 = none)) i) (h0 : 0 < m) : md_fl μ = (((μ.rf' (fl_r μ i)).rs' (μ.rs + 1)).lf' (va_up μ.lf μ.rs (some 0))).sf' 0 := by
  rw [e] at h ⊢
  exact if_neg (fun z => by omega)
abbrev rm_M_thrown : Room := { frames := 0, cells := 0, slots := 0, locals := 0 }
set_option maxHeartbeats 4000000 in
set_option maxRecDepth 100000 in
theorem c_M_thrown (l : Launch) (G : dk_G) (w : dk_H) (h : Nat) (D : md_D) (μ : md_S) (hm : md_at G w h D μ) : dk_Mi l my_M_thrown (wd_c my_M_thrown mb_M_thrown 1 (some .int)) rm_M_thrown G w [.ref h] (fun r w1 => r = nI μ.er ∧ w1 = w) 0 0 := by
  refine dk_enter (lv := [(0, .ref h)]) (by decide) (Nat.le_of_ble_eq_true rfl) rfl (fun p e s m args below meth c ls Q hQ C hP hS hl => ?_)
  obtain ⟨hx, hb, hr, hml, hlocks, hown, hnm, hts, hE⟩ := C
  have hK := hE.1
  have hN := hE.2.1
  have hh_1635 : w h = some (100, .inr (cx_M, [.int (nI μ.er), .int (nI μ.n), .int (nI μ.sq), .int (nI μ.sf), .int (nI μ.rs), .int (rI μ.ba), .int (nI μ.pr), .int (nI μ.mi), .ref D.kf, .ref D.nf, .ref D.rf, .ref D.lf, .ref D.sv, .ref D.bk, .ref D.od, .ref D.vf, .ref D.bv, .ref D.df, .ref D.ss, .ref D.bd, .ref D.ks, .ref D.bt])) := hm.o
  refine lv_aload_n hx hb de_M_thrown_0 rfl (lv_at hl 0 rfl) ?_
  refine dk_get (a := h) (v := .int (nI μ.er)) (C := kn_M) (T := kt_M) (N := 22) hx hb hts ki_M hown hK hP hh_1635 rfl 0 (by decide) (hts _ wi_714) (fun _ h9 => h9) rfl de_M_thrown_1 ?_
  exact dk_iret hQ hx hb hr hlocks hP hS (Nat.le_refl _) (Nat.le_refl _) (⟨rfl, rfl⟩) de_M_thrown_4
abbrev rm_M_in : Room := { frames := 0, cells := 0, slots := 0, locals := 0 }
set_option maxHeartbeats 4000000 in
set_option maxRecDepth 100000 in
theorem c_M_in (l : Launch) (G : dk_G) (w : dk_H) (k a b : Int32) : dk_Mi l my_M_in (wd_c my_M_in mb_M_in 3 (some .boolean)) rm_M_in G w [.int k, .int a, .int b] (fun r w1 => r = bo_i (im_b k a b) ∧ w1 = w) 0 0 := by
  refine dk_enter (lv := [(0, .int k), (1, .int a), (2, .int b)]) (by decide) (Nat.le_of_ble_eq_true rfl) rfl (fun p e s m args below meth c ls Q hQ C hP hS hl => ?_)
  obtain ⟨hx, hb, hr, hml, hlocks, hown, hnm, hts, hE⟩ := C
  have hK := hE.1
  have hN := hE.2.1
  refine lv_iload_n hx hb de_M_in_0 rfl (lv_at hl 0 rfl) ?_
  refine lv_iload_n hx hb de_M_in_1 rfl (lv_at hl 1 rfl) ?_
  refine lv_icmp_lt (tgt := 14) hx hb de_M_in_2 (by decide) (fun c_1636 => ?_) (fun c_1636 => ?_)
  · refine lv_iconst (v := nI 0) hx hb de_M_in_14 (by decide) ?_
    exact dk_zret hQ hx hb hr hlocks hP hS (Nat.le_refl _) (Nat.le_refl _) (by decide +kernel) (⟨bo_of0 (by simp [im_b, c_1636]), rfl⟩) de_M_in_15
  · refine lv_iload_n hx hb de_M_in_5 rfl (lv_at hl 0 rfl) ?_
    refine lv_iload_n hx hb de_M_in_6 rfl (lv_at hl 2 rfl) ?_
    refine lv_icmp_gt (tgt := 14) hx hb de_M_in_7 (by decide) (fun c_1637 => ?_) (fun c_1637 => ?_)
    · refine lv_iconst (v := nI 0) hx hb de_M_in_14 (by decide) ?_
      exact dk_zret hQ hx hb hr hlocks hP hS (Nat.le_refl _) (Nat.le_refl _) (by decide +kernel) (⟨bo_of0 (by simp [im_b, c_1637]), rfl⟩) de_M_in_15
    · refine lv_iconst (v := nI 1) hx hb de_M_in_10 (by decide) ?_
      refine lv_goto (tgt := 15) hx hb de_M_in_11 (by decide) ?_
      exact dk_zret hQ hx hb hr hlocks hP hS (Nat.le_refl _) (Nat.le_refl _) (by decide +kernel) (⟨bo_of1 (by simp only [im_b, decide_eq_false c_1636, decide_eq_false c_1637]; rfl), rfl⟩) de_M_in_15
abbrev rm_M_fails : Room := { frames := 0, cells := 0, slots := 0, locals := 0 }
set_option maxHeartbeats 4000000 in
set_option maxRecDepth 100000 in
theorem c_M_fails (l : Launch) (G : dk_G) (w : dk_H) (h : Nat) (D : md_D) (μ : md_S) (hm : md_at G w h D μ) (b : Bool) (c9 : Nat) (hc9 : c9 < 3) (hc8 : 0 < c9) (her : μ.er < 3) : dk_Mi l my_M_fails (wd_c my_M_fails mb_M_fails 3 (some .boolean)) rm_M_fails G w [.ref h, .int (bo_i b), .int (nI c9)] (fun r w1 => r = bo_i (decide (0 < fa_e b c9 μ.er)) ∧ md_at G w1 h D (μ.er' (fa_e b c9 μ.er)) ∧ dk_fr md_T w w1) 0 0 := by
  refine dk_enter (lv := [(0, .ref h), (1, .int (bo_i b)), (2, .int (nI c9))]) (by decide) (Nat.le_of_ble_eq_true rfl) rfl (fun p e s m args below meth c ls Q hQ C hP hS hl => ?_)
  obtain ⟨hx, hb, hr, hml, hlocks, hown, hnm, hts, hE⟩ := C
  have hK := hE.1
  have hN := hE.2.1
  have hh_1638 : w h = some (100, .inr (cx_M, [.int (nI μ.er), .int (nI μ.n), .int (nI μ.sq), .int (nI μ.sf), .int (nI μ.rs), .int (rI μ.ba), .int (nI μ.pr), .int (nI μ.mi), .ref D.kf, .ref D.nf, .ref D.rf, .ref D.lf, .ref D.sv, .ref D.bk, .ref D.od, .ref D.vf, .ref D.bv, .ref D.df, .ref D.ss, .ref D.bd, .ref D.ks, .ref D.bt])) := hm.o
  refine lv_iload_n hx hb de_M_fails_0 rfl (lv_at hl 1 rfl) ?_
  refine bo_if_eq (b := b) (tgt := 16) hx hb de_M_fails_1 (by decide) (fun c_1639 => ?_) (fun c_1639 => ?_)
  · have e9 : fa_e b c9 μ.er = μ.er := fa_0 (Or.inl c_1639)
    refine lv_aload_n hx hb de_M_fails_16 rfl (lv_at hl 0 rfl) ?_
    refine dk_get (a := h) (v := .int (nI μ.er)) (C := kn_M) (T := kt_M) (N := 22) hx hb hts ki_M hown hK hP hh_1638 rfl 0 (by decide) (hts _ wi_714) (fun _ h9 => h9) rfl de_M_fails_17 ?_
    refine nx_if_eq (a := μ.er) (tgt := 27) hx hb (by omega) de_M_fails_20 (by decide) (fun c_1640 => ?_) (fun c_1640 => ?_)
    · refine lv_iconst (v := nI 0) hx hb de_M_fails_27 (by decide) ?_
      exact dk_zret hQ hx hb hr hlocks hP hS (Nat.le_refl _) (Nat.le_refl _) (by decide +kernel) (⟨by rw [e9]; exact bo_of0 (by simp; omega), by rw [e9]; exact hm, dk_fr.rf⟩) de_M_fails_28
    · refine lv_iconst (v := nI 1) hx hb de_M_fails_23 (by decide) ?_
      refine lv_goto (tgt := 28) hx hb de_M_fails_24 (by decide) ?_
      exact dk_zret hQ hx hb hr hlocks hP hS (Nat.le_refl _) (Nat.le_refl _) (by decide +kernel) (⟨by rw [e9]; exact bo_of1 (by simp; omega), by rw [e9]; exact hm, dk_fr.rf⟩) de_M_fails_28
  · refine lv_aload_n hx hb de_M_fails_4 rfl (lv_at hl 0 rfl) ?_
    refine dk_get (a := h) (v := .int (nI μ.er)) (C := kn_M) (T := kt_M) (N := 22) hx hb hts ki_M hown hK hP hh_1638 rfl 0 (by decide) (hts _ wi_714) (fun _ h9 => h9) rfl de_M_fails_5 ?_
    refine nx_if_ne (a := μ.er) (tgt := 16) hx hb (by omega) de_M_fails_8 (by decide) (fun c_1641 => ?_) (fun c_1641 => ?_)
    · have e9 : fa_e b c9 μ.er = μ.er := fa_0 (Or.inr c_1641)
      refine lv_aload_n hx hb de_M_fails_16 rfl (lv_at hl 0 rfl) ?_
      refine dk_get (a := h) (v := .int (nI μ.er)) (C := kn_M) (T := kt_M) (N := 22) hx hb hts ki_M hown hK hP hh_1638 rfl 0 (by decide) (hts _ wi_714) (fun _ h9 => h9) rfl de_M_fails_17 ?_
      refine nx_if_eq (a := μ.er) (tgt := 27) hx hb (by omega) de_M_fails_20 (by decide) (fun c_1642 => ?_) (fun c_1642 => ?_)
      · exact absurd c_1642 (by omega)
      · refine lv_iconst (v := nI 1) hx hb de_M_fails_23 (by decide) ?_
        refine lv_goto (tgt := 28) hx hb de_M_fails_24 (by decide) ?_
        exact dk_zret hQ hx hb hr hlocks hP hS (Nat.le_refl _) (Nat.le_refl _) (by decide +kernel) (⟨by rw [e9]; exact bo_of1 (by simp; omega), by rw [e9]; exact hm, dk_fr.rf⟩) de_M_fails_28
    · have e9 : fa_e b c9 μ.er = c9 := fa_1 c_1639 c_1641
      refine lv_aload_n hx hb de_M_fails_11 rfl (lv_at hl 0 rfl) ?_
      refine lv_iload_n hx hb de_M_fails_12 rfl (lv_at hl 2 rfl) ?_
      refine dk_put (a := h) (v := .int (nI c9)) (ty := .int) (C := kn_M) (T := kt_M) (N := 22) hx hb hts ki_M ky_M kk_M kd_M hown hK hP hS hh_1638 rfl 0 (by decide) (hts _ wi_714) (fun _ h9 => h9) rfl (by decide +kernel) rfl rfl (Nat.le_of_ble_eq_true rfl) de_M_fails_13 (fun H locs w_1643 hw_1644 hP hS => ?_)
      have h_1645 : w_1643 h = some (100, .inr (cx_M, [.int (nI c9), .int (nI μ.n), .int (nI μ.sq), .int (nI μ.sf), .int (nI μ.rs), .int (rI μ.ba), .int (nI μ.pr), .int (nI μ.mi), .ref D.kf, .ref D.nf, .ref D.rf, .ref D.lf, .ref D.sv, .ref D.bk, .ref D.od, .ref D.vf, .ref D.bv, .ref D.df, .ref D.ss, .ref D.bd, .ref D.ks, .ref D.bt])) := dk_here hw_1644
      have h_1646 : w_1643 D.kf = some (101, dk_ci G 700 (fun i9 => nI (μ.kf i9))) := dk_keep hw_1644 hh_1638 hm.kf (by decide)
      have h_1647 : w_1643 D.nf = some (102, dk_ci G 700 (fun i9 => nI (μ.nf i9))) := dk_keep hw_1644 hh_1638 hm.nf (by decide)
      have h_1648 : w_1643 D.rf = some (103, dk_ci G 700 (fun i9 => rI (μ.rf i9))) := dk_keep hw_1644 hh_1638 hm.rf (by decide)
      have h_1649 : w_1643 D.lf = some (104, dk_ci G 5000 (fun i9 => rI (μ.lf i9))) := dk_keep hw_1644 hh_1638 hm.lf (by decide)
      have h_1650 : w_1643 D.sv = some (105, dk_ci G 6 (fun i9 => nI (μ.sv i9))) := dk_keep hw_1644 hh_1638 hm.sv (by decide)
      have h_1651 : w_1643 D.bk = some (106, dk_ci G 16 (fun i9 => nI (μ.bk i9))) := dk_keep hw_1644 hh_1638 hm.bk (by decide)
      have h_1652 : w_1643 D.od = some (107, dk_ci G 700 (fun i9 => nI (μ.od i9))) := dk_keep hw_1644 hh_1638 hm.od (by decide)
      have h_1653 : w_1643 D.vf = some (108, dk_cl G 700 (fun i9 => μ.vf i9)) := dk_keep hw_1644 hh_1638 hm.vf (by decide)
      have h_1654 : w_1643 D.bv = some (109, dk_cl G 16 (fun i9 => μ.bv i9)) := dk_keep hw_1644 hh_1638 hm.bv (by decide)
      have h_1655 : w_1643 D.df = some (110, dk_cz G 700 (fun i9 => bo_i (μ.df i9))) := dk_keep hw_1644 hh_1638 hm.df (by decide)
      have h_1656 : w_1643 D.ss = some (111, dk_cz G 6 (fun i9 => bo_i (μ.ss i9))) := dk_keep hw_1644 hh_1638 hm.ss (by decide)
      have h_1657 : w_1643 D.bd = some (112, dk_cz G 16 (fun i9 => bo_i (μ.bd i9))) := dk_keep hw_1644 hh_1638 hm.bd (by decide)
      have h_1658 : w_1643 D.ks = some (113, dk_cz G 700 (fun i9 => bo_i (μ.ks i9))) := dk_keep hw_1644 hh_1638 hm.ks (by decide)
      have h_1659 : w_1643 D.bt = some (114, dk_cz G 6000 (fun i9 => bo_i (μ.bt i9))) := dk_keep hw_1644 hh_1638 hm.bt (by decide)
      have hm_1660 : md_at G w_1643 h D (μ.er' c9) := ⟨h_1645, h_1646, h_1647, h_1648, h_1649, h_1650, h_1651, h_1652, h_1653, h_1654, h_1655, h_1656, h_1657, h_1658, h_1659⟩
      have hh_1661 : w_1643 h = some (100, .inr (cx_M, [.int (nI c9), .int (nI μ.n), .int (nI μ.sq), .int (nI μ.sf), .int (nI μ.rs), .int (rI μ.ba), .int (nI μ.pr), .int (nI μ.mi), .ref D.kf, .ref D.nf, .ref D.rf, .ref D.lf, .ref D.sv, .ref D.bk, .ref D.od, .ref D.vf, .ref D.bv, .ref D.df, .ref D.ss, .ref D.bd, .ref D.ks, .ref D.bt])) := hm_1660.o
      have ha_1662 : w_1643 D.kf = some (101, dk_ci G 700 (fun i9 => nI (μ.kf i9))) := hm_1660.kf
      have ha_1663 : w_1643 D.nf = some (102, dk_ci G 700 (fun i9 => nI (μ.nf i9))) := hm_1660.nf
      have ha_1664 : w_1643 D.rf = some (103, dk_ci G 700 (fun i9 => rI (μ.rf i9))) := hm_1660.rf
      have ha_1665 : w_1643 D.lf = some (104, dk_ci G 5000 (fun i9 => rI (μ.lf i9))) := hm_1660.lf
      have ha_1666 : w_1643 D.sv = some (105, dk_ci G 6 (fun i9 => nI (μ.sv i9))) := hm_1660.sv
      have ha_1667 : w_1643 D.bk = some (106, dk_ci G 16 (fun i9 => nI (μ.bk i9))) := hm_1660.bk
      have ha_1668 : w_1643 D.od = some (107, dk_ci G 700 (fun i9 => nI (μ.od i9))) := hm_1660.od
      have ha_1669 : w_1643 D.vf = some (108, dk_cl G 700 (fun i9 => μ.vf i9)) := hm_1660.vf
      have ha_1670 : w_1643 D.bv = some (109, dk_cl G 16 (fun i9 => μ.bv i9)) := hm_1660.bv
      have ha_1671 : w_1643 D.df = some (110, dk_cz G 700 (fun i9 => bo_i (μ.df i9))) := hm_1660.df
      have ha_1672 : w_1643 D.ss = some (111, dk_cz G 6 (fun i9 => bo_i (μ.ss i9))) := hm_1660.ss
      have ha_1673 : w_1643 D.bd = some (112, dk_cz G 16 (fun i9 => bo_i (μ.bd i9))) := hm_1660.bd
      have ha_1674 : w_1643 D.ks = some (113, dk_cz G 700 (fun i9 => bo_i (μ.ks i9))) := hm_1660.ks
      have ha_1675 : w_1643 D.bt = some (114, dk_cz G 6000 (fun i9 => bo_i (μ.bt i9))) := hm_1660.bt
      refine lv_aload_n hx hb de_M_fails_16 rfl (lv_at hl 0 rfl) ?_
      refine dk_get (a := h) (v := .int (nI c9)) (C := kn_M) (T := kt_M) (N := 22) hx hb hts ki_M hown hK hP hh_1661 rfl 0 (by decide) (hts _ wi_714) (fun _ h9 => h9) rfl de_M_fails_17 ?_
      refine nx_if_eq (a := c9) (tgt := 27) hx hb (by omega) de_M_fails_20 (by decide) (fun c_1676 => ?_) (fun c_1676 => ?_)
      · exact absurd c_1676 (by omega)
      · refine lv_iconst (v := nI 1) hx hb de_M_fails_23 (by decide) ?_
        refine lv_goto (tgt := 28) hx hb de_M_fails_24 (by decide) ?_
        exact dk_zret hQ hx hb hr hlocks hP hS (Nat.le_refl _) (Nat.le_refl _) (by decide +kernel) (⟨by rw [e9]; exact bo_of1 (by simp; omega), by rw [e9]; exact hm_1660, (dk_fr.rf).tr ((dk_fr.up (T := md_T) hh_1638 (by unfold md_T; omega)).eq hw_1644)⟩) de_M_fails_28
abbrev rm_M_inRun : Room := { frames := 0, cells := 0, slots := 0, locals := 0 }
set_option maxHeartbeats 4000000 in
set_option maxRecDepth 100000 in
theorem c_M_inRun (l : Launch) (G : dk_G) (w : dk_H) (h : Nat) (D : md_D) (μ : md_S) (hm : md_at G w h D μ) (hmo : md_ok μ) (o : Option Nat) (ho : ∀ r, o = some r → r < 2 ^ 31) : dk_Mi l my_M_inRun (wd_c my_M_inRun mb_M_inRun 4 (some .int)) rm_M_inRun G w [.ref h, .int (rI o)] (fun r w1 => r = nI (ct_f (fun k9 => decide (μ.rf k9 = o)) μ.n) ∧ w1 = w) 0 0 := by
  obtain ⟨ok1, ok2, ok3, ok4, ok5, ok6, ok7, ok8, ok9, ok10, ok11⟩ := id hmo
  refine dk_enter (lv := [(0, .ref h), (1, .int (rI o))]) (by decide) (Nat.le_of_ble_eq_true rfl) rfl (fun p e s m args below meth c ls Q hQ C hP hS hl => ?_)
  obtain ⟨hx, hb, hr, hml, hlocks, hown, hnm, hts, hE⟩ := C
  have hK := hE.1
  have hN := hE.2.1
  have hh_1677 : w h = some (100, .inr (cx_M, [.int (nI μ.er), .int (nI μ.n), .int (nI μ.sq), .int (nI μ.sf), .int (nI μ.rs), .int (rI μ.ba), .int (nI μ.pr), .int (nI μ.mi), .ref D.kf, .ref D.nf, .ref D.rf, .ref D.lf, .ref D.sv, .ref D.bk, .ref D.od, .ref D.vf, .ref D.bv, .ref D.df, .ref D.ss, .ref D.bd, .ref D.ks, .ref D.bt])) := hm.o
  refine lv_iconst (v := nI 0) hx hb de_M_inRun_0 (by decide) ?_
  refine lv_istore_n (lv' := [(2, .int (nI 0)), (0, .ref h), (1, .int (rI o))]) hx hb de_M_inRun_1 rfl hl (by decide) rfl (fun ls hl => ?_)
  refine lv_iconst (v := nI 0) hx hb de_M_inRun_2 (by decide) ?_
  refine lv_istore_n (lv' := [(3, .int (nI 0)), (2, .int (nI 0)), (0, .ref h), (1, .int (rI o))]) hx hb de_M_inRun_3 rfl hl (by decide) rfl (fun ls hl => ?_)
  have lp : ∀ (zk : Nat) (i : Nat) (m9 : Nat), μ.n - i < zk → (i ≤ μ.n) → (m9 = ct_f (fun k9 => decide (μ.rf k9 = o)) i) → ∀ (ls : Array Slot), lv_has ls 4 [(0, .ref h), (1, .int (rI o)), (2, .int (nI m9)), (3, .int (nI i))] → W p l e rm_M_inRun s m args below meth c s.heap [] 0 0 Q (F0 m 4 ls []) := by
    intro zk
    induction zk with
    | zero =>
      intro i m9 hk
      exact absurd hk (by omega)
    | succ zk ih =>
      intro i m9 hk hi hm9
      intro ls hl
      refine lv_iload_n hx hb de_M_inRun_4 rfl (lv_at hl 3 rfl) ?_
      refine lv_aload_n hx hb de_M_inRun_5 rfl (lv_at hl 0 rfl) ?_
      refine dk_get (a := h) (v := .int (nI μ.n)) (C := kn_M) (T := kt_M) (N := 22) hx hb hts ki_M hown hK hP hh_1677 rfl 1 (by decide) (hts _ wi_715) (fun _ h9 => h9) rfl de_M_inRun_6 ?_
      refine nx_icmp_ge (a := i) (b := μ.n) (tgt := 31) hx hb (by omega) (by omega) de_M_inRun_9 (by decide) (fun c_1678 => ?_) (fun c_1678 => ?_)
      · have e9 : i = μ.n := by omega
        refine lv_iload_n hx hb de_M_inRun_31 rfl (lv_at hl 2 rfl) ?_
        exact dk_iret hQ hx hb hr hlocks hP hS (Nat.le_refl _) (Nat.le_refl _) (⟨by rw [hm9, e9], rfl⟩) de_M_inRun_32
      · have hre := rI_eq (a := μ.rf i) (b := o) (fun r hr => by have := ok3 i r hr; omega) ho
        refine lv_aload_n hx hb de_M_inRun_12 rfl (lv_at hl 0 rfl) ?_
        refine dk_get (a := h) (v := .ref D.rf) (C := kn_M) (T := kt_M) (N := 22) hx hb hts ki_M hown hK hP hh_1677 rfl 10 (by decide) (hts _ wi_724) (fun _ h9 => h9) rfl de_M_inRun_13 ?_
        refine lv_iload_n hx hb de_M_inRun_16 rfl (lv_at hl 3 rfl) ?_
        refine dk_iald (a := D.rf) hx hb hK hP hm.rf i rfl (by omega) (by omega) de_M_inRun_17 ?_
        refine lv_iload_n hx hb de_M_inRun_18 rfl (lv_at hl 1 rfl) ?_
        refine lv_icmp_ne (tgt := 25) hx hb de_M_inRun_19 (by decide) (fun c_1679 => ?_) (fun c_1679 => ?_)
        · have e8 : (fun k9 => decide (μ.rf k9 = o)) i = false := decide_eq_false (fun z => c_1679 (hre.mpr z))
          refine lv_iinc (v := nI (i + 1)) (lv' := [(3, .int (nI (i + 1))), (0, .ref h), (1, .int (rI o)), (2, .int (nI m9))]) hx hb de_M_inRun_25 hl (k := 3) rfl (nx_inc i) (by decide) rfl (fun ls hl => ?_)
          refine lv_goto (tgt := 4) hx hb de_M_inRun_28 (by decide) ?_
          exact ih (i + 1) m9 (by omega) (by omega) (by rw [ct_n e8, hm9]) _ (lv_sub hl [1, 2, 3, 0] rfl)
        · have e8 : (fun k9 => decide (μ.rf k9 = o)) i = true := decide_eq_true (hre.mp c_1679)
          refine lv_iinc (v := nI (m9 + 1)) (lv' := [(2, .int (nI (m9 + 1))), (0, .ref h), (1, .int (rI o)), (3, .int (nI i))]) hx hb de_M_inRun_22 hl (k := 2) rfl (nx_inc m9) (by decide) rfl (fun ls hl => ?_)
          refine lv_iinc (v := nI (i + 1)) (lv' := [(3, .int (nI (i + 1))), (2, .int (nI (m9 + 1))), (0, .ref h), (1, .int (rI o))]) hx hb de_M_inRun_25 hl (k := 3) rfl (nx_inc i) (by decide) rfl (fun ls hl => ?_)
          refine lv_goto (tgt := 4) hx hb de_M_inRun_28 (by decide) ?_
          exact ih (i + 1) (m9 + 1) (by omega) (by omega) (by rw [ct_y e8, hm9]) _ (lv_sub hl [2, 3, 1, 0] rfl)
  exact lp (μ.n + 1) 0 0 (by omega) (Nat.zero_le _) rfl _ (lv_sub hl [2, 3, 1, 0] rfl)
abbrev rm_M_runsOf : Room := { frames := 0, cells := 0, slots := 0, locals := 0 }
set_option maxHeartbeats 4000000 in
set_option maxRecDepth 100000 in
theorem c_M_runsOf (l : Launch) (G : dk_G) (w : dk_H) (h : Nat) (D : md_D) (μ : md_S) (hm : md_at G w h D μ) (hmo : md_ok μ) (o : Option Nat) (ho : ∀ r, o = some r → r < 2 ^ 31) : dk_Mi l my_M_runsOf (wd_c my_M_runsOf mb_M_runsOf 4 (some .int)) rm_M_runsOf G w [.ref h, .int (rI o)] (fun r w1 => r = nI (ct_f (fun k9 => decide (μ.lf k9 = o)) μ.rs) ∧ w1 = w) 0 0 := by
  obtain ⟨ok1, ok2, ok3, ok4, ok5, ok6, ok7, ok8, ok9, ok10, ok11⟩ := id hmo
  refine dk_enter (lv := [(0, .ref h), (1, .int (rI o))]) (by decide) (Nat.le_of_ble_eq_true rfl) rfl (fun p e s m args below meth c ls Q hQ C hP hS hl => ?_)
  obtain ⟨hx, hb, hr, hml, hlocks, hown, hnm, hts, hE⟩ := C
  have hK := hE.1
  have hN := hE.2.1
  have hh_1680 : w h = some (100, .inr (cx_M, [.int (nI μ.er), .int (nI μ.n), .int (nI μ.sq), .int (nI μ.sf), .int (nI μ.rs), .int (rI μ.ba), .int (nI μ.pr), .int (nI μ.mi), .ref D.kf, .ref D.nf, .ref D.rf, .ref D.lf, .ref D.sv, .ref D.bk, .ref D.od, .ref D.vf, .ref D.bv, .ref D.df, .ref D.ss, .ref D.bd, .ref D.ks, .ref D.bt])) := hm.o
  refine lv_iconst (v := nI 0) hx hb de_M_runsOf_0 (by decide) ?_
  refine lv_istore_n (lv' := [(2, .int (nI 0)), (0, .ref h), (1, .int (rI o))]) hx hb de_M_runsOf_1 rfl hl (by decide) rfl (fun ls hl => ?_)
  refine lv_iconst (v := nI 0) hx hb de_M_runsOf_2 (by decide) ?_
  refine lv_istore_n (lv' := [(3, .int (nI 0)), (2, .int (nI 0)), (0, .ref h), (1, .int (rI o))]) hx hb de_M_runsOf_3 rfl hl (by decide) rfl (fun ls hl => ?_)
  have lp : ∀ (zk : Nat) (i : Nat) (m9 : Nat), μ.rs - i < zk → (i ≤ μ.rs) → (m9 = ct_f (fun k9 => decide (μ.lf k9 = o)) i) → ∀ (ls : Array Slot), lv_has ls 4 [(0, .ref h), (1, .int (rI o)), (2, .int (nI m9)), (3, .int (nI i))] → W p l e rm_M_runsOf s m args below meth c s.heap [] 0 0 Q (F0 m 4 ls []) := by
    intro zk
    induction zk with
    | zero =>
      intro i m9 hk
      exact absurd hk (by omega)
    | succ zk ih =>
      intro i m9 hk hi hm9
      intro ls hl
      refine lv_iload_n hx hb de_M_runsOf_4 rfl (lv_at hl 3 rfl) ?_
      refine lv_aload_n hx hb de_M_runsOf_5 rfl (lv_at hl 0 rfl) ?_
      refine dk_get (a := h) (v := .int (nI μ.rs)) (C := kn_M) (T := kt_M) (N := 22) hx hb hts ki_M hown hK hP hh_1680 rfl 4 (by decide) (hts _ wi_718) (fun _ h9 => h9) rfl de_M_runsOf_6 ?_
      refine nx_icmp_ge (a := i) (b := μ.rs) (tgt := 31) hx hb (by omega) (by omega) de_M_runsOf_9 (by decide) (fun c_1681 => ?_) (fun c_1681 => ?_)
      · have e9 : i = μ.rs := by omega
        refine lv_iload_n hx hb de_M_runsOf_31 rfl (lv_at hl 2 rfl) ?_
        exact dk_iret hQ hx hb hr hlocks hP hS (Nat.le_refl _) (Nat.le_refl _) (⟨by rw [hm9, e9], rfl⟩) de_M_runsOf_32
      · have hre := rI_eq (a := μ.lf i) (b := o) (fun r hr => by have := ok4 i r hr; omega) ho
        refine lv_aload_n hx hb de_M_runsOf_12 rfl (lv_at hl 0 rfl) ?_
        refine dk_get (a := h) (v := .ref D.lf) (C := kn_M) (T := kt_M) (N := 22) hx hb hts ki_M hown hK hP hh_1680 rfl 11 (by decide) (hts _ wi_725) (fun _ h9 => h9) rfl de_M_runsOf_13 ?_
        refine lv_iload_n hx hb de_M_runsOf_16 rfl (lv_at hl 3 rfl) ?_
        refine dk_iald (a := D.lf) hx hb hK hP hm.lf i rfl (by omega) (by omega) de_M_runsOf_17 ?_
        refine lv_iload_n hx hb de_M_runsOf_18 rfl (lv_at hl 1 rfl) ?_
        refine lv_icmp_ne (tgt := 25) hx hb de_M_runsOf_19 (by decide) (fun c_1682 => ?_) (fun c_1682 => ?_)
        · have e8 : (fun k9 => decide (μ.lf k9 = o)) i = false := decide_eq_false (fun z => c_1682 (hre.mpr z))
          refine lv_iinc (v := nI (i + 1)) (lv' := [(3, .int (nI (i + 1))), (0, .ref h), (1, .int (rI o)), (2, .int (nI m9))]) hx hb de_M_runsOf_25 hl (k := 3) rfl (nx_inc i) (by decide) rfl (fun ls hl => ?_)
          refine lv_goto (tgt := 4) hx hb de_M_runsOf_28 (by decide) ?_
          exact ih (i + 1) m9 (by omega) (by omega) (by rw [ct_n e8, hm9]) _ (lv_sub hl [1, 2, 3, 0] rfl)
        · have e8 : (fun k9 => decide (μ.lf k9 = o)) i = true := decide_eq_true (hre.mp c_1682)
          refine lv_iinc (v := nI (m9 + 1)) (lv' := [(2, .int (nI (m9 + 1))), (0, .ref h), (1, .int (rI o)), (3, .int (nI i))]) hx hb de_M_runsOf_22 hl (k := 2) rfl (nx_inc m9) (by decide) rfl (fun ls hl => ?_)
          refine lv_iinc (v := nI (i + 1)) (lv' := [(3, .int (nI (i + 1))), (2, .int (nI (m9 + 1))), (0, .ref h), (1, .int (rI o))]) hx hb de_M_runsOf_25 hl (k := 3) rfl (nx_inc i) (by decide) rfl (fun ls hl => ?_)
          refine lv_goto (tgt := 4) hx hb de_M_runsOf_28 (by decide) ?_
          exact ih (i + 1) (m9 + 1) (by omega) (by omega) (by rw [ct_y e8, hm9]) _ (lv_sub hl [2, 3, 1, 0] rfl)
  exact lp (μ.rs + 1) 0 0 (by omega) (Nat.zero_le _) rfl _ (lv_sub hl [2, 3, 1, 0] rfl)
abbrev rm_M_write : Room := { frames := 0, cells := 0, slots := 0, locals := 0 }
set_option maxHeartbeats 4000000 in
set_option maxRecDepth 100000 in
theorem c_M_write (l : Launch) (G : dk_G) (w : dk_H) (h : Nat) (D : md_D) (μ : md_S) (hm : md_at G w h D μ) (hmo : md_ok μ) (k : Nat) (z : Int64) (b : Bool) : dk_Mv l my_M_write (wd_c my_M_write mb_M_write 5 none) rm_M_write G w [.ref h, .int (nI k), .long z, .int (bo_i b)] (fun w1 => md_at G w1 h D (md_w μ k z b) ∧ dk_fr md_T w w1) 0 0 := by
  obtain ⟨ok1, ok2, ok3, ok4, ok5, ok6, ok7, ok8, ok9, ok10, ok11⟩ := id hmo
  refine dk_enter (lv := [(0, .ref h), (1, .int (nI k)), (2, .long z), (4, .int (bo_i b))]) (by decide) (Nat.le_of_ble_eq_true rfl) rfl (fun p e s m args below meth c ls Q hQ C hP hS hl => ?_)
  obtain ⟨hx, hb, hr, hml, hlocks, hown, hnm, hts, hE⟩ := C
  have hK := hE.1
  have hN := hE.2.1
  have hh_1683 : w h = some (100, .inr (cx_M, [.int (nI μ.er), .int (nI μ.n), .int (nI μ.sq), .int (nI μ.sf), .int (nI μ.rs), .int (rI μ.ba), .int (nI μ.pr), .int (nI μ.mi), .ref D.kf, .ref D.nf, .ref D.rf, .ref D.lf, .ref D.sv, .ref D.bk, .ref D.od, .ref D.vf, .ref D.bv, .ref D.df, .ref D.ss, .ref D.bd, .ref D.ks, .ref D.bt])) := hm.o
  refine lv_aload_n hx hb de_M_write_0 rfl (lv_at hl 0 rfl) ?_
  refine dk_get (a := h) (v := .ref D.kf) (C := kn_M) (T := kt_M) (N := 22) hx hb hts ki_M hown hK hP hh_1683 rfl 8 (by decide) (hts _ wi_722) (fun _ h9 => h9) rfl de_M_write_1 ?_
  refine lv_aload_n hx hb de_M_write_4 rfl (lv_at hl 0 rfl) ?_
  refine dk_get (a := h) (v := .int (nI μ.n)) (C := kn_M) (T := kt_M) (N := 22) hx hb hts ki_M hown hK hP hh_1683 rfl 1 (by decide) (hts _ wi_715) (fun _ h9 => h9) rfl de_M_write_5 ?_
  refine lv_iload_n hx hb de_M_write_8 rfl (lv_at hl 1 rfl) ?_
  refine dk_iast (a := D.kf) (x := (nI k)) hx hb hK hP hS hm.kf μ.n rfl (by omega) (by omega) de_M_write_9 (fun H locs w_1684 hw_1685 hP hS => ?_)
  rw [up_nI] at hw_1685
  have h_1686 : w_1684 D.kf = some (101, dk_ci G 700 (fun i9 => nI ((va_up μ.kf μ.n k) i9))) := dk_here hw_1685
  have h_1687 : w_1684 h = some (100, .inr (cx_M, [.int (nI μ.er), .int (nI μ.n), .int (nI μ.sq), .int (nI μ.sf), .int (nI μ.rs), .int (rI μ.ba), .int (nI μ.pr), .int (nI μ.mi), .ref D.kf, .ref D.nf, .ref D.rf, .ref D.lf, .ref D.sv, .ref D.bk, .ref D.od, .ref D.vf, .ref D.bv, .ref D.df, .ref D.ss, .ref D.bd, .ref D.ks, .ref D.bt])) := dk_keep hw_1685 hm.kf hh_1683 (by decide)
  have h_1688 : w_1684 D.nf = some (102, dk_ci G 700 (fun i9 => nI (μ.nf i9))) := dk_keep hw_1685 hm.kf hm.nf (by decide)
  have h_1689 : w_1684 D.rf = some (103, dk_ci G 700 (fun i9 => rI (μ.rf i9))) := dk_keep hw_1685 hm.kf hm.rf (by decide)
  have h_1690 : w_1684 D.lf = some (104, dk_ci G 5000 (fun i9 => rI (μ.lf i9))) := dk_keep hw_1685 hm.kf hm.lf (by decide)
  have h_1691 : w_1684 D.sv = some (105, dk_ci G 6 (fun i9 => nI (μ.sv i9))) := dk_keep hw_1685 hm.kf hm.sv (by decide)
  have h_1692 : w_1684 D.bk = some (106, dk_ci G 16 (fun i9 => nI (μ.bk i9))) := dk_keep hw_1685 hm.kf hm.bk (by decide)
  have h_1693 : w_1684 D.od = some (107, dk_ci G 700 (fun i9 => nI (μ.od i9))) := dk_keep hw_1685 hm.kf hm.od (by decide)
  have h_1694 : w_1684 D.vf = some (108, dk_cl G 700 (fun i9 => μ.vf i9)) := dk_keep hw_1685 hm.kf hm.vf (by decide)
  have h_1695 : w_1684 D.bv = some (109, dk_cl G 16 (fun i9 => μ.bv i9)) := dk_keep hw_1685 hm.kf hm.bv (by decide)
  have h_1696 : w_1684 D.df = some (110, dk_cz G 700 (fun i9 => bo_i (μ.df i9))) := dk_keep hw_1685 hm.kf hm.df (by decide)
  have h_1697 : w_1684 D.ss = some (111, dk_cz G 6 (fun i9 => bo_i (μ.ss i9))) := dk_keep hw_1685 hm.kf hm.ss (by decide)
  have h_1698 : w_1684 D.bd = some (112, dk_cz G 16 (fun i9 => bo_i (μ.bd i9))) := dk_keep hw_1685 hm.kf hm.bd (by decide)
  have h_1699 : w_1684 D.ks = some (113, dk_cz G 700 (fun i9 => bo_i (μ.ks i9))) := dk_keep hw_1685 hm.kf hm.ks (by decide)
  have h_1700 : w_1684 D.bt = some (114, dk_cz G 6000 (fun i9 => bo_i (μ.bt i9))) := dk_keep hw_1685 hm.kf hm.bt (by decide)
  refine lv_aload_n hx hb de_M_write_10 rfl (lv_at hl 0 rfl) ?_
  refine dk_get (a := h) (v := .ref D.nf) (C := kn_M) (T := kt_M) (N := 22) hx hb hts ki_M hown hK hP h_1687 rfl 9 (by decide) (hts _ wi_723) (fun _ h9 => h9) rfl de_M_write_11 ?_
  refine lv_aload_n hx hb de_M_write_14 rfl (lv_at hl 0 rfl) ?_
  refine dk_get (a := h) (v := .int (nI μ.n)) (C := kn_M) (T := kt_M) (N := 22) hx hb hts ki_M hown hK hP h_1687 rfl 1 (by decide) (hts _ wi_715) (fun _ h9 => h9) rfl de_M_write_15 ?_
  refine lv_aload_n hx hb de_M_write_18 rfl (lv_at hl 0 rfl) ?_
  refine lv_dup hx hb de_M_write_19 rfl ?_
  refine dk_get (a := h) (v := .int (nI μ.sq)) (C := kn_M) (T := kt_M) (N := 22) hx hb hts ki_M hown hK hP h_1687 rfl 2 (by decide) (hts _ wi_716) (fun _ h9 => h9) rfl de_M_write_20 ?_
  refine lv_iconst (v := nI 1) hx hb de_M_write_23 (by decide) ?_
  refine nx_iadd (a := μ.sq) (b := 1) hx hb de_M_write_24 ?_
  refine lv_dup_x1 hx hb de_M_write_25 rfl rfl ?_
  refine dk_put (a := h) (v := .int (nI (μ.sq + 1))) (ty := .int) (C := kn_M) (T := kt_M) (N := 22) hx hb hts ki_M ky_M kk_M kd_M hown hK hP hS h_1687 rfl 2 (by decide) (hts _ wi_716) (fun _ h9 => h9) rfl (by decide +kernel) rfl rfl (Nat.le_of_ble_eq_true rfl) de_M_write_26 (fun H locs w_1701 hw_1702 hP hS => ?_)
  have h_1703 : w_1701 h = some (100, .inr (cx_M, [.int (nI μ.er), .int (nI μ.n), .int (nI (μ.sq + 1)), .int (nI μ.sf), .int (nI μ.rs), .int (rI μ.ba), .int (nI μ.pr), .int (nI μ.mi), .ref D.kf, .ref D.nf, .ref D.rf, .ref D.lf, .ref D.sv, .ref D.bk, .ref D.od, .ref D.vf, .ref D.bv, .ref D.df, .ref D.ss, .ref D.bd, .ref D.ks, .ref D.bt])) := dk_here hw_1702
  have h_1704 : w_1701 D.kf = some (101, dk_ci G 700 (fun i9 => nI ((va_up μ.kf μ.n k) i9))) := dk_keep hw_1702 h_1687 h_1686 (by decide)
  have h_1705 : w_1701 D.nf = some (102, dk_ci G 700 (fun i9 => nI (μ.nf i9))) := dk_keep hw_1702 h_1687 h_1688 (by decide)
  have h_1706 : w_1701 D.rf = some (103, dk_ci G 700 (fun i9 => rI (μ.rf i9))) := dk_keep hw_1702 h_1687 h_1689 (by decide)
  have h_1707 : w_1701 D.lf = some (104, dk_ci G 5000 (fun i9 => rI (μ.lf i9))) := dk_keep hw_1702 h_1687 h_1690 (by decide)
  have h_1708 : w_1701 D.sv = some (105, dk_ci G 6 (fun i9 => nI (μ.sv i9))) := dk_keep hw_1702 h_1687 h_1691 (by decide)
  have h_1709 : w_1701 D.bk = some (106, dk_ci G 16 (fun i9 => nI (μ.bk i9))) := dk_keep hw_1702 h_1687 h_1692 (by decide)
  have h_1710 : w_1701 D.od = some (107, dk_ci G 700 (fun i9 => nI (μ.od i9))) := dk_keep hw_1702 h_1687 h_1693 (by decide)
  have h_1711 : w_1701 D.vf = some (108, dk_cl G 700 (fun i9 => μ.vf i9)) := dk_keep hw_1702 h_1687 h_1694 (by decide)
  have h_1712 : w_1701 D.bv = some (109, dk_cl G 16 (fun i9 => μ.bv i9)) := dk_keep hw_1702 h_1687 h_1695 (by decide)
  have h_1713 : w_1701 D.df = some (110, dk_cz G 700 (fun i9 => bo_i (μ.df i9))) := dk_keep hw_1702 h_1687 h_1696 (by decide)
  have h_1714 : w_1701 D.ss = some (111, dk_cz G 6 (fun i9 => bo_i (μ.ss i9))) := dk_keep hw_1702 h_1687 h_1697 (by decide)
  have h_1715 : w_1701 D.bd = some (112, dk_cz G 16 (fun i9 => bo_i (μ.bd i9))) := dk_keep hw_1702 h_1687 h_1698 (by decide)
  have h_1716 : w_1701 D.ks = some (113, dk_cz G 700 (fun i9 => bo_i (μ.ks i9))) := dk_keep hw_1702 h_1687 h_1699 (by decide)
  have h_1717 : w_1701 D.bt = some (114, dk_cz G 6000 (fun i9 => bo_i (μ.bt i9))) := dk_keep hw_1702 h_1687 h_1700 (by decide)
  refine dk_iast (a := D.nf) (x := (nI (μ.sq + 1))) hx hb hK hP hS h_1705 μ.n rfl (by omega) (by omega) de_M_write_29 (fun H locs w_1718 hw_1719 hP hS => ?_)
  rw [up_nI] at hw_1719
  have h_1720 : w_1718 D.nf = some (102, dk_ci G 700 (fun i9 => nI ((va_up μ.nf μ.n (μ.sq + 1)) i9))) := dk_here hw_1719
  have h_1721 : w_1718 h = some (100, .inr (cx_M, [.int (nI μ.er), .int (nI μ.n), .int (nI (μ.sq + 1)), .int (nI μ.sf), .int (nI μ.rs), .int (rI μ.ba), .int (nI μ.pr), .int (nI μ.mi), .ref D.kf, .ref D.nf, .ref D.rf, .ref D.lf, .ref D.sv, .ref D.bk, .ref D.od, .ref D.vf, .ref D.bv, .ref D.df, .ref D.ss, .ref D.bd, .ref D.ks, .ref D.bt])) := dk_keep hw_1719 h_1705 h_1703 (by decide)
  have h_1722 : w_1718 D.kf = some (101, dk_ci G 700 (fun i9 => nI ((va_up μ.kf μ.n k) i9))) := dk_keep hw_1719 h_1705 h_1704 (by decide)
  have h_1723 : w_1718 D.rf = some (103, dk_ci G 700 (fun i9 => rI (μ.rf i9))) := dk_keep hw_1719 h_1705 h_1706 (by decide)
  have h_1724 : w_1718 D.lf = some (104, dk_ci G 5000 (fun i9 => rI (μ.lf i9))) := dk_keep hw_1719 h_1705 h_1707 (by decide)
  have h_1725 : w_1718 D.sv = some (105, dk_ci G 6 (fun i9 => nI (μ.sv i9))) := dk_keep hw_1719 h_1705 h_1708 (by decide)
  have h_1726 : w_1718 D.bk = some (106, dk_ci G 16 (fun i9 => nI (μ.bk i9))) := dk_keep hw_1719 h_1705 h_1709 (by decide)
  have h_1727 : w_1718 D.od = some (107, dk_ci G 700 (fun i9 => nI (μ.od i9))) := dk_keep hw_1719 h_1705 h_1710 (by decide)
  have h_1728 : w_1718 D.vf = some (108, dk_cl G 700 (fun i9 => μ.vf i9)) := dk_keep hw_1719 h_1705 h_1711 (by decide)
  have h_1729 : w_1718 D.bv = some (109, dk_cl G 16 (fun i9 => μ.bv i9)) := dk_keep hw_1719 h_1705 h_1712 (by decide)
  have h_1730 : w_1718 D.df = some (110, dk_cz G 700 (fun i9 => bo_i (μ.df i9))) := dk_keep hw_1719 h_1705 h_1713 (by decide)
  have h_1731 : w_1718 D.ss = some (111, dk_cz G 6 (fun i9 => bo_i (μ.ss i9))) := dk_keep hw_1719 h_1705 h_1714 (by decide)
  have h_1732 : w_1718 D.bd = some (112, dk_cz G 16 (fun i9 => bo_i (μ.bd i9))) := dk_keep hw_1719 h_1705 h_1715 (by decide)
  have h_1733 : w_1718 D.ks = some (113, dk_cz G 700 (fun i9 => bo_i (μ.ks i9))) := dk_keep hw_1719 h_1705 h_1716 (by decide)
  have h_1734 : w_1718 D.bt = some (114, dk_cz G 6000 (fun i9 => bo_i (μ.bt i9))) := dk_keep hw_1719 h_1705 h_1717 (by decide)
  refine lv_aload_n hx hb de_M_write_30 rfl (lv_at hl 0 rfl) ?_
  refine dk_get (a := h) (v := .ref D.vf) (C := kn_M) (T := kt_M) (N := 22) hx hb hts ki_M hown hK hP h_1721 rfl 15 (by decide) (hts _ wi_729) (fun _ h9 => h9) rfl de_M_write_31 ?_
  refine lv_aload_n hx hb de_M_write_34 rfl (lv_at hl 0 rfl) ?_
  refine dk_get (a := h) (v := .int (nI μ.n)) (C := kn_M) (T := kt_M) (N := 22) hx hb hts ki_M hown hK hP h_1721 rfl 1 (by decide) (hts _ wi_715) (fun _ h9 => h9) rfl de_M_write_35 ?_
  refine lv_lload_n hx hb de_M_write_38 rfl (lv_at hl 2 rfl) ?_
  refine dk_last (a := D.vf) (x := z) hx hb hK hP hS h_1728 μ.n rfl (by omega) (by omega) de_M_write_39 (fun H locs w_1735 hw_1736 hP hS => ?_)
  rw [up_L] at hw_1736
  have h_1737 : w_1735 D.vf = some (108, dk_cl G 700 (fun i9 => (va_up μ.vf μ.n z) i9)) := dk_here hw_1736
  have h_1738 : w_1735 h = some (100, .inr (cx_M, [.int (nI μ.er), .int (nI μ.n), .int (nI (μ.sq + 1)), .int (nI μ.sf), .int (nI μ.rs), .int (rI μ.ba), .int (nI μ.pr), .int (nI μ.mi), .ref D.kf, .ref D.nf, .ref D.rf, .ref D.lf, .ref D.sv, .ref D.bk, .ref D.od, .ref D.vf, .ref D.bv, .ref D.df, .ref D.ss, .ref D.bd, .ref D.ks, .ref D.bt])) := dk_keep hw_1736 h_1728 h_1721 (by decide)
  have h_1739 : w_1735 D.kf = some (101, dk_ci G 700 (fun i9 => nI ((va_up μ.kf μ.n k) i9))) := dk_keep hw_1736 h_1728 h_1722 (by decide)
  have h_1740 : w_1735 D.nf = some (102, dk_ci G 700 (fun i9 => nI ((va_up μ.nf μ.n (μ.sq + 1)) i9))) := dk_keep hw_1736 h_1728 h_1720 (by decide)
  have h_1741 : w_1735 D.rf = some (103, dk_ci G 700 (fun i9 => rI (μ.rf i9))) := dk_keep hw_1736 h_1728 h_1723 (by decide)
  have h_1742 : w_1735 D.lf = some (104, dk_ci G 5000 (fun i9 => rI (μ.lf i9))) := dk_keep hw_1736 h_1728 h_1724 (by decide)
  have h_1743 : w_1735 D.sv = some (105, dk_ci G 6 (fun i9 => nI (μ.sv i9))) := dk_keep hw_1736 h_1728 h_1725 (by decide)
  have h_1744 : w_1735 D.bk = some (106, dk_ci G 16 (fun i9 => nI (μ.bk i9))) := dk_keep hw_1736 h_1728 h_1726 (by decide)
  have h_1745 : w_1735 D.od = some (107, dk_ci G 700 (fun i9 => nI (μ.od i9))) := dk_keep hw_1736 h_1728 h_1727 (by decide)
  have h_1746 : w_1735 D.bv = some (109, dk_cl G 16 (fun i9 => μ.bv i9)) := dk_keep hw_1736 h_1728 h_1729 (by decide)
  have h_1747 : w_1735 D.df = some (110, dk_cz G 700 (fun i9 => bo_i (μ.df i9))) := dk_keep hw_1736 h_1728 h_1730 (by decide)
  have h_1748 : w_1735 D.ss = some (111, dk_cz G 6 (fun i9 => bo_i (μ.ss i9))) := dk_keep hw_1736 h_1728 h_1731 (by decide)
  have h_1749 : w_1735 D.bd = some (112, dk_cz G 16 (fun i9 => bo_i (μ.bd i9))) := dk_keep hw_1736 h_1728 h_1732 (by decide)
  have h_1750 : w_1735 D.ks = some (113, dk_cz G 700 (fun i9 => bo_i (μ.ks i9))) := dk_keep hw_1736 h_1728 h_1733 (by decide)
  have h_1751 : w_1735 D.bt = some (114, dk_cz G 6000 (fun i9 => bo_i (μ.bt i9))) := dk_keep hw_1736 h_1728 h_1734 (by decide)
  refine lv_aload_n hx hb de_M_write_40 rfl (lv_at hl 0 rfl) ?_
  refine dk_get (a := h) (v := .ref D.df) (C := kn_M) (T := kt_M) (N := 22) hx hb hts ki_M hown hK hP h_1738 rfl 17 (by decide) (hts _ wi_731) (fun _ h9 => h9) rfl de_M_write_41 ?_
  refine lv_aload_n hx hb de_M_write_44 rfl (lv_at hl 0 rfl) ?_
  refine dk_get (a := h) (v := .int (nI μ.n)) (C := kn_M) (T := kt_M) (N := 22) hx hb hts ki_M hown hK hP h_1738 rfl 1 (by decide) (hts _ wi_715) (fun _ h9 => h9) rfl de_M_write_45 ?_
  refine lv_iload hx hb de_M_write_48 (lv_at hl 3 rfl) ?_
  refine dk_zast (a := D.df) (x := (bo_i b)) hx hb hK hP hS h_1747 μ.n rfl (by omega) (by omega) (bo_vn b) de_M_write_50 (fun H locs w_1752 hw_1753 hP hS => ?_)
  rw [up_bo] at hw_1753
  have h_1754 : w_1752 D.df = some (110, dk_cz G 700 (fun i9 => bo_i ((va_up μ.df μ.n b) i9))) := dk_here hw_1753
  have h_1755 : w_1752 h = some (100, .inr (cx_M, [.int (nI μ.er), .int (nI μ.n), .int (nI (μ.sq + 1)), .int (nI μ.sf), .int (nI μ.rs), .int (rI μ.ba), .int (nI μ.pr), .int (nI μ.mi), .ref D.kf, .ref D.nf, .ref D.rf, .ref D.lf, .ref D.sv, .ref D.bk, .ref D.od, .ref D.vf, .ref D.bv, .ref D.df, .ref D.ss, .ref D.bd, .ref D.ks, .ref D.bt])) := dk_keep hw_1753 h_1747 h_1738 (by decide)
  have h_1756 : w_1752 D.kf = some (101, dk_ci G 700 (fun i9 => nI ((va_up μ.kf μ.n k) i9))) := dk_keep hw_1753 h_1747 h_1739 (by decide)
  have h_1757 : w_1752 D.nf = some (102, dk_ci G 700 (fun i9 => nI ((va_up μ.nf μ.n (μ.sq + 1)) i9))) := dk_keep hw_1753 h_1747 h_1740 (by decide)
  have h_1758 : w_1752 D.rf = some (103, dk_ci G 700 (fun i9 => rI (μ.rf i9))) := dk_keep hw_1753 h_1747 h_1741 (by decide)
  have h_1759 : w_1752 D.lf = some (104, dk_ci G 5000 (fun i9 => rI (μ.lf i9))) := dk_keep hw_1753 h_1747 h_1742 (by decide)
  have h_1760 : w_1752 D.sv = some (105, dk_ci G 6 (fun i9 => nI (μ.sv i9))) := dk_keep hw_1753 h_1747 h_1743 (by decide)
  have h_1761 : w_1752 D.bk = some (106, dk_ci G 16 (fun i9 => nI (μ.bk i9))) := dk_keep hw_1753 h_1747 h_1744 (by decide)
  have h_1762 : w_1752 D.od = some (107, dk_ci G 700 (fun i9 => nI (μ.od i9))) := dk_keep hw_1753 h_1747 h_1745 (by decide)
  have h_1763 : w_1752 D.vf = some (108, dk_cl G 700 (fun i9 => (va_up μ.vf μ.n z) i9)) := dk_keep hw_1753 h_1747 h_1737 (by decide)
  have h_1764 : w_1752 D.bv = some (109, dk_cl G 16 (fun i9 => μ.bv i9)) := dk_keep hw_1753 h_1747 h_1746 (by decide)
  have h_1765 : w_1752 D.ss = some (111, dk_cz G 6 (fun i9 => bo_i (μ.ss i9))) := dk_keep hw_1753 h_1747 h_1748 (by decide)
  have h_1766 : w_1752 D.bd = some (112, dk_cz G 16 (fun i9 => bo_i (μ.bd i9))) := dk_keep hw_1753 h_1747 h_1749 (by decide)
  have h_1767 : w_1752 D.ks = some (113, dk_cz G 700 (fun i9 => bo_i (μ.ks i9))) := dk_keep hw_1753 h_1747 h_1750 (by decide)
  have h_1768 : w_1752 D.bt = some (114, dk_cz G 6000 (fun i9 => bo_i (μ.bt i9))) := dk_keep hw_1753 h_1747 h_1751 (by decide)
  refine lv_aload_n hx hb de_M_write_51 rfl (lv_at hl 0 rfl) ?_
  refine dk_get (a := h) (v := .ref D.rf) (C := kn_M) (T := kt_M) (N := 22) hx hb hts ki_M hown hK hP h_1755 rfl 10 (by decide) (hts _ wi_724) (fun _ h9 => h9) rfl de_M_write_52 ?_
  refine lv_aload_n hx hb de_M_write_55 rfl (lv_at hl 0 rfl) ?_
  refine lv_dup hx hb de_M_write_56 rfl ?_
  refine dk_get (a := h) (v := .int (nI μ.n)) (C := kn_M) (T := kt_M) (N := 22) hx hb hts ki_M hown hK hP h_1755 rfl 1 (by decide) (hts _ wi_715) (fun _ h9 => h9) rfl de_M_write_57 ?_
  refine lv_dup_x1 hx hb de_M_write_60 rfl rfl ?_
  refine lv_iconst (v := nI 1) hx hb de_M_write_61 (by decide) ?_
  refine nx_iadd (a := μ.n) (b := 1) hx hb de_M_write_62 ?_
  refine dk_put (a := h) (v := .int (nI (μ.n + 1))) (ty := .int) (C := kn_M) (T := kt_M) (N := 22) hx hb hts ki_M ky_M kk_M kd_M hown hK hP hS h_1755 rfl 1 (by decide) (hts _ wi_715) (fun _ h9 => h9) rfl (by decide +kernel) rfl rfl (Nat.le_of_ble_eq_true rfl) de_M_write_63 (fun H locs w_1769 hw_1770 hP hS => ?_)
  have h_1771 : w_1769 h = some (100, .inr (cx_M, [.int (nI μ.er), .int (nI (μ.n + 1)), .int (nI (μ.sq + 1)), .int (nI μ.sf), .int (nI μ.rs), .int (rI μ.ba), .int (nI μ.pr), .int (nI μ.mi), .ref D.kf, .ref D.nf, .ref D.rf, .ref D.lf, .ref D.sv, .ref D.bk, .ref D.od, .ref D.vf, .ref D.bv, .ref D.df, .ref D.ss, .ref D.bd, .ref D.ks, .ref D.bt])) := dk_here hw_1770
  have h_1772 : w_1769 D.kf = some (101, dk_ci G 700 (fun i9 => nI ((va_up μ.kf μ.n k) i9))) := dk_keep hw_1770 h_1755 h_1756 (by decide)
  have h_1773 : w_1769 D.nf = some (102, dk_ci G 700 (fun i9 => nI ((va_up μ.nf μ.n (μ.sq + 1)) i9))) := dk_keep hw_1770 h_1755 h_1757 (by decide)
  have h_1774 : w_1769 D.rf = some (103, dk_ci G 700 (fun i9 => rI (μ.rf i9))) := dk_keep hw_1770 h_1755 h_1758 (by decide)
  have h_1775 : w_1769 D.lf = some (104, dk_ci G 5000 (fun i9 => rI (μ.lf i9))) := dk_keep hw_1770 h_1755 h_1759 (by decide)
  have h_1776 : w_1769 D.sv = some (105, dk_ci G 6 (fun i9 => nI (μ.sv i9))) := dk_keep hw_1770 h_1755 h_1760 (by decide)
  have h_1777 : w_1769 D.bk = some (106, dk_ci G 16 (fun i9 => nI (μ.bk i9))) := dk_keep hw_1770 h_1755 h_1761 (by decide)
  have h_1778 : w_1769 D.od = some (107, dk_ci G 700 (fun i9 => nI (μ.od i9))) := dk_keep hw_1770 h_1755 h_1762 (by decide)
  have h_1779 : w_1769 D.vf = some (108, dk_cl G 700 (fun i9 => (va_up μ.vf μ.n z) i9)) := dk_keep hw_1770 h_1755 h_1763 (by decide)
  have h_1780 : w_1769 D.bv = some (109, dk_cl G 16 (fun i9 => μ.bv i9)) := dk_keep hw_1770 h_1755 h_1764 (by decide)
  have h_1781 : w_1769 D.df = some (110, dk_cz G 700 (fun i9 => bo_i ((va_up μ.df μ.n b) i9))) := dk_keep hw_1770 h_1755 h_1754 (by decide)
  have h_1782 : w_1769 D.ss = some (111, dk_cz G 6 (fun i9 => bo_i (μ.ss i9))) := dk_keep hw_1770 h_1755 h_1765 (by decide)
  have h_1783 : w_1769 D.bd = some (112, dk_cz G 16 (fun i9 => bo_i (μ.bd i9))) := dk_keep hw_1770 h_1755 h_1766 (by decide)
  have h_1784 : w_1769 D.ks = some (113, dk_cz G 700 (fun i9 => bo_i (μ.ks i9))) := dk_keep hw_1770 h_1755 h_1767 (by decide)
  have h_1785 : w_1769 D.bt = some (114, dk_cz G 6000 (fun i9 => bo_i (μ.bt i9))) := dk_keep hw_1770 h_1755 h_1768 (by decide)
  refine lv_iconst (v := (-1)) hx hb de_M_write_66 (by decide) ?_
  refine dk_iast (a := D.rf) (x := (rI none)) hx hb hK hP hS h_1774 μ.n rfl (by omega) (by omega) de_M_write_67 (fun H locs w_1786 hw_1787 hP hS => ?_)
  rw [up_rI] at hw_1787
  have h_1788 : w_1786 D.rf = some (103, dk_ci G 700 (fun i9 => rI ((va_up μ.rf μ.n none) i9))) := dk_here hw_1787
  have h_1789 : w_1786 h = some (100, .inr (cx_M, [.int (nI μ.er), .int (nI (μ.n + 1)), .int (nI (μ.sq + 1)), .int (nI μ.sf), .int (nI μ.rs), .int (rI μ.ba), .int (nI μ.pr), .int (nI μ.mi), .ref D.kf, .ref D.nf, .ref D.rf, .ref D.lf, .ref D.sv, .ref D.bk, .ref D.od, .ref D.vf, .ref D.bv, .ref D.df, .ref D.ss, .ref D.bd, .ref D.ks, .ref D.bt])) := dk_keep hw_1787 h_1774 h_1771 (by decide)
  have h_1790 : w_1786 D.kf = some (101, dk_ci G 700 (fun i9 => nI ((va_up μ.kf μ.n k) i9))) := dk_keep hw_1787 h_1774 h_1772 (by decide)
  have h_1791 : w_1786 D.nf = some (102, dk_ci G 700 (fun i9 => nI ((va_up μ.nf μ.n (μ.sq + 1)) i9))) := dk_keep hw_1787 h_1774 h_1773 (by decide)
  have h_1792 : w_1786 D.lf = some (104, dk_ci G 5000 (fun i9 => rI (μ.lf i9))) := dk_keep hw_1787 h_1774 h_1775 (by decide)
  have h_1793 : w_1786 D.sv = some (105, dk_ci G 6 (fun i9 => nI (μ.sv i9))) := dk_keep hw_1787 h_1774 h_1776 (by decide)
  have h_1794 : w_1786 D.bk = some (106, dk_ci G 16 (fun i9 => nI (μ.bk i9))) := dk_keep hw_1787 h_1774 h_1777 (by decide)
  have h_1795 : w_1786 D.od = some (107, dk_ci G 700 (fun i9 => nI (μ.od i9))) := dk_keep hw_1787 h_1774 h_1778 (by decide)
  have h_1796 : w_1786 D.vf = some (108, dk_cl G 700 (fun i9 => (va_up μ.vf μ.n z) i9)) := dk_keep hw_1787 h_1774 h_1779 (by decide)
  have h_1797 : w_1786 D.bv = some (109, dk_cl G 16 (fun i9 => μ.bv i9)) := dk_keep hw_1787 h_1774 h_1780 (by decide)
  have h_1798 : w_1786 D.df = some (110, dk_cz G 700 (fun i9 => bo_i ((va_up μ.df μ.n b) i9))) := dk_keep hw_1787 h_1774 h_1781 (by decide)
  have h_1799 : w_1786 D.ss = some (111, dk_cz G 6 (fun i9 => bo_i (μ.ss i9))) := dk_keep hw_1787 h_1774 h_1782 (by decide)
  have h_1800 : w_1786 D.bd = some (112, dk_cz G 16 (fun i9 => bo_i (μ.bd i9))) := dk_keep hw_1787 h_1774 h_1783 (by decide)
  have h_1801 : w_1786 D.ks = some (113, dk_cz G 700 (fun i9 => bo_i (μ.ks i9))) := dk_keep hw_1787 h_1774 h_1784 (by decide)
  have h_1802 : w_1786 D.bt = some (114, dk_cz G 6000 (fun i9 => bo_i (μ.bt i9))) := dk_keep hw_1787 h_1774 h_1785 (by decide)
  have hm_1803 : md_at G w_1786 h D (((((((μ.kf' (va_up μ.kf μ.n k)).nf' (va_up μ.nf μ.n (μ.sq + 1))).sq' (μ.sq + 1)).vf' (va_up μ.vf μ.n z)).df' (va_up μ.df μ.n b)).rf' (va_up μ.rf μ.n none)).n' (μ.n + 1)) := ⟨h_1789, h_1790, h_1791, h_1788, h_1792, h_1793, h_1794, h_1795, h_1796, h_1797, h_1798, h_1799, h_1800, h_1801, h_1802⟩
  exact dk_vret hQ hx hb hr hlocks hP hS (Nat.le_refl _) (Nat.le_refl _) (⟨hm_1803, (((((((dk_fr.rf).tr ((dk_fr.up (T := md_T) hm.kf (by unfold md_T; omega)).eq hw_1685)).tr ((dk_fr.up (T := md_T) h_1687 (by unfold md_T; omega)).eq hw_1702)).tr ((dk_fr.up (T := md_T) h_1705 (by unfold md_T; omega)).eq hw_1719)).tr ((dk_fr.up (T := md_T) h_1728 (by unfold md_T; omega)).eq hw_1736)).tr ((dk_fr.up (T := md_T) h_1747 (by unfold md_T; omega)).eq hw_1753)).tr ((dk_fr.up (T := md_T) h_1755 (by unfold md_T; omega)).eq hw_1770)).tr ((dk_fr.up (T := md_T) h_1774 (by unfold md_T; omega)).eq hw_1787)⟩) de_M_write_68
abbrev rm_M_flushed : Room := { frames := 0, cells := 0, slots := 0, locals := 0 }
set_option maxHeartbeats 4000000 in
set_option maxRecDepth 100000 in
theorem c_M_flushed (l : Launch) (G : dk_G) (w : dk_H) (h : Nat) (D : md_D) (μ : md_S) (hm : md_at G w h D μ) (hmo : md_ok μ) : dk_Mi l my_M_flushed (wd_c my_M_flushed mb_M_flushed 3 (some .int)) rm_M_flushed G w [.ref h] (fun r w1 => r = nI (ct_f (fun k9 => decide (μ.rf k9 = none)) μ.n) ∧ md_at G w1 h D (md_fl μ) ∧ dk_fr md_T w w1) 0 0 := by
  obtain ⟨ok1, ok2, ok3, ok4, ok5, ok6, ok7, ok8, ok9, ok10, ok11⟩ := id hmo
  refine dk_enter (lv := [(0, .ref h)]) (by decide) (Nat.le_of_ble_eq_true rfl) rfl (fun p e s m args below meth c ls Q hQ C hP hS hl => ?_)
  obtain ⟨hx, hb, hr, hml, hlocks, hown, hnm, hts, hE⟩ := C
  have hK := hE.1
  have hN := hE.2.1
  have hh_1804 : w h = some (100, .inr (cx_M, [.int (nI μ.er), .int (nI μ.n), .int (nI μ.sq), .int (nI μ.sf), .int (nI μ.rs), .int (rI μ.ba), .int (nI μ.pr), .int (nI μ.mi), .ref D.kf, .ref D.nf, .ref D.rf, .ref D.lf, .ref D.sv, .ref D.bk, .ref D.od, .ref D.vf, .ref D.bv, .ref D.df, .ref D.ss, .ref D.bd, .ref D.ks, .ref D.bt])) := hm.o
  refine lv_iconst (v := nI 0) hx hb de_M_flushed_0 (by decide) ?_
  refine lv_istore_n (lv' := [(1, .int (nI 0)), (0, .ref h)]) hx hb de_M_flushed_1 rfl hl (by decide) rfl (fun ls hl => ?_)
  refine lv_iconst (v := nI 0) hx hb de_M_flushed_2 (by decide) ?_
  refine lv_istore_n (lv' := [(2, .int (nI 0)), (1, .int (nI 0)), (0, .ref h)]) hx hb de_M_flushed_3 rfl hl (by decide) rfl (fun ls hl => ?_)
  have lp : ∀ (zk : Nat) (i : Nat) (m9 : Nat), μ.n - i < zk → (i ≤ μ.n) → (m9 = ct_f (fun k9 => decide (μ.rf k9 = none)) i) → ∀ (H : Heap) (locs : List Loc) (v : dk_H), (md_at G v h D (μ.rf' (fl_r μ i))) → (dk_fr md_T w v) → dk_P G v H → dk_S G s.heap H locs → ∀ (ls : Array Slot), lv_has ls 3 [(0, .ref h), (1, .int (nI m9)), (2, .int (nI i))] → W p l e rm_M_flushed s m args below meth c H locs 0 0 Q (F0 m 4 ls []) := by
    intro zk
    induction zk with
    | zero =>
      intro i m9 hk
      exact absurd hk (by omega)
    | succ zk ih =>
      intro i m9 hk hi hm9
      intro H locs v hmv hg hP hS
      intro ls hl
      have hh_1805 : v h = some (100, .inr (cx_M, [.int (nI μ.er), .int (nI μ.n), .int (nI μ.sq), .int (nI μ.sf), .int (nI μ.rs), .int (rI μ.ba), .int (nI μ.pr), .int (nI μ.mi), .ref D.kf, .ref D.nf, .ref D.rf, .ref D.lf, .ref D.sv, .ref D.bk, .ref D.od, .ref D.vf, .ref D.bv, .ref D.df, .ref D.ss, .ref D.bd, .ref D.ks, .ref D.bt])) := hmv.o
      have ha_1806 : v D.kf = some (101, dk_ci G 700 (fun i9 => nI (μ.kf i9))) := hmv.kf
      have ha_1807 : v D.nf = some (102, dk_ci G 700 (fun i9 => nI (μ.nf i9))) := hmv.nf
      have ha_1808 : v D.rf = some (103, dk_ci G 700 (fun i9 => rI ((fl_r μ i) i9))) := hmv.rf
      have ha_1809 : v D.lf = some (104, dk_ci G 5000 (fun i9 => rI (μ.lf i9))) := hmv.lf
      have ha_1810 : v D.sv = some (105, dk_ci G 6 (fun i9 => nI (μ.sv i9))) := hmv.sv
      have ha_1811 : v D.bk = some (106, dk_ci G 16 (fun i9 => nI (μ.bk i9))) := hmv.bk
      have ha_1812 : v D.od = some (107, dk_ci G 700 (fun i9 => nI (μ.od i9))) := hmv.od
      have ha_1813 : v D.vf = some (108, dk_cl G 700 (fun i9 => μ.vf i9)) := hmv.vf
      have ha_1814 : v D.bv = some (109, dk_cl G 16 (fun i9 => μ.bv i9)) := hmv.bv
      have ha_1815 : v D.df = some (110, dk_cz G 700 (fun i9 => bo_i (μ.df i9))) := hmv.df
      have ha_1816 : v D.ss = some (111, dk_cz G 6 (fun i9 => bo_i (μ.ss i9))) := hmv.ss
      have ha_1817 : v D.bd = some (112, dk_cz G 16 (fun i9 => bo_i (μ.bd i9))) := hmv.bd
      have ha_1818 : v D.ks = some (113, dk_cz G 700 (fun i9 => bo_i (μ.ks i9))) := hmv.ks
      have ha_1819 : v D.bt = some (114, dk_cz G 6000 (fun i9 => bo_i (μ.bt i9))) := hmv.bt
      have hre := rI_neg (a := μ.rf i) (fun r hr => by have := ok3 i r hr; omega)
      have hfi : fl_r μ i i = μ.rf i := if_neg (fun z => absurd z.1 (by omega))
      refine lv_iload_n hx hb de_M_flushed_4 rfl (lv_at hl 2 rfl) ?_
      refine lv_aload_n hx hb de_M_flushed_5 rfl (lv_at hl 0 rfl) ?_
      refine dk_get (a := h) (v := .int (nI μ.n)) (C := kn_M) (T := kt_M) (N := 22) hx hb hts ki_M hown hK hP hh_1805 rfl 1 (by decide) (hts _ wi_715) (fun _ h9 => h9) rfl de_M_flushed_6 ?_
      refine nx_icmp_ge (a := i) (b := μ.n) (tgt := 40) hx hb (by omega) (by omega) de_M_flushed_9 (by decide) (fun c_1820 => ?_) (fun c_1820 => ?_)
      · have e9 : i = μ.n := by omega
        have hle := ct_le (fun k9 => decide (μ.rf k9 = none)) i
        refine lv_iload_n hx hb de_M_flushed_40 rfl (lv_at hl 1 rfl) ?_
        refine nx_if_le (a := m9) (tgt := 61) hx hb (by omega) de_M_flushed_41 (by decide) (fun c_1821 => ?_) (fun c_1821 => ?_)
        · refine lv_aload_n hx hb de_M_flushed_61 rfl (lv_at hl 0 rfl) ?_
          refine lv_iconst (v := nI 0) hx hb de_M_flushed_62 (by decide) ?_
          refine dk_put (a := h) (v := .int (nI 0)) (ty := .int) (C := kn_M) (T := kt_M) (N := 22) hx hb hts ki_M ky_M kk_M kd_M hown hK hP hS hh_1805 rfl 3 (by decide) (hts _ wi_717) (fun _ h9 => h9) rfl (by decide +kernel) rfl rfl (Nat.le_of_ble_eq_true rfl) de_M_flushed_63 (fun H locs w_1822 hw_1823 hP hS => ?_)
          have h_1824 : w_1822 h = some (100, .inr (cx_M, [.int (nI μ.er), .int (nI μ.n), .int (nI μ.sq), .int (nI 0), .int (nI μ.rs), .int (rI μ.ba), .int (nI μ.pr), .int (nI μ.mi), .ref D.kf, .ref D.nf, .ref D.rf, .ref D.lf, .ref D.sv, .ref D.bk, .ref D.od, .ref D.vf, .ref D.bv, .ref D.df, .ref D.ss, .ref D.bd, .ref D.ks, .ref D.bt])) := dk_here hw_1823
          have h_1825 : w_1822 D.kf = some (101, dk_ci G 700 (fun i9 => nI (μ.kf i9))) := dk_keep hw_1823 hh_1805 ha_1806 (by decide)
          have h_1826 : w_1822 D.nf = some (102, dk_ci G 700 (fun i9 => nI (μ.nf i9))) := dk_keep hw_1823 hh_1805 ha_1807 (by decide)
          have h_1827 : w_1822 D.rf = some (103, dk_ci G 700 (fun i9 => rI ((fl_r μ i) i9))) := dk_keep hw_1823 hh_1805 ha_1808 (by decide)
          have h_1828 : w_1822 D.lf = some (104, dk_ci G 5000 (fun i9 => rI (μ.lf i9))) := dk_keep hw_1823 hh_1805 ha_1809 (by decide)
          have h_1829 : w_1822 D.sv = some (105, dk_ci G 6 (fun i9 => nI (μ.sv i9))) := dk_keep hw_1823 hh_1805 ha_1810 (by decide)
          have h_1830 : w_1822 D.bk = some (106, dk_ci G 16 (fun i9 => nI (μ.bk i9))) := dk_keep hw_1823 hh_1805 ha_1811 (by decide)
          have h_1831 : w_1822 D.od = some (107, dk_ci G 700 (fun i9 => nI (μ.od i9))) := dk_keep hw_1823 hh_1805 ha_1812 (by decide)
          have h_1832 : w_1822 D.vf = some (108, dk_cl G 700 (fun i9 => μ.vf i9)) := dk_keep hw_1823 hh_1805 ha_1813 (by decide)
          have h_1833 : w_1822 D.bv = some (109, dk_cl G 16 (fun i9 => μ.bv i9)) := dk_keep hw_1823 hh_1805 ha_1814 (by decide)
          have h_1834 : w_1822 D.df = some (110, dk_cz G 700 (fun i9 => bo_i (μ.df i9))) := dk_keep hw_1823 hh_1805 ha_1815 (by decide)
          have h_1835 : w_1822 D.ss = some (111, dk_cz G 6 (fun i9 => bo_i (μ.ss i9))) := dk_keep hw_1823 hh_1805 ha_1816 (by decide)
          have h_1836 : w_1822 D.bd = some (112, dk_cz G 16 (fun i9 => bo_i (μ.bd i9))) := dk_keep hw_1823 hh_1805 ha_1817 (by decide)
          have h_1837 : w_1822 D.ks = some (113, dk_cz G 700 (fun i9 => bo_i (μ.ks i9))) := dk_keep hw_1823 hh_1805 ha_1818 (by decide)
          have h_1838 : w_1822 D.bt = some (114, dk_cz G 6000 (fun i9 => bo_i (μ.bt i9))) := dk_keep hw_1823 hh_1805 ha_1819 (by decide)
          refine lv_iload_n hx hb de_M_flushed_66 rfl (lv_at hl 1 rfl) ?_
          have hm_1839 : md_at G w_1822 h D ((μ.rf' (fl_r μ i)).sf' 0) := ⟨h_1824, h_1825, h_1826, h_1827, h_1828, h_1829, h_1830, h_1831, h_1832, h_1833, h_1834, h_1835, h_1836, h_1837, h_1838⟩
          exact dk_iret hQ hx hb hr hlocks hP hS (Nat.le_refl _) (Nat.le_refl _) (⟨by rw [hm9, e9], by rw [fl_a0 e9 hm9 c_1821]; exact hm_1839, hg.tr ((dk_fr.rf).tr ((dk_fr.up (T := md_T) hh_1805 (by unfold md_T; omega)).eq hw_1823))⟩) de_M_flushed_67
        · refine lv_aload_n hx hb de_M_flushed_44 rfl (lv_at hl 0 rfl) ?_
          refine dk_get (a := h) (v := .ref D.lf) (C := kn_M) (T := kt_M) (N := 22) hx hb hts ki_M hown hK hP hh_1805 rfl 11 (by decide) (hts _ wi_725) (fun _ h9 => h9) rfl de_M_flushed_45 ?_
          refine lv_aload_n hx hb de_M_flushed_48 rfl (lv_at hl 0 rfl) ?_
          refine lv_dup hx hb de_M_flushed_49 rfl ?_
          refine dk_get (a := h) (v := .int (nI μ.rs)) (C := kn_M) (T := kt_M) (N := 22) hx hb hts ki_M hown hK hP hh_1805 rfl 4 (by decide) (hts _ wi_718) (fun _ h9 => h9) rfl de_M_flushed_50 ?_
          refine lv_dup_x1 hx hb de_M_flushed_53 rfl rfl ?_
          refine lv_iconst (v := nI 1) hx hb de_M_flushed_54 (by decide) ?_
          refine nx_iadd (a := μ.rs) (b := 1) hx hb de_M_flushed_55 ?_
          refine dk_put (a := h) (v := .int (nI (μ.rs + 1))) (ty := .int) (C := kn_M) (T := kt_M) (N := 22) hx hb hts ki_M ky_M kk_M kd_M hown hK hP hS hh_1805 rfl 4 (by decide) (hts _ wi_718) (fun _ h9 => h9) rfl (by decide +kernel) rfl rfl (Nat.le_of_ble_eq_true rfl) de_M_flushed_56 (fun H locs w_1840 hw_1841 hP hS => ?_)
          have h_1842 : w_1840 h = some (100, .inr (cx_M, [.int (nI μ.er), .int (nI μ.n), .int (nI μ.sq), .int (nI μ.sf), .int (nI (μ.rs + 1)), .int (rI μ.ba), .int (nI μ.pr), .int (nI μ.mi), .ref D.kf, .ref D.nf, .ref D.rf, .ref D.lf, .ref D.sv, .ref D.bk, .ref D.od, .ref D.vf, .ref D.bv, .ref D.df, .ref D.ss, .ref D.bd, .ref D.ks, .ref D.bt])) := dk_here hw_1841
          have h_1843 : w_1840 D.kf = some (101, dk_ci G 700 (fun i9 => nI (μ.kf i9))) := dk_keep hw_1841 hh_1805 ha_1806 (by decide)
          have h_1844 : w_1840 D.nf = some (102, dk_ci G 700 (fun i9 => nI (μ.nf i9))) := dk_keep hw_1841 hh_1805 ha_1807 (by decide)
          have h_1845 : w_1840 D.rf = some (103, dk_ci G 700 (fun i9 => rI ((fl_r μ i) i9))) := dk_keep hw_1841 hh_1805 ha_1808 (by decide)
          have h_1846 : w_1840 D.lf = some (104, dk_ci G 5000 (fun i9 => rI (μ.lf i9))) := dk_keep hw_1841 hh_1805 ha_1809 (by decide)
          have h_1847 : w_1840 D.sv = some (105, dk_ci G 6 (fun i9 => nI (μ.sv i9))) := dk_keep hw_1841 hh_1805 ha_1810 (by decide)
          have h_1848 : w_1840 D.bk = some (106, dk_ci G 16 (fun i9 => nI (μ.bk i9))) := dk_keep hw_1841 hh_1805 ha_1811 (by decide)
          have h_1849 : w_1840 D.od = some (107, dk_ci G 700 (fun i9 => nI (μ.od i9))) := dk_keep hw_1841 hh_1805 ha_1812 (by decide)
          have h_1850 : w_1840 D.vf = some (108, dk_cl G 700 (fun i9 => μ.vf i9)) := dk_keep hw_1841 hh_1805 ha_1813 (by decide)
          have h_1851 : w_1840 D.bv = some (109, dk_cl G 16 (fun i9 => μ.bv i9)) := dk_keep hw_1841 hh_1805 ha_1814 (by decide)
          have h_1852 : w_1840 D.df = some (110, dk_cz G 700 (fun i9 => bo_i (μ.df i9))) := dk_keep hw_1841 hh_1805 ha_1815 (by decide)
          have h_1853 : w_1840 D.ss = some (111, dk_cz G 6 (fun i9 => bo_i (μ.ss i9))) := dk_keep hw_1841 hh_1805 ha_1816 (by decide)
          have h_1854 : w_1840 D.bd = some (112, dk_cz G 16 (fun i9 => bo_i (μ.bd i9))) := dk_keep hw_1841 hh_1805 ha_1817 (by decide)
          have h_1855 : w_1840 D.ks = some (113, dk_cz G 700 (fun i9 => bo_i (μ.ks i9))) := dk_keep hw_1841 hh_1805 ha_1818 (by decide)
          have h_1856 : w_1840 D.bt = some (114, dk_cz G 6000 (fun i9 => bo_i (μ.bt i9))) := dk_keep hw_1841 hh_1805 ha_1819 (by decide)
          refine lv_iconst (v := nI 0) hx hb de_M_flushed_59 (by decide) ?_
          refine dk_iast (a := D.lf) (x := (rI (some 0))) hx hb hK hP hS h_1846 μ.rs rfl (by omega) (by omega) de_M_flushed_60 (fun H locs w_1857 hw_1858 hP hS => ?_)
          rw [up_rI] at hw_1858
          have h_1859 : w_1857 D.lf = some (104, dk_ci G 5000 (fun i9 => rI ((va_up μ.lf μ.rs (some 0)) i9))) := dk_here hw_1858
          have h_1860 : w_1857 h = some (100, .inr (cx_M, [.int (nI μ.er), .int (nI μ.n), .int (nI μ.sq), .int (nI μ.sf), .int (nI (μ.rs + 1)), .int (rI μ.ba), .int (nI μ.pr), .int (nI μ.mi), .ref D.kf, .ref D.nf, .ref D.rf, .ref D.lf, .ref D.sv, .ref D.bk, .ref D.od, .ref D.vf, .ref D.bv, .ref D.df, .ref D.ss, .ref D.bd, .ref D.ks, .ref D.bt])) := dk_keep hw_1858 h_1846 h_1842 (by decide)
          have h_1861 : w_1857 D.kf = some (101, dk_ci G 700 (fun i9 => nI (μ.kf i9))) := dk_keep hw_1858 h_1846 h_1843 (by decide)
          have h_1862 : w_1857 D.nf = some (102, dk_ci G 700 (fun i9 => nI (μ.nf i9))) := dk_keep hw_1858 h_1846 h_1844 (by decide)
          have h_1863 : w_1857 D.rf = some (103, dk_ci G 700 (fun i9 => rI ((fl_r μ i) i9))) := dk_keep hw_1858 h_1846 h_1845 (by decide)
          have h_1864 : w_1857 D.sv = some (105, dk_ci G 6 (fun i9 => nI (μ.sv i9))) := dk_keep hw_1858 h_1846 h_1847 (by decide)
          have h_1865 : w_1857 D.bk = some (106, dk_ci G 16 (fun i9 => nI (μ.bk i9))) := dk_keep hw_1858 h_1846 h_1848 (by decide)
          have h_1866 : w_1857 D.od = some (107, dk_ci G 700 (fun i9 => nI (μ.od i9))) := dk_keep hw_1858 h_1846 h_1849 (by decide)
          have h_1867 : w_1857 D.vf = some (108, dk_cl G 700 (fun i9 => μ.vf i9)) := dk_keep hw_1858 h_1846 h_1850 (by decide)
          have h_1868 : w_1857 D.bv = some (109, dk_cl G 16 (fun i9 => μ.bv i9)) := dk_keep hw_1858 h_1846 h_1851 (by decide)
          have h_1869 : w_1857 D.df = some (110, dk_cz G 700 (fun i9 => bo_i (μ.df i9))) := dk_keep hw_1858 h_1846 h_1852 (by decide)
          have h_1870 : w_1857 D.ss = some (111, dk_cz G 6 (fun i9 => bo_i (μ.ss i9))) := dk_keep hw_1858 h_1846 h_1853 (by decide)
          have h_1871 : w_1857 D.bd = some (112, dk_cz G 16 (fun i9 => bo_i (μ.bd i9))) := dk_keep hw_1858 h_1846 h_1854 (by decide)
          have h_1872 : w_1857 D.ks = some (113, dk_cz G 700 (fun i9 => bo_i (μ.ks i9))) := dk_keep hw_1858 h_1846 h_1855 (by decide)
          have h_1873 : w_1857 D.bt = some (114, dk_cz G 6000 (fun i9 => bo_i (μ.bt i9))) := dk_keep hw_1858 h_1846 h_1856 (by decide)
          refine lv_aload_n hx hb de_M_flushed_61 rfl (lv_at hl 0 rfl) ?_
          refine lv_iconst (v := nI 0) hx hb de_M_flushed_62 (by decide) ?_
          refine dk_put (a := h) (v := .int (nI 0)) (ty := .int) (C := kn_M) (T := kt_M) (N := 22) hx hb hts ki_M ky_M kk_M kd_M hown hK hP hS h_1860 rfl 3 (by decide) (hts _ wi_717) (fun _ h9 => h9) rfl (by decide +kernel) rfl rfl (Nat.le_of_ble_eq_true rfl) de_M_flushed_63 (fun H locs w_1874 hw_1875 hP hS => ?_)
          have h_1876 : w_1874 h = some (100, .inr (cx_M, [.int (nI μ.er), .int (nI μ.n), .int (nI μ.sq), .int (nI 0), .int (nI (μ.rs + 1)), .int (rI μ.ba), .int (nI μ.pr), .int (nI μ.mi), .ref D.kf, .ref D.nf, .ref D.rf, .ref D.lf, .ref D.sv, .ref D.bk, .ref D.od, .ref D.vf, .ref D.bv, .ref D.df, .ref D.ss, .ref D.bd, .ref D.ks, .ref D.bt])) := dk_here hw_1875
          have h_1877 : w_1874 D.kf = some (101, dk_ci G 700 (fun i9 => nI (μ.kf i9))) := dk_keep hw_1875 h_1860 h_1861 (by decide)
          have h_1878 : w_1874 D.nf = some (102, dk_ci G 700 (fun i9 => nI (μ.nf i9))) := dk_keep hw_1875 h_1860 h_1862 (by decide)
          have h_1879 : w_1874 D.rf = some (103, dk_ci G 700 (fun i9 => rI ((fl_r μ i) i9))) := dk_keep hw_1875 h_1860 h_1863 (by decide)
          have h_1880 : w_1874 D.lf = some (104, dk_ci G 5000 (fun i9 => rI ((va_up μ.lf μ.rs (some 0)) i9))) := dk_keep hw_1875 h_1860 h_1859 (by decide)
          have h_1881 : w_1874 D.sv = some (105, dk_ci G 6 (fun i9 => nI (μ.sv i9))) := dk_keep hw_1875 h_1860 h_1864 (by decide)
          have h_1882 : w_1874 D.bk = some (106, dk_ci G 16 (fun i9 => nI (μ.bk i9))) := dk_keep hw_1875 h_1860 h_1865 (by decide)
          have h_1883 : w_1874 D.od = some (107, dk_ci G 700 (fun i9 => nI (μ.od i9))) := dk_keep hw_1875 h_1860 h_1866 (by decide)
          have h_1884 : w_1874 D.vf = some (108, dk_cl G 700 (fun i9 => μ.vf i9)) := dk_keep hw_1875 h_1860 h_1867 (by decide)
          have h_1885 : w_1874 D.bv = some (109, dk_cl G 16 (fun i9 => μ.bv i9)) := dk_keep hw_1875 h_1860 h_1868 (by decide)
          have h_1886 : w_1874 D.df = some (110, dk_cz G 700 (fun i9 => bo_i (μ.df i9))) := dk_keep hw_1875 h_1860 h_1869 (by decide)
          have h_1887 : w_1874 D.ss = some (111, dk_cz G 6 (fun i9 => bo_i (μ.ss i9))) := dk_keep hw_1875 h_1860 h_1870 (by decide)
          have h_1888 : w_1874 D.bd = some (112, dk_cz G 16 (fun i9 => bo_i (μ.bd i9))) := dk_keep hw_1875 h_1860 h_1871 (by decide)
          have h_1889 : w_1874 D.ks = some (113, dk_cz G 700 (fun i9 => bo_i (μ.ks i9))) := dk_keep hw_1875 h_1860 h_1872 (by decide)
          have h_1890 : w_1874 D.bt = some (114, dk_cz G 6000 (fun i9 => bo_i (μ.bt i9))) := dk_keep hw_1875 h_1860 h_1873 (by decide)
          refine lv_iload_n hx hb de_M_flushed_66 rfl (lv_at hl 1 rfl) ?_
          have hm_1891 : md_at G w_1874 h D ((((μ.rf' (fl_r μ i)).rs' (μ.rs + 1)).lf' (va_up μ.lf μ.rs (some 0))).sf' 0) := ⟨h_1876, h_1877, h_1878, h_1879, h_1880, h_1881, h_1882, h_1883, h_1884, h_1885, h_1886, h_1887, h_1888, h_1889, h_1890⟩
          exact dk_iret hQ hx hb hr hlocks hP hS (Nat.le_refl _) (Nat.le_refl _) (⟨by rw [hm9, e9], by rw [fl_a1 e9 hm9 c_1821]; exact hm_1891, hg.tr ((((dk_fr.rf).tr ((dk_fr.up (T := md_T) hh_1805 (by unfold md_T; omega)).eq hw_1841)).tr ((dk_fr.up (T := md_T) h_1846 (by unfold md_T; omega)).eq hw_1858)).tr ((dk_fr.up (T := md_T) h_1860 (by unfold md_T; omega)).eq hw_1875))⟩) de_M_flushed_67
      · refine lv_aload_n hx hb de_M_flushed_12 rfl (lv_at hl 0 rfl) ?_
        refine dk_get (a := h) (v := .ref D.rf) (C := kn_M) (T := kt_M) (N := 22) hx hb hts ki_M hown hK hP hh_1805 rfl 10 (by decide) (hts _ wi_724) (fun _ h9 => h9) rfl de_M_flushed_13 ?_
        refine lv_iload_n hx hb de_M_flushed_16 rfl (lv_at hl 2 rfl) ?_
        refine dk_iald (a := D.rf) hx hb hK hP ha_1808 i rfl (by omega) (by omega) de_M_flushed_17 ?_
        rw [hfi]
        refine lv_if_ge (tgt := 34) hx hb de_M_flushed_18 (by decide) (fun c_1892 => ?_) (fun c_1892 => ?_)
        · have e8 : (fun k9 => decide (μ.rf k9 = none)) i = false := decide_eq_false (fun z => absurd (hre.mpr z) (by simpa using c_1892))
          refine lv_iinc (v := nI (i + 1)) (lv' := [(2, .int (nI (i + 1))), (0, .ref h), (1, .int (nI m9))]) hx hb de_M_flushed_34 hl (k := 2) rfl (nx_inc i) (by decide) rfl (fun ls hl => ?_)
          refine lv_goto (tgt := 4) hx hb de_M_flushed_37 (by decide) ?_
          exact ih (i + 1) m9 (by omega) (by omega) (by rw [ct_n e8, hm9]) _ _ _ (by rw [fl_rn (of_decide_eq_false e8)]; exact hmv) hg hP hS _ (lv_sub hl [1, 2, 0] rfl)
        · have e8 : (fun k9 => decide (μ.rf k9 = none)) i = true := decide_eq_true (hre.mp (by simpa using c_1892))
          refine lv_aload_n hx hb de_M_flushed_21 rfl (lv_at hl 0 rfl) ?_
          refine dk_get (a := h) (v := .ref D.rf) (C := kn_M) (T := kt_M) (N := 22) hx hb hts ki_M hown hK hP hh_1805 rfl 10 (by decide) (hts _ wi_724) (fun _ h9 => h9) rfl de_M_flushed_22 ?_
          refine lv_iload_n hx hb de_M_flushed_25 rfl (lv_at hl 2 rfl) ?_
          refine lv_aload_n hx hb de_M_flushed_26 rfl (lv_at hl 0 rfl) ?_
          refine dk_get (a := h) (v := .int (nI μ.rs)) (C := kn_M) (T := kt_M) (N := 22) hx hb hts ki_M hown hK hP hh_1805 rfl 4 (by decide) (hts _ wi_718) (fun _ h9 => h9) rfl de_M_flushed_27 ?_
          refine dk_iast (a := D.rf) (x := (rI (some μ.rs))) hx hb hK hP hS ha_1808 i rfl (by omega) (by omega) de_M_flushed_30 (fun H locs w_1893 hw_1894 hP hS => ?_)
          rw [up_rI] at hw_1894
          have h_1895 : w_1893 D.rf = some (103, dk_ci G 700 (fun i9 => rI ((va_up (fl_r μ i) i (some μ.rs)) i9))) := dk_here hw_1894
          have h_1896 : w_1893 h = some (100, .inr (cx_M, [.int (nI μ.er), .int (nI μ.n), .int (nI μ.sq), .int (nI μ.sf), .int (nI μ.rs), .int (rI μ.ba), .int (nI μ.pr), .int (nI μ.mi), .ref D.kf, .ref D.nf, .ref D.rf, .ref D.lf, .ref D.sv, .ref D.bk, .ref D.od, .ref D.vf, .ref D.bv, .ref D.df, .ref D.ss, .ref D.bd, .ref D.ks, .ref D.bt])) := dk_keep hw_1894 ha_1808 hh_1805 (by decide)
          have h_1897 : w_1893 D.kf = some (101, dk_ci G 700 (fun i9 => nI (μ.kf i9))) := dk_keep hw_1894 ha_1808 ha_1806 (by decide)
          have h_1898 : w_1893 D.nf = some (102, dk_ci G 700 (fun i9 => nI (μ.nf i9))) := dk_keep hw_1894 ha_1808 ha_1807 (by decide)
          have h_1899 : w_1893 D.lf = some (104, dk_ci G 5000 (fun i9 => rI (μ.lf i9))) := dk_keep hw_1894 ha_1808 ha_1809 (by decide)
          have h_1900 : w_1893 D.sv = some (105, dk_ci G 6 (fun i9 => nI (μ.sv i9))) := dk_keep hw_1894 ha_1808 ha_1810 (by decide)
          have h_1901 : w_1893 D.bk = some (106, dk_ci G 16 (fun i9 => nI (μ.bk i9))) := dk_keep hw_1894 ha_1808 ha_1811 (by decide)
          have h_1902 : w_1893 D.od = some (107, dk_ci G 700 (fun i9 => nI (μ.od i9))) := dk_keep hw_1894 ha_1808 ha_1812 (by decide)
          have h_1903 : w_1893 D.vf = some (108, dk_cl G 700 (fun i9 => μ.vf i9)) := dk_keep hw_1894 ha_1808 ha_1813 (by decide)
          have h_1904 : w_1893 D.bv = some (109, dk_cl G 16 (fun i9 => μ.bv i9)) := dk_keep hw_1894 ha_1808 ha_1814 (by decide)
          have h_1905 : w_1893 D.df = some (110, dk_cz G 700 (fun i9 => bo_i (μ.df i9))) := dk_keep hw_1894 ha_1808 ha_1815 (by decide)
          have h_1906 : w_1893 D.ss = some (111, dk_cz G 6 (fun i9 => bo_i (μ.ss i9))) := dk_keep hw_1894 ha_1808 ha_1816 (by decide)
          have h_1907 : w_1893 D.bd = some (112, dk_cz G 16 (fun i9 => bo_i (μ.bd i9))) := dk_keep hw_1894 ha_1808 ha_1817 (by decide)
          have h_1908 : w_1893 D.ks = some (113, dk_cz G 700 (fun i9 => bo_i (μ.ks i9))) := dk_keep hw_1894 ha_1808 ha_1818 (by decide)
          have h_1909 : w_1893 D.bt = some (114, dk_cz G 6000 (fun i9 => bo_i (μ.bt i9))) := dk_keep hw_1894 ha_1808 ha_1819 (by decide)
          refine lv_iinc (v := nI (m9 + 1)) (lv' := [(1, .int (nI (m9 + 1))), (0, .ref h), (2, .int (nI i))]) hx hb de_M_flushed_31 hl (k := 1) rfl (nx_inc m9) (by decide) rfl (fun ls hl => ?_)
          refine lv_iinc (v := nI (i + 1)) (lv' := [(2, .int (nI (i + 1))), (1, .int (nI (m9 + 1))), (0, .ref h)]) hx hb de_M_flushed_34 hl (k := 2) rfl (nx_inc i) (by decide) rfl (fun ls hl => ?_)
          refine lv_goto (tgt := 4) hx hb de_M_flushed_37 (by decide) ?_
          have hm_1910 : md_at G w_1893 h D ((μ.rf' (fl_r μ i)).rf' (va_up (fl_r μ i) i (some μ.rs))) := ⟨h_1896, h_1897, h_1898, h_1895, h_1899, h_1900, h_1901, h_1902, h_1903, h_1904, h_1905, h_1906, h_1907, h_1908, h_1909⟩
          exact ih (i + 1) (m9 + 1) (by omega) (by omega) (by rw [ct_y e8, hm9]) _ _ _ (by rw [fl_ry (of_decide_eq_true e8)]; exact hm_1910) (hg.tr ((dk_fr.rf).tr ((dk_fr.up (T := md_T) ha_1808 (by unfold md_T; omega)).eq hw_1894))) hP hS _ (lv_sub hl [2, 1, 0] rfl)
  exact lp (μ.n + 1) 0 0 (by omega) (Nat.zero_le _) rfl _ _ _ (by rw [fl_r0]; exact hm) dk_fr.rf hP hS _ (lv_sub hl [2, 1, 0] rfl)
