/-! RunKeeperModel: count, next (printed by gen/c_md5.py) -/
def lm_k (μ : md_S) (u j : Nat) : Bool := match be_f μ j u μ.n with
  | none => false
  | some b => !μ.df b
theorem lm_kn {μ : md_S} {u j : Nat} (h : be_f μ j u μ.n = none) : lm_k μ u j = false := by simp only [lm_k, h]
theorem lm_kd {μ : md_S} {u j b : Nat} (h : be_f μ j u μ.n = some b) (h1 : μ.df b = true) : lm_k μ u j = false := by simp only [lm_k, h, h1]; rfl
theorem lm_kl {μ : md_S} {u j b : Nat} (h : be_f μ j u μ.n = some b) (h1 : μ.df b = false) : lm_k μ u j = true := by simp only [lm_k, h, h1]; rfl
def nxm_r (μ : md_S) (u k : Nat) (r : Int32) : Prop := (∃ j, k ≤ j ∧ j < 1024 ∧ r = nI j ∧ lm_k μ u j = true ∧ ∀ i, k ≤ i → i < j → lm_k μ u i = false) ∨ (r = -1 ∧ ∀ i, k ≤ i → i < 1024 → lm_k μ u i = false)
theorem be_e (μ : md_S) (a b k u : Nat) : be_f ((μ.er' a).er' b) k u ((μ.er' a).er' b).n = be_f μ k u μ.n := by
  show be_f ((μ.er' a).er' b) k u μ.n = be_f μ k u μ.n
  generalize μ.n = n
  induction n with
  | zero => rfl
  | succ n ih => simp only [be_f, ih]
abbrev rm_M_count : Room := { frames := 1, cells := 0, slots := 0, locals := 23 }
set_option maxHeartbeats 4000000 in
set_option maxRecDepth 100000 in
theorem c_M_countF (l : Launch) (G : dk_G) (w : dk_H) (h : Nat) (D : md_D) (μ : md_S) (hm : md_at G w h D μ) (hmo : md_ok μ) (q0 k : Int32) (hm0 : im_b q0 (nI 0) (nI 9) = false) : dk_Mi l my_M_count (wd_c my_M_count mb_M_count 5 (some .int)) rm_M_count G w [.ref h, .int q0, .int k] (fun r w1 => r = nI 0 ∧ md_at G w1 h D (μ.er' 1) ∧ dk_fr md_T w w1) 0 0 := by
  obtain ⟨ok1, ok2, ok3, ok4, ok5, ok6, ok7, ok8, ok9, ok10, ok11⟩ := id hmo
  refine dk_enter (lv := [(0, .ref h), (1, .int q0), (2, .int k)]) (by decide) (Nat.le_of_ble_eq_true rfl) rfl (fun p e s m args below meth c ls Q hQ C hP hS hl => ?_)
  obtain ⟨hx, hb, hr, hml, hlocks, hown, hnm, hts, hE⟩ := C
  have hK := hE.1
  have hN := hE.2.1
  have hh_3556 : w h = some (100, .inr (cx_M, [.int (nI μ.er), .int (nI μ.n), .int (nI μ.sq), .int (nI μ.sf), .int (nI μ.rs), .int (rI μ.ba), .int (nI μ.pr), .int (nI μ.mi), .ref D.kf, .ref D.nf, .ref D.rf, .ref D.lf, .ref D.sv, .ref D.bk, .ref D.od, .ref D.vf, .ref D.bv, .ref D.df, .ref D.ss, .ref D.bd, .ref D.ks, .ref D.bt])) := hm.o
  refine lv_aload_n hx hb de_M_count_0 rfl (lv_at hl 0 rfl) ?_
  refine lv_iconst (v := nI 0) hx hb de_M_count_1 (by decide) ?_
  refine dk_put (a := h) (v := .int (nI 0)) (ty := .int) (C := kn_M) (T := kt_M) (N := 22) hx hb hts ki_M ky_M kk_M kd_M hown hK hP hS hh_3556 rfl 0 (by decide) (hts _ wi_714) (fun _ h9 => h9) rfl (by decide +kernel) rfl rfl (Nat.le_of_ble_eq_true rfl) de_M_count_2 (fun H locs w_3557 hw_3558 hP hS => ?_)
  have h_3559 : w_3557 h = some (100, .inr (cx_M, [.int (nI 0), .int (nI μ.n), .int (nI μ.sq), .int (nI μ.sf), .int (nI μ.rs), .int (rI μ.ba), .int (nI μ.pr), .int (nI μ.mi), .ref D.kf, .ref D.nf, .ref D.rf, .ref D.lf, .ref D.sv, .ref D.bk, .ref D.od, .ref D.vf, .ref D.bv, .ref D.df, .ref D.ss, .ref D.bd, .ref D.ks, .ref D.bt])) := dk_here hw_3558
  have h_3560 : w_3557 D.kf = some (101, dk_ci G 700 (fun i9 => nI (μ.kf i9))) := dk_keep hw_3558 hh_3556 hm.kf (by decide)
  have h_3561 : w_3557 D.nf = some (102, dk_ci G 700 (fun i9 => nI (μ.nf i9))) := dk_keep hw_3558 hh_3556 hm.nf (by decide)
  have h_3562 : w_3557 D.rf = some (103, dk_ci G 700 (fun i9 => rI (μ.rf i9))) := dk_keep hw_3558 hh_3556 hm.rf (by decide)
  have h_3563 : w_3557 D.lf = some (104, dk_ci G 5000 (fun i9 => rI (μ.lf i9))) := dk_keep hw_3558 hh_3556 hm.lf (by decide)
  have h_3564 : w_3557 D.sv = some (105, dk_ci G 6 (fun i9 => nI (μ.sv i9))) := dk_keep hw_3558 hh_3556 hm.sv (by decide)
  have h_3565 : w_3557 D.bk = some (106, dk_ci G 16 (fun i9 => nI (μ.bk i9))) := dk_keep hw_3558 hh_3556 hm.bk (by decide)
  have h_3566 : w_3557 D.od = some (107, dk_ci G 700 (fun i9 => nI (μ.od i9))) := dk_keep hw_3558 hh_3556 hm.od (by decide)
  have h_3567 : w_3557 D.vf = some (108, dk_cl G 700 (fun i9 => μ.vf i9)) := dk_keep hw_3558 hh_3556 hm.vf (by decide)
  have h_3568 : w_3557 D.bv = some (109, dk_cl G 16 (fun i9 => μ.bv i9)) := dk_keep hw_3558 hh_3556 hm.bv (by decide)
  have h_3569 : w_3557 D.df = some (110, dk_cz G 700 (fun i9 => bo_i (μ.df i9))) := dk_keep hw_3558 hh_3556 hm.df (by decide)
  have h_3570 : w_3557 D.ss = some (111, dk_cz G 6 (fun i9 => bo_i (μ.ss i9))) := dk_keep hw_3558 hh_3556 hm.ss (by decide)
  have h_3571 : w_3557 D.bd = some (112, dk_cz G 16 (fun i9 => bo_i (μ.bd i9))) := dk_keep hw_3558 hh_3556 hm.bd (by decide)
  have h_3572 : w_3557 D.ks = some (113, dk_cz G 700 (fun i9 => bo_i (μ.ks i9))) := dk_keep hw_3558 hh_3556 hm.ks (by decide)
  have h_3573 : w_3557 D.bt = some (114, dk_cz G 6000 (fun i9 => bo_i (μ.bt i9))) := dk_keep hw_3558 hh_3556 hm.bt (by decide)
  have hm_3574 : md_at G w_3557 h D (μ.er' 0) := ⟨h_3559, h_3560, h_3561, h_3562, h_3563, h_3564, h_3565, h_3566, h_3567, h_3568, h_3569, h_3570, h_3571, h_3572, h_3573⟩
  have hh_3575 : w_3557 h = some (100, .inr (cx_M, [.int (nI 0), .int (nI μ.n), .int (nI μ.sq), .int (nI μ.sf), .int (nI μ.rs), .int (rI μ.ba), .int (nI μ.pr), .int (nI μ.mi), .ref D.kf, .ref D.nf, .ref D.rf, .ref D.lf, .ref D.sv, .ref D.bk, .ref D.od, .ref D.vf, .ref D.bv, .ref D.df, .ref D.ss, .ref D.bd, .ref D.ks, .ref D.bt])) := hm_3574.o
  have ha_3576 : w_3557 D.kf = some (101, dk_ci G 700 (fun i9 => nI (μ.kf i9))) := hm_3574.kf
  have ha_3577 : w_3557 D.nf = some (102, dk_ci G 700 (fun i9 => nI (μ.nf i9))) := hm_3574.nf
  have ha_3578 : w_3557 D.rf = some (103, dk_ci G 700 (fun i9 => rI (μ.rf i9))) := hm_3574.rf
  have ha_3579 : w_3557 D.lf = some (104, dk_ci G 5000 (fun i9 => rI (μ.lf i9))) := hm_3574.lf
  have ha_3580 : w_3557 D.sv = some (105, dk_ci G 6 (fun i9 => nI (μ.sv i9))) := hm_3574.sv
  have ha_3581 : w_3557 D.bk = some (106, dk_ci G 16 (fun i9 => nI (μ.bk i9))) := hm_3574.bk
  have ha_3582 : w_3557 D.od = some (107, dk_ci G 700 (fun i9 => nI (μ.od i9))) := hm_3574.od
  have ha_3583 : w_3557 D.vf = some (108, dk_cl G 700 (fun i9 => μ.vf i9)) := hm_3574.vf
  have ha_3584 : w_3557 D.bv = some (109, dk_cl G 16 (fun i9 => μ.bv i9)) := hm_3574.bv
  have ha_3585 : w_3557 D.df = some (110, dk_cz G 700 (fun i9 => bo_i (μ.df i9))) := hm_3574.df
  have ha_3586 : w_3557 D.ss = some (111, dk_cz G 6 (fun i9 => bo_i (μ.ss i9))) := hm_3574.ss
  have ha_3587 : w_3557 D.bd = some (112, dk_cz G 16 (fun i9 => bo_i (μ.bd i9))) := hm_3574.bd
  have ha_3588 : w_3557 D.ks = some (113, dk_cz G 700 (fun i9 => bo_i (μ.ks i9))) := hm_3574.ks
  have ha_3589 : w_3557 D.bt = some (114, dk_cz G 6000 (fun i9 => bo_i (μ.bt i9))) := hm_3574.bt
  refine lv_aload_n hx hb de_M_count_5 rfl (lv_at hl 0 rfl) ?_
  refine lv_iload_n hx hb de_M_count_6 rfl (lv_at hl 1 rfl) ?_
  refine lv_iconst (v := nI 0) hx hb de_M_count_7 (by decide) ?_
  refine lv_bipush (v := nI 9) hx hb de_M_count_8 (by decide) ?_
  refine dk_calli (va_runS (As := [.int q0, .int (nI 0), .int (nI 9)]) (rest := [.ref h]) ⟨hx, hb, hml, hown, hts⟩ (c_M_in l G w_3557 q0 (nI 0) (nI 9)) (va_cwS 3 hts (wd_gS wi_795 wi_793 wi_794 wi_8) rfl rfl rfl (by decide +kernel) ⟨Nat.le_of_ble_eq_true rfl, Nat.le_of_ble_eq_true rfl⟩) (dk_preS hE hP hS) rfl rfl hl.1 rfl (lv_room (Nat.le_of_ble_eq_true rfl)) de_M_count_10 ⟨(by first | exact Nat.le_of_ble_eq_true rfl | (simp only [Nat.zero_add]; omega) | omega), (by first | exact Nat.le_of_ble_eq_true rfl | (simp only [Nat.zero_add]; omega) | omega)⟩) hS (fun r_3592 w_3590 H locs hq_3591 hP hS => ?_)
  rw [hm0] at hq_3591
  obtain ⟨hr_3593, he_3594⟩ := hq_3591
  subst hr_3593
  rw [he_3594] at hP
  refine bo_if_eq (b := false) (tgt := 30) hx hb de_M_count_13 (by decide) (fun c_3595 => ?_) (fun c_3595 => ?_)
  · refine lv_iconst (v := nI 1) hx hb de_M_count_30 (by decide) ?_
    refine lv_goto (tgt := 35) hx hb de_M_count_31 (by decide) ?_
    refine lv_iconst (v := nI 1) hx hb de_M_count_35 (by decide) ?_
    rw [show (nI 1) = bo_i true from (by decide)]
    refine dk_calli (va_runV (As := [.int (bo_i true), .int (nI 1)]) (rest := []) ⟨hx, hb, hml, hown, hts⟩ (c_M_fails l G w_3557 h D (μ.er' 0) hm_3574 true 1 (by decide) (by decide) (show (0 : Nat) < 3 by decide)) (cwV 2 hts (wd_gV (C := "RunKeeperModel") wi_799 wi_796 wi_798 (wd_p (q := (⟨"RunKeeperModel", "fails", "(ZI)Z"⟩, 22)) (by decide +kernel) (by decide +kernel)) wi_8) rfl rfl rfl (by decide +kernel) ⟨Nat.le_of_ble_eq_true rfl, Nat.le_of_ble_eq_true rfl⟩) (dk_preV (kn_M, kt_M, 22) hE hP hS hh_3575 rfl) rfl rfl hl.1 rfl (lv_room (Nat.le_of_ble_eq_true rfl)) de_M_count_36 ⟨(by first | exact Nat.le_of_ble_eq_true rfl | (simp only [Nat.zero_add]; omega) | omega), (by first | exact Nat.le_of_ble_eq_true rfl | (simp only [Nat.zero_add]; omega) | omega)⟩) hS (fun r_3598 w_3596 H locs hq_3597 hP hS => ?_)
    obtain ⟨hr_3599, hq_3600, hf_3601⟩ := hq_3597
    subst hr_3599
    have hm_3602 : md_at G w_3596 h D ((μ.er' 0).er' 1) := hq_3600
    have hh_3603 : w_3596 h = some (100, .inr (cx_M, [.int (nI 1), .int (nI μ.n), .int (nI μ.sq), .int (nI μ.sf), .int (nI μ.rs), .int (rI μ.ba), .int (nI μ.pr), .int (nI μ.mi), .ref D.kf, .ref D.nf, .ref D.rf, .ref D.lf, .ref D.sv, .ref D.bk, .ref D.od, .ref D.vf, .ref D.bv, .ref D.df, .ref D.ss, .ref D.bd, .ref D.ks, .ref D.bt])) := hm_3602.o
    have ha_3604 : w_3596 D.kf = some (101, dk_ci G 700 (fun i9 => nI (μ.kf i9))) := hm_3602.kf
    have ha_3605 : w_3596 D.nf = some (102, dk_ci G 700 (fun i9 => nI (μ.nf i9))) := hm_3602.nf
    have ha_3606 : w_3596 D.rf = some (103, dk_ci G 700 (fun i9 => rI (μ.rf i9))) := hm_3602.rf
    have ha_3607 : w_3596 D.lf = some (104, dk_ci G 5000 (fun i9 => rI (μ.lf i9))) := hm_3602.lf
    have ha_3608 : w_3596 D.sv = some (105, dk_ci G 6 (fun i9 => nI (μ.sv i9))) := hm_3602.sv
    have ha_3609 : w_3596 D.bk = some (106, dk_ci G 16 (fun i9 => nI (μ.bk i9))) := hm_3602.bk
    have ha_3610 : w_3596 D.od = some (107, dk_ci G 700 (fun i9 => nI (μ.od i9))) := hm_3602.od
    have ha_3611 : w_3596 D.vf = some (108, dk_cl G 700 (fun i9 => μ.vf i9)) := hm_3602.vf
    have ha_3612 : w_3596 D.bv = some (109, dk_cl G 16 (fun i9 => μ.bv i9)) := hm_3602.bv
    have ha_3613 : w_3596 D.df = some (110, dk_cz G 700 (fun i9 => bo_i (μ.df i9))) := hm_3602.df
    have ha_3614 : w_3596 D.ss = some (111, dk_cz G 6 (fun i9 => bo_i (μ.ss i9))) := hm_3602.ss
    have ha_3615 : w_3596 D.bd = some (112, dk_cz G 16 (fun i9 => bo_i (μ.bd i9))) := hm_3602.bd
    have ha_3616 : w_3596 D.ks = some (113, dk_cz G 700 (fun i9 => bo_i (μ.ks i9))) := hm_3602.ks
    have ha_3617 : w_3596 D.bt = some (114, dk_cz G 6000 (fun i9 => bo_i (μ.bt i9))) := hm_3602.bt
    refine bo_if_eq (b := true) (tgt := 44) hx hb de_M_count_39 (by decide) (fun c_3618 => ?_) (fun c_3618 => ?_)
    · exact absurd c_3618 (by decide)
    · refine lv_iconst (v := nI 0) hx hb de_M_count_42 (by decide) ?_
      exact dk_iret hQ hx hb hr hlocks hP hS (Nat.le_refl _) (Nat.le_refl _) (⟨rfl, hm_3602, ((dk_fr.rf).tr ((dk_fr.up (T := md_T) hh_3556 (by unfold md_T; omega)).eq hw_3558)).tr (hf_3601)⟩) de_M_count_43
  · exact absurd c_3595 (by decide)
set_option maxHeartbeats 4000000 in
set_option maxRecDepth 100000 in
theorem c_M_countG (l : Launch) (G : dk_G) (w : dk_H) (h : Nat) (D : md_D) (μ : md_S) (hm : md_at G w h D μ) (hmo : md_ok μ) (q0 : Nat) (k : Int32) (hm0 : q0 < 2) (hk0 : im_b k (nI 0) (nI 5) = false) : dk_Mi l my_M_count (wd_c my_M_count mb_M_count 5 (some .int)) rm_M_count G w [.ref h, .int (nI q0), .int k] (fun r w1 => r = nI 0 ∧ md_at G w1 h D (μ.er' 1) ∧ dk_fr md_T w w1) 0 0 := by
  obtain ⟨ok1, ok2, ok3, ok4, ok5, ok6, ok7, ok8, ok9, ok10, ok11⟩ := id hmo
  refine dk_enter (lv := [(0, .ref h), (1, .int (nI q0)), (2, .int k)]) (by decide) (Nat.le_of_ble_eq_true rfl) rfl (fun p e s m args below meth c ls Q hQ C hP hS hl => ?_)
  obtain ⟨hx, hb, hr, hml, hlocks, hown, hnm, hts, hE⟩ := C
  have hK := hE.1
  have hN := hE.2.1
  have hh_3619 : w h = some (100, .inr (cx_M, [.int (nI μ.er), .int (nI μ.n), .int (nI μ.sq), .int (nI μ.sf), .int (nI μ.rs), .int (rI μ.ba), .int (nI μ.pr), .int (nI μ.mi), .ref D.kf, .ref D.nf, .ref D.rf, .ref D.lf, .ref D.sv, .ref D.bk, .ref D.od, .ref D.vf, .ref D.bv, .ref D.df, .ref D.ss, .ref D.bd, .ref D.ks, .ref D.bt])) := hm.o
  refine lv_aload_n hx hb de_M_count_0 rfl (lv_at hl 0 rfl) ?_
  refine lv_iconst (v := nI 0) hx hb de_M_count_1 (by decide) ?_
  refine dk_put (a := h) (v := .int (nI 0)) (ty := .int) (C := kn_M) (T := kt_M) (N := 22) hx hb hts ki_M ky_M kk_M kd_M hown hK hP hS hh_3619 rfl 0 (by decide) (hts _ wi_714) (fun _ h9 => h9) rfl (by decide +kernel) rfl rfl (Nat.le_of_ble_eq_true rfl) de_M_count_2 (fun H locs w_3620 hw_3621 hP hS => ?_)
  have h_3622 : w_3620 h = some (100, .inr (cx_M, [.int (nI 0), .int (nI μ.n), .int (nI μ.sq), .int (nI μ.sf), .int (nI μ.rs), .int (rI μ.ba), .int (nI μ.pr), .int (nI μ.mi), .ref D.kf, .ref D.nf, .ref D.rf, .ref D.lf, .ref D.sv, .ref D.bk, .ref D.od, .ref D.vf, .ref D.bv, .ref D.df, .ref D.ss, .ref D.bd, .ref D.ks, .ref D.bt])) := dk_here hw_3621
  have h_3623 : w_3620 D.kf = some (101, dk_ci G 700 (fun i9 => nI (μ.kf i9))) := dk_keep hw_3621 hh_3619 hm.kf (by decide)
  have h_3624 : w_3620 D.nf = some (102, dk_ci G 700 (fun i9 => nI (μ.nf i9))) := dk_keep hw_3621 hh_3619 hm.nf (by decide)
  have h_3625 : w_3620 D.rf = some (103, dk_ci G 700 (fun i9 => rI (μ.rf i9))) := dk_keep hw_3621 hh_3619 hm.rf (by decide)
  have h_3626 : w_3620 D.lf = some (104, dk_ci G 5000 (fun i9 => rI (μ.lf i9))) := dk_keep hw_3621 hh_3619 hm.lf (by decide)
  have h_3627 : w_3620 D.sv = some (105, dk_ci G 6 (fun i9 => nI (μ.sv i9))) := dk_keep hw_3621 hh_3619 hm.sv (by decide)
  have h_3628 : w_3620 D.bk = some (106, dk_ci G 16 (fun i9 => nI (μ.bk i9))) := dk_keep hw_3621 hh_3619 hm.bk (by decide)
  have h_3629 : w_3620 D.od = some (107, dk_ci G 700 (fun i9 => nI (μ.od i9))) := dk_keep hw_3621 hh_3619 hm.od (by decide)
  have h_3630 : w_3620 D.vf = some (108, dk_cl G 700 (fun i9 => μ.vf i9)) := dk_keep hw_3621 hh_3619 hm.vf (by decide)
  have h_3631 : w_3620 D.bv = some (109, dk_cl G 16 (fun i9 => μ.bv i9)) := dk_keep hw_3621 hh_3619 hm.bv (by decide)
  have h_3632 : w_3620 D.df = some (110, dk_cz G 700 (fun i9 => bo_i (μ.df i9))) := dk_keep hw_3621 hh_3619 hm.df (by decide)
  have h_3633 : w_3620 D.ss = some (111, dk_cz G 6 (fun i9 => bo_i (μ.ss i9))) := dk_keep hw_3621 hh_3619 hm.ss (by decide)
  have h_3634 : w_3620 D.bd = some (112, dk_cz G 16 (fun i9 => bo_i (μ.bd i9))) := dk_keep hw_3621 hh_3619 hm.bd (by decide)
  have h_3635 : w_3620 D.ks = some (113, dk_cz G 700 (fun i9 => bo_i (μ.ks i9))) := dk_keep hw_3621 hh_3619 hm.ks (by decide)
  have h_3636 : w_3620 D.bt = some (114, dk_cz G 6000 (fun i9 => bo_i (μ.bt i9))) := dk_keep hw_3621 hh_3619 hm.bt (by decide)
  have hm_3637 : md_at G w_3620 h D (μ.er' 0) := ⟨h_3622, h_3623, h_3624, h_3625, h_3626, h_3627, h_3628, h_3629, h_3630, h_3631, h_3632, h_3633, h_3634, h_3635, h_3636⟩
  have hh_3638 : w_3620 h = some (100, .inr (cx_M, [.int (nI 0), .int (nI μ.n), .int (nI μ.sq), .int (nI μ.sf), .int (nI μ.rs), .int (rI μ.ba), .int (nI μ.pr), .int (nI μ.mi), .ref D.kf, .ref D.nf, .ref D.rf, .ref D.lf, .ref D.sv, .ref D.bk, .ref D.od, .ref D.vf, .ref D.bv, .ref D.df, .ref D.ss, .ref D.bd, .ref D.ks, .ref D.bt])) := hm_3637.o
  have ha_3639 : w_3620 D.kf = some (101, dk_ci G 700 (fun i9 => nI (μ.kf i9))) := hm_3637.kf
  have ha_3640 : w_3620 D.nf = some (102, dk_ci G 700 (fun i9 => nI (μ.nf i9))) := hm_3637.nf
  have ha_3641 : w_3620 D.rf = some (103, dk_ci G 700 (fun i9 => rI (μ.rf i9))) := hm_3637.rf
  have ha_3642 : w_3620 D.lf = some (104, dk_ci G 5000 (fun i9 => rI (μ.lf i9))) := hm_3637.lf
  have ha_3643 : w_3620 D.sv = some (105, dk_ci G 6 (fun i9 => nI (μ.sv i9))) := hm_3637.sv
  have ha_3644 : w_3620 D.bk = some (106, dk_ci G 16 (fun i9 => nI (μ.bk i9))) := hm_3637.bk
  have ha_3645 : w_3620 D.od = some (107, dk_ci G 700 (fun i9 => nI (μ.od i9))) := hm_3637.od
  have ha_3646 : w_3620 D.vf = some (108, dk_cl G 700 (fun i9 => μ.vf i9)) := hm_3637.vf
  have ha_3647 : w_3620 D.bv = some (109, dk_cl G 16 (fun i9 => μ.bv i9)) := hm_3637.bv
  have ha_3648 : w_3620 D.df = some (110, dk_cz G 700 (fun i9 => bo_i (μ.df i9))) := hm_3637.df
  have ha_3649 : w_3620 D.ss = some (111, dk_cz G 6 (fun i9 => bo_i (μ.ss i9))) := hm_3637.ss
  have ha_3650 : w_3620 D.bd = some (112, dk_cz G 16 (fun i9 => bo_i (μ.bd i9))) := hm_3637.bd
  have ha_3651 : w_3620 D.ks = some (113, dk_cz G 700 (fun i9 => bo_i (μ.ks i9))) := hm_3637.ks
  have ha_3652 : w_3620 D.bt = some (114, dk_cz G 6000 (fun i9 => bo_i (μ.bt i9))) := hm_3637.bt
  refine lv_aload_n hx hb de_M_count_5 rfl (lv_at hl 0 rfl) ?_
  refine lv_iload_n hx hb de_M_count_6 rfl (lv_at hl 1 rfl) ?_
  refine lv_iconst (v := nI 0) hx hb de_M_count_7 (by decide) ?_
  refine lv_bipush (v := nI 9) hx hb de_M_count_8 (by decide) ?_
  refine dk_calli (va_runS (As := [.int (nI q0), .int (nI 0), .int (nI 9)]) (rest := [.ref h]) ⟨hx, hb, hml, hown, hts⟩ (c_M_in l G w_3620 (nI q0) (nI 0) (nI 9)) (va_cwS 3 hts (wd_gS wi_795 wi_793 wi_794 wi_8) rfl rfl rfl (by decide +kernel) ⟨Nat.le_of_ble_eq_true rfl, Nat.le_of_ble_eq_true rfl⟩) (dk_preS hE hP hS) rfl rfl hl.1 rfl (lv_room (Nat.le_of_ble_eq_true rfl)) de_M_count_10 ⟨(by first | exact Nat.le_of_ble_eq_true rfl | (simp only [Nat.zero_add]; omega) | omega), (by first | exact Nat.le_of_ble_eq_true rfl | (simp only [Nat.zero_add]; omega) | omega)⟩) hS (fun r_3655 w_3653 H locs hq_3654 hP hS => ?_)
  rw [im_y (by decide) (by omega)] at hq_3654
  obtain ⟨hr_3656, he_3657⟩ := hq_3654
  subst hr_3656
  rw [he_3657] at hP
  refine bo_if_eq (b := true) (tgt := 30) hx hb de_M_count_13 (by decide) (fun c_3658 => ?_) (fun c_3658 => ?_)
  · exact absurd c_3658 (by decide)
  · refine lv_iload_n hx hb de_M_count_16 rfl (lv_at hl 1 rfl) ?_
    refine lv_iconst (v := nI 2) hx hb de_M_count_17 (by decide) ?_
    refine nx_icmp_ge (a := q0) (b := 2) (tgt := 34) hx hb (by omega) (by omega) de_M_count_18 (by decide) (fun c_3659 => ?_) (fun c_3659 => ?_)
    · exact absurd c_3659 (by omega)
    · refine lv_iload_n hx hb de_M_count_21 rfl (lv_at hl 2 rfl) ?_
      refine lv_iconst (v := nI 0) hx hb de_M_count_22 (by decide) ?_
      refine lv_iconst (v := nI 5) hx hb de_M_count_23 (by decide) ?_
      refine dk_calli (va_runS (As := [.int k, .int (nI 0), .int (nI 5)]) (rest := [.ref h]) ⟨hx, hb, hml, hown, hts⟩ (c_M_in l G w_3620 k (nI 0) (nI 5)) (va_cwS 3 hts (wd_gS wi_795 wi_793 wi_794 wi_8) rfl rfl rfl (by decide +kernel) ⟨Nat.le_of_ble_eq_true rfl, Nat.le_of_ble_eq_true rfl⟩) (dk_preS hE hP hS) rfl rfl hl.1 rfl (lv_room (Nat.le_of_ble_eq_true rfl)) de_M_count_24 ⟨(by first | exact Nat.le_of_ble_eq_true rfl | (simp only [Nat.zero_add]; omega) | omega), (by first | exact Nat.le_of_ble_eq_true rfl | (simp only [Nat.zero_add]; omega) | omega)⟩) hS (fun r_3662 w_3660 H locs hq_3661 hP hS => ?_)
      rw [hk0] at hq_3661
      obtain ⟨hr_3663, he_3664⟩ := hq_3661
      subst hr_3663
      rw [he_3664] at hP
      refine bo_if_ne (b := false) (tgt := 34) hx hb de_M_count_27 (by decide) (fun c_3665 => ?_) (fun c_3665 => ?_)
      · exact absurd c_3665 (by decide)
      · refine lv_iconst (v := nI 1) hx hb de_M_count_30 (by decide) ?_
        refine lv_goto (tgt := 35) hx hb de_M_count_31 (by decide) ?_
        refine lv_iconst (v := nI 1) hx hb de_M_count_35 (by decide) ?_
        rw [show (nI 1) = bo_i true from (by decide)]
        refine dk_calli (va_runV (As := [.int (bo_i true), .int (nI 1)]) (rest := []) ⟨hx, hb, hml, hown, hts⟩ (c_M_fails l G w_3620 h D (μ.er' 0) hm_3637 true 1 (by decide) (by decide) (show (0 : Nat) < 3 by decide)) (cwV 2 hts (wd_gV (C := "RunKeeperModel") wi_799 wi_796 wi_798 (wd_p (q := (⟨"RunKeeperModel", "fails", "(ZI)Z"⟩, 22)) (by decide +kernel) (by decide +kernel)) wi_8) rfl rfl rfl (by decide +kernel) ⟨Nat.le_of_ble_eq_true rfl, Nat.le_of_ble_eq_true rfl⟩) (dk_preV (kn_M, kt_M, 22) hE hP hS hh_3638 rfl) rfl rfl hl.1 rfl (lv_room (Nat.le_of_ble_eq_true rfl)) de_M_count_36 ⟨(by first | exact Nat.le_of_ble_eq_true rfl | (simp only [Nat.zero_add]; omega) | omega), (by first | exact Nat.le_of_ble_eq_true rfl | (simp only [Nat.zero_add]; omega) | omega)⟩) hS (fun r_3668 w_3666 H locs hq_3667 hP hS => ?_)
        obtain ⟨hr_3669, hq_3670, hf_3671⟩ := hq_3667
        subst hr_3669
        have hm_3672 : md_at G w_3666 h D ((μ.er' 0).er' 1) := hq_3670
        have hh_3673 : w_3666 h = some (100, .inr (cx_M, [.int (nI 1), .int (nI μ.n), .int (nI μ.sq), .int (nI μ.sf), .int (nI μ.rs), .int (rI μ.ba), .int (nI μ.pr), .int (nI μ.mi), .ref D.kf, .ref D.nf, .ref D.rf, .ref D.lf, .ref D.sv, .ref D.bk, .ref D.od, .ref D.vf, .ref D.bv, .ref D.df, .ref D.ss, .ref D.bd, .ref D.ks, .ref D.bt])) := hm_3672.o
        have ha_3674 : w_3666 D.kf = some (101, dk_ci G 700 (fun i9 => nI (μ.kf i9))) := hm_3672.kf
        have ha_3675 : w_3666 D.nf = some (102, dk_ci G 700 (fun i9 => nI (μ.nf i9))) := hm_3672.nf
        have ha_3676 : w_3666 D.rf = some (103, dk_ci G 700 (fun i9 => rI (μ.rf i9))) := hm_3672.rf
        have ha_3677 : w_3666 D.lf = some (104, dk_ci G 5000 (fun i9 => rI (μ.lf i9))) := hm_3672.lf
        have ha_3678 : w_3666 D.sv = some (105, dk_ci G 6 (fun i9 => nI (μ.sv i9))) := hm_3672.sv
        have ha_3679 : w_3666 D.bk = some (106, dk_ci G 16 (fun i9 => nI (μ.bk i9))) := hm_3672.bk
        have ha_3680 : w_3666 D.od = some (107, dk_ci G 700 (fun i9 => nI (μ.od i9))) := hm_3672.od
        have ha_3681 : w_3666 D.vf = some (108, dk_cl G 700 (fun i9 => μ.vf i9)) := hm_3672.vf
        have ha_3682 : w_3666 D.bv = some (109, dk_cl G 16 (fun i9 => μ.bv i9)) := hm_3672.bv
        have ha_3683 : w_3666 D.df = some (110, dk_cz G 700 (fun i9 => bo_i (μ.df i9))) := hm_3672.df
        have ha_3684 : w_3666 D.ss = some (111, dk_cz G 6 (fun i9 => bo_i (μ.ss i9))) := hm_3672.ss
        have ha_3685 : w_3666 D.bd = some (112, dk_cz G 16 (fun i9 => bo_i (μ.bd i9))) := hm_3672.bd
        have ha_3686 : w_3666 D.ks = some (113, dk_cz G 700 (fun i9 => bo_i (μ.ks i9))) := hm_3672.ks
        have ha_3687 : w_3666 D.bt = some (114, dk_cz G 6000 (fun i9 => bo_i (μ.bt i9))) := hm_3672.bt
        refine bo_if_eq (b := true) (tgt := 44) hx hb de_M_count_39 (by decide) (fun c_3688 => ?_) (fun c_3688 => ?_)
        · exact absurd c_3688 (by decide)
        · refine lv_iconst (v := nI 0) hx hb de_M_count_42 (by decide) ?_
          exact dk_iret hQ hx hb hr hlocks hP hS (Nat.le_refl _) (Nat.le_refl _) (⟨rfl, hm_3672, ((dk_fr.rf).tr ((dk_fr.up (T := md_T) hh_3619 (by unfold md_T; omega)).eq hw_3621)).tr (hf_3671)⟩) de_M_count_43
set_option maxHeartbeats 4000000 in
set_option maxRecDepth 100000 in
theorem c_M_count0 (l : Launch) (G : dk_G) (w : dk_H) (h : Nat) (D : md_D) (μ : md_S) (hm : md_at G w h D μ) (hmo : md_ok μ) (i : Nat) (hi6 : i < 6) : dk_Mi l my_M_count (wd_c my_M_count mb_M_count 5 (some .int)) rm_M_count G w [.ref h, .int (nI 0), .int (nI i)] (fun r w1 => r = nI (ct_f (fun r => decide (μ.lf r = some i)) μ.rs) ∧ md_at G w1 h D (μ.er' 0) ∧ dk_fr md_T w w1) 0 0 := by
  obtain ⟨ok1, ok2, ok3, ok4, ok5, ok6, ok7, ok8, ok9, ok10, ok11⟩ := id hmo
  refine dk_enter (lv := [(0, .ref h), (1, .int (nI 0)), (2, .int (nI i))]) (by decide) (Nat.le_of_ble_eq_true rfl) rfl (fun p e s m args below meth c ls Q hQ C hP hS hl => ?_)
  obtain ⟨hx, hb, hr, hml, hlocks, hown, hnm, hts, hE⟩ := C
  have hK := hE.1
  have hN := hE.2.1
  have hh_3689 : w h = some (100, .inr (cx_M, [.int (nI μ.er), .int (nI μ.n), .int (nI μ.sq), .int (nI μ.sf), .int (nI μ.rs), .int (rI μ.ba), .int (nI μ.pr), .int (nI μ.mi), .ref D.kf, .ref D.nf, .ref D.rf, .ref D.lf, .ref D.sv, .ref D.bk, .ref D.od, .ref D.vf, .ref D.bv, .ref D.df, .ref D.ss, .ref D.bd, .ref D.ks, .ref D.bt])) := hm.o
  refine lv_aload_n hx hb de_M_count_0 rfl (lv_at hl 0 rfl) ?_
  refine lv_iconst (v := nI 0) hx hb de_M_count_1 (by decide) ?_
  refine dk_put (a := h) (v := .int (nI 0)) (ty := .int) (C := kn_M) (T := kt_M) (N := 22) hx hb hts ki_M ky_M kk_M kd_M hown hK hP hS hh_3689 rfl 0 (by decide) (hts _ wi_714) (fun _ h9 => h9) rfl (by decide +kernel) rfl rfl (Nat.le_of_ble_eq_true rfl) de_M_count_2 (fun H locs w_3690 hw_3691 hP hS => ?_)
  have h_3692 : w_3690 h = some (100, .inr (cx_M, [.int (nI 0), .int (nI μ.n), .int (nI μ.sq), .int (nI μ.sf), .int (nI μ.rs), .int (rI μ.ba), .int (nI μ.pr), .int (nI μ.mi), .ref D.kf, .ref D.nf, .ref D.rf, .ref D.lf, .ref D.sv, .ref D.bk, .ref D.od, .ref D.vf, .ref D.bv, .ref D.df, .ref D.ss, .ref D.bd, .ref D.ks, .ref D.bt])) := dk_here hw_3691
  have h_3693 : w_3690 D.kf = some (101, dk_ci G 700 (fun i9 => nI (μ.kf i9))) := dk_keep hw_3691 hh_3689 hm.kf (by decide)
  have h_3694 : w_3690 D.nf = some (102, dk_ci G 700 (fun i9 => nI (μ.nf i9))) := dk_keep hw_3691 hh_3689 hm.nf (by decide)
  have h_3695 : w_3690 D.rf = some (103, dk_ci G 700 (fun i9 => rI (μ.rf i9))) := dk_keep hw_3691 hh_3689 hm.rf (by decide)
  have h_3696 : w_3690 D.lf = some (104, dk_ci G 5000 (fun i9 => rI (μ.lf i9))) := dk_keep hw_3691 hh_3689 hm.lf (by decide)
  have h_3697 : w_3690 D.sv = some (105, dk_ci G 6 (fun i9 => nI (μ.sv i9))) := dk_keep hw_3691 hh_3689 hm.sv (by decide)
  have h_3698 : w_3690 D.bk = some (106, dk_ci G 16 (fun i9 => nI (μ.bk i9))) := dk_keep hw_3691 hh_3689 hm.bk (by decide)
  have h_3699 : w_3690 D.od = some (107, dk_ci G 700 (fun i9 => nI (μ.od i9))) := dk_keep hw_3691 hh_3689 hm.od (by decide)
  have h_3700 : w_3690 D.vf = some (108, dk_cl G 700 (fun i9 => μ.vf i9)) := dk_keep hw_3691 hh_3689 hm.vf (by decide)
  have h_3701 : w_3690 D.bv = some (109, dk_cl G 16 (fun i9 => μ.bv i9)) := dk_keep hw_3691 hh_3689 hm.bv (by decide)
  have h_3702 : w_3690 D.df = some (110, dk_cz G 700 (fun i9 => bo_i (μ.df i9))) := dk_keep hw_3691 hh_3689 hm.df (by decide)
  have h_3703 : w_3690 D.ss = some (111, dk_cz G 6 (fun i9 => bo_i (μ.ss i9))) := dk_keep hw_3691 hh_3689 hm.ss (by decide)
  have h_3704 : w_3690 D.bd = some (112, dk_cz G 16 (fun i9 => bo_i (μ.bd i9))) := dk_keep hw_3691 hh_3689 hm.bd (by decide)
  have h_3705 : w_3690 D.ks = some (113, dk_cz G 700 (fun i9 => bo_i (μ.ks i9))) := dk_keep hw_3691 hh_3689 hm.ks (by decide)
  have h_3706 : w_3690 D.bt = some (114, dk_cz G 6000 (fun i9 => bo_i (μ.bt i9))) := dk_keep hw_3691 hh_3689 hm.bt (by decide)
  have hm_3707 : md_at G w_3690 h D (μ.er' 0) := ⟨h_3692, h_3693, h_3694, h_3695, h_3696, h_3697, h_3698, h_3699, h_3700, h_3701, h_3702, h_3703, h_3704, h_3705, h_3706⟩
  have hh_3708 : w_3690 h = some (100, .inr (cx_M, [.int (nI 0), .int (nI μ.n), .int (nI μ.sq), .int (nI μ.sf), .int (nI μ.rs), .int (rI μ.ba), .int (nI μ.pr), .int (nI μ.mi), .ref D.kf, .ref D.nf, .ref D.rf, .ref D.lf, .ref D.sv, .ref D.bk, .ref D.od, .ref D.vf, .ref D.bv, .ref D.df, .ref D.ss, .ref D.bd, .ref D.ks, .ref D.bt])) := hm_3707.o
  have ha_3709 : w_3690 D.kf = some (101, dk_ci G 700 (fun i9 => nI (μ.kf i9))) := hm_3707.kf
  have ha_3710 : w_3690 D.nf = some (102, dk_ci G 700 (fun i9 => nI (μ.nf i9))) := hm_3707.nf
  have ha_3711 : w_3690 D.rf = some (103, dk_ci G 700 (fun i9 => rI (μ.rf i9))) := hm_3707.rf
  have ha_3712 : w_3690 D.lf = some (104, dk_ci G 5000 (fun i9 => rI (μ.lf i9))) := hm_3707.lf
  have ha_3713 : w_3690 D.sv = some (105, dk_ci G 6 (fun i9 => nI (μ.sv i9))) := hm_3707.sv
  have ha_3714 : w_3690 D.bk = some (106, dk_ci G 16 (fun i9 => nI (μ.bk i9))) := hm_3707.bk
  have ha_3715 : w_3690 D.od = some (107, dk_ci G 700 (fun i9 => nI (μ.od i9))) := hm_3707.od
  have ha_3716 : w_3690 D.vf = some (108, dk_cl G 700 (fun i9 => μ.vf i9)) := hm_3707.vf
  have ha_3717 : w_3690 D.bv = some (109, dk_cl G 16 (fun i9 => μ.bv i9)) := hm_3707.bv
  have ha_3718 : w_3690 D.df = some (110, dk_cz G 700 (fun i9 => bo_i (μ.df i9))) := hm_3707.df
  have ha_3719 : w_3690 D.ss = some (111, dk_cz G 6 (fun i9 => bo_i (μ.ss i9))) := hm_3707.ss
  have ha_3720 : w_3690 D.bd = some (112, dk_cz G 16 (fun i9 => bo_i (μ.bd i9))) := hm_3707.bd
  have ha_3721 : w_3690 D.ks = some (113, dk_cz G 700 (fun i9 => bo_i (μ.ks i9))) := hm_3707.ks
  have ha_3722 : w_3690 D.bt = some (114, dk_cz G 6000 (fun i9 => bo_i (μ.bt i9))) := hm_3707.bt
  refine lv_aload_n hx hb de_M_count_5 rfl (lv_at hl 0 rfl) ?_
  refine lv_iload_n hx hb de_M_count_6 rfl (lv_at hl 1 rfl) ?_
  refine lv_iconst (v := nI 0) hx hb de_M_count_7 (by decide) ?_
  refine lv_bipush (v := nI 9) hx hb de_M_count_8 (by decide) ?_
  refine dk_calli (va_runS (As := [.int (nI 0), .int (nI 0), .int (nI 9)]) (rest := [.ref h]) ⟨hx, hb, hml, hown, hts⟩ (c_M_in l G w_3690 (nI 0) (nI 0) (nI 9)) (va_cwS 3 hts (wd_gS wi_795 wi_793 wi_794 wi_8) rfl rfl rfl (by decide +kernel) ⟨Nat.le_of_ble_eq_true rfl, Nat.le_of_ble_eq_true rfl⟩) (dk_preS hE hP hS) rfl rfl hl.1 rfl (lv_room (Nat.le_of_ble_eq_true rfl)) de_M_count_10 ⟨(by first | exact Nat.le_of_ble_eq_true rfl | (simp only [Nat.zero_add]; omega) | omega), (by first | exact Nat.le_of_ble_eq_true rfl | (simp only [Nat.zero_add]; omega) | omega)⟩) hS (fun r_3725 w_3723 H locs hq_3724 hP hS => ?_)
  rw [im_y (by decide) (by omega)] at hq_3724
  obtain ⟨hr_3726, he_3727⟩ := hq_3724
  subst hr_3726
  rw [he_3727] at hP
  refine bo_if_eq (b := true) (tgt := 30) hx hb de_M_count_13 (by decide) (fun c_3728 => ?_) (fun c_3728 => ?_)
  · exact absurd c_3728 (by decide)
  · refine lv_iload_n hx hb de_M_count_16 rfl (lv_at hl 1 rfl) ?_
    refine lv_iconst (v := nI 2) hx hb de_M_count_17 (by decide) ?_
    refine nx_icmp_ge (a := 0) (b := 2) (tgt := 34) hx hb (by omega) (by omega) de_M_count_18 (by decide) (fun c_3729 => ?_) (fun c_3729 => ?_)
    · exact absurd c_3729 (by omega)
    · refine lv_iload_n hx hb de_M_count_21 rfl (lv_at hl 2 rfl) ?_
      refine lv_iconst (v := nI 0) hx hb de_M_count_22 (by decide) ?_
      refine lv_iconst (v := nI 5) hx hb de_M_count_23 (by decide) ?_
      refine dk_calli (va_runS (As := [.int (nI i), .int (nI 0), .int (nI 5)]) (rest := [.ref h]) ⟨hx, hb, hml, hown, hts⟩ (c_M_in l G w_3690 (nI i) (nI 0) (nI 5)) (va_cwS 3 hts (wd_gS wi_795 wi_793 wi_794 wi_8) rfl rfl rfl (by decide +kernel) ⟨Nat.le_of_ble_eq_true rfl, Nat.le_of_ble_eq_true rfl⟩) (dk_preS hE hP hS) rfl rfl hl.1 rfl (lv_room (Nat.le_of_ble_eq_true rfl)) de_M_count_24 ⟨(by first | exact Nat.le_of_ble_eq_true rfl | (simp only [Nat.zero_add]; omega) | omega), (by first | exact Nat.le_of_ble_eq_true rfl | (simp only [Nat.zero_add]; omega) | omega)⟩) hS (fun r_3732 w_3730 H locs hq_3731 hP hS => ?_)
      rw [im_y (by decide) (by omega)] at hq_3731
      obtain ⟨hr_3733, he_3734⟩ := hq_3731
      subst hr_3733
      rw [he_3734] at hP
      refine bo_if_ne (b := true) (tgt := 34) hx hb de_M_count_27 (by decide) (fun c_3735 => ?_) (fun c_3735 => ?_)
      · refine lv_iconst (v := nI 0) hx hb de_M_count_34 (by decide) ?_
        refine lv_iconst (v := nI 1) hx hb de_M_count_35 (by decide) ?_
        rw [show (nI 0) = bo_i false from (by decide)]
        refine dk_calli (va_runV (As := [.int (bo_i false), .int (nI 1)]) (rest := []) ⟨hx, hb, hml, hown, hts⟩ (c_M_fails l G w_3690 h D (μ.er' 0) hm_3707 false 1 (by decide) (by decide) (show (0 : Nat) < 3 by decide)) (cwV 2 hts (wd_gV (C := "RunKeeperModel") wi_799 wi_796 wi_798 (wd_p (q := (⟨"RunKeeperModel", "fails", "(ZI)Z"⟩, 22)) (by decide +kernel) (by decide +kernel)) wi_8) rfl rfl rfl (by decide +kernel) ⟨Nat.le_of_ble_eq_true rfl, Nat.le_of_ble_eq_true rfl⟩) (dk_preV (kn_M, kt_M, 22) hE hP hS hh_3708 rfl) rfl rfl hl.1 rfl (lv_room (Nat.le_of_ble_eq_true rfl)) de_M_count_36 ⟨(by first | exact Nat.le_of_ble_eq_true rfl | (simp only [Nat.zero_add]; omega) | omega), (by first | exact Nat.le_of_ble_eq_true rfl | (simp only [Nat.zero_add]; omega) | omega)⟩) hS (fun r_3738 w_3736 H locs hq_3737 hP hS => ?_)
        obtain ⟨hr_3739, hq_3740, hf_3741⟩ := hq_3737
        subst hr_3739
        have hm_3742 : md_at G w_3736 h D ((μ.er' 0).er' 0) := hq_3740
        have hh_3743 : w_3736 h = some (100, .inr (cx_M, [.int (nI 0), .int (nI μ.n), .int (nI μ.sq), .int (nI μ.sf), .int (nI μ.rs), .int (rI μ.ba), .int (nI μ.pr), .int (nI μ.mi), .ref D.kf, .ref D.nf, .ref D.rf, .ref D.lf, .ref D.sv, .ref D.bk, .ref D.od, .ref D.vf, .ref D.bv, .ref D.df, .ref D.ss, .ref D.bd, .ref D.ks, .ref D.bt])) := hm_3742.o
        have ha_3744 : w_3736 D.kf = some (101, dk_ci G 700 (fun i9 => nI (μ.kf i9))) := hm_3742.kf
        have ha_3745 : w_3736 D.nf = some (102, dk_ci G 700 (fun i9 => nI (μ.nf i9))) := hm_3742.nf
        have ha_3746 : w_3736 D.rf = some (103, dk_ci G 700 (fun i9 => rI (μ.rf i9))) := hm_3742.rf
        have ha_3747 : w_3736 D.lf = some (104, dk_ci G 5000 (fun i9 => rI (μ.lf i9))) := hm_3742.lf
        have ha_3748 : w_3736 D.sv = some (105, dk_ci G 6 (fun i9 => nI (μ.sv i9))) := hm_3742.sv
        have ha_3749 : w_3736 D.bk = some (106, dk_ci G 16 (fun i9 => nI (μ.bk i9))) := hm_3742.bk
        have ha_3750 : w_3736 D.od = some (107, dk_ci G 700 (fun i9 => nI (μ.od i9))) := hm_3742.od
        have ha_3751 : w_3736 D.vf = some (108, dk_cl G 700 (fun i9 => μ.vf i9)) := hm_3742.vf
        have ha_3752 : w_3736 D.bv = some (109, dk_cl G 16 (fun i9 => μ.bv i9)) := hm_3742.bv
        have ha_3753 : w_3736 D.df = some (110, dk_cz G 700 (fun i9 => bo_i (μ.df i9))) := hm_3742.df
        have ha_3754 : w_3736 D.ss = some (111, dk_cz G 6 (fun i9 => bo_i (μ.ss i9))) := hm_3742.ss
        have ha_3755 : w_3736 D.bd = some (112, dk_cz G 16 (fun i9 => bo_i (μ.bd i9))) := hm_3742.bd
        have ha_3756 : w_3736 D.ks = some (113, dk_cz G 700 (fun i9 => bo_i (μ.ks i9))) := hm_3742.ks
        have ha_3757 : w_3736 D.bt = some (114, dk_cz G 6000 (fun i9 => bo_i (μ.bt i9))) := hm_3742.bt
        refine bo_if_eq (b := false) (tgt := 44) hx hb de_M_count_39 (by decide) (fun c_3758 => ?_) (fun c_3758 => ?_)
        · refine lv_iconst (v := nI 0) hx hb de_M_count_44 (by decide) ?_
          refine lv_istore_n (lv' := [(3, .int (nI 0)), (0, .ref h), (1, .int (nI 0)), (2, .int (nI i))]) hx hb de_M_count_45 rfl hl (by decide) rfl (fun ls hl => ?_)
          refine lv_iload_n hx hb de_M_count_46 rfl (lv_at hl 2 rfl) ?_
          have hmo2 : md_ok ((μ.er' 0).er' 0) := ⟨ok1, ok2, ok3, ok4, ok5, ok6, ok7, ok8, ok9, ok10, show (0 : Nat) < 3 by decide⟩
          refine lv_tableIn (x := nI 0) (off := 49) (tgt := 96) hx hb de_M_count_47 (by decide) (by decide) (by decide) (by decide) ?_
          refine lv_aload_n hx hb de_M_count_96 rfl (lv_at hl 1 rfl) ?_
          refine lv_iload_n hx hb de_M_count_97 rfl (lv_at hl 3 rfl) ?_
          refine dk_calli (va_runV (As := [.int (nI i)]) (rest := []) ⟨hx, hb, hml, hown, hts⟩ (c_M_runsOf l G w_3736 h D ((μ.er' 0).er' 0) hm_3742 hmo2 (some i) (fun r hr => by cases hr; omega)) (cwV 1 hts (wd_gV (C := "RunKeeperModel") wi_843 wi_840 wi_842 (wd_p (q := (⟨"RunKeeperModel", "runsOf", "(I)I"⟩, 22)) (by decide +kernel) (by decide +kernel)) wi_8) rfl rfl rfl (by decide +kernel) ⟨Nat.le_of_ble_eq_true rfl, Nat.le_of_ble_eq_true rfl⟩) (dk_preV (kn_M, kt_M, 22) hE hP hS hh_3743 rfl) rfl rfl hl.1 rfl (lv_room (Nat.le_of_ble_eq_true rfl)) de_M_count_98 ⟨(by first | exact Nat.le_of_ble_eq_true rfl | (simp only [Nat.zero_add]; omega) | omega), (by first | exact Nat.le_of_ble_eq_true rfl | (simp only [Nat.zero_add]; omega) | omega)⟩) hS (fun r_3761 w_3759 H locs hq_3760 hP hS => ?_)
          obtain ⟨hr_3762, he_3763⟩ := hq_3760
          subst hr_3762
          rw [he_3763] at hP
          exact dk_iret hQ hx hb hr hlocks hP hS (Nat.le_refl _) (Nat.le_refl _) (⟨rfl, hm_3742, ((dk_fr.rf).tr ((dk_fr.up (T := md_T) hh_3689 (by unfold md_T; omega)).eq hw_3691)).tr (hf_3741)⟩) de_M_count_101
        · exact absurd c_3758 (by decide)
      · exact absurd c_3735 (by decide)
set_option maxHeartbeats 4000000 in
set_option maxRecDepth 100000 in
theorem c_M_count1 (l : Launch) (G : dk_G) (w : dk_H) (h : Nat) (D : md_D) (μ : md_S) (hm : md_at G w h D μ) (hmo : md_ok μ) (i : Nat) (hi6 : i < 6) : dk_Mi l my_M_count (wd_c my_M_count mb_M_count 5 (some .int)) rm_M_count G w [.ref h, .int (nI 1), .int (nI i)] (fun r w1 => r = nI (ct_f (fun j => at_l μ j i) μ.n) ∧ md_at G w1 h D (μ.er' 0) ∧ dk_fr md_T w w1) 0 0 := by
  obtain ⟨ok1, ok2, ok3, ok4, ok5, ok6, ok7, ok8, ok9, ok10, ok11⟩ := id hmo
  refine dk_enter (lv := [(0, .ref h), (1, .int (nI 1)), (2, .int (nI i))]) (by decide) (Nat.le_of_ble_eq_true rfl) rfl (fun p e s m args below meth c ls Q hQ C hP hS hl => ?_)
  obtain ⟨hx, hb, hr, hml, hlocks, hown, hnm, hts, hE⟩ := C
  have hK := hE.1
  have hN := hE.2.1
  have hh_3764 : w h = some (100, .inr (cx_M, [.int (nI μ.er), .int (nI μ.n), .int (nI μ.sq), .int (nI μ.sf), .int (nI μ.rs), .int (rI μ.ba), .int (nI μ.pr), .int (nI μ.mi), .ref D.kf, .ref D.nf, .ref D.rf, .ref D.lf, .ref D.sv, .ref D.bk, .ref D.od, .ref D.vf, .ref D.bv, .ref D.df, .ref D.ss, .ref D.bd, .ref D.ks, .ref D.bt])) := hm.o
  refine lv_aload_n hx hb de_M_count_0 rfl (lv_at hl 0 rfl) ?_
  refine lv_iconst (v := nI 0) hx hb de_M_count_1 (by decide) ?_
  refine dk_put (a := h) (v := .int (nI 0)) (ty := .int) (C := kn_M) (T := kt_M) (N := 22) hx hb hts ki_M ky_M kk_M kd_M hown hK hP hS hh_3764 rfl 0 (by decide) (hts _ wi_714) (fun _ h9 => h9) rfl (by decide +kernel) rfl rfl (Nat.le_of_ble_eq_true rfl) de_M_count_2 (fun H locs w_3765 hw_3766 hP hS => ?_)
  have h_3767 : w_3765 h = some (100, .inr (cx_M, [.int (nI 0), .int (nI μ.n), .int (nI μ.sq), .int (nI μ.sf), .int (nI μ.rs), .int (rI μ.ba), .int (nI μ.pr), .int (nI μ.mi), .ref D.kf, .ref D.nf, .ref D.rf, .ref D.lf, .ref D.sv, .ref D.bk, .ref D.od, .ref D.vf, .ref D.bv, .ref D.df, .ref D.ss, .ref D.bd, .ref D.ks, .ref D.bt])) := dk_here hw_3766
  have h_3768 : w_3765 D.kf = some (101, dk_ci G 700 (fun i9 => nI (μ.kf i9))) := dk_keep hw_3766 hh_3764 hm.kf (by decide)
  have h_3769 : w_3765 D.nf = some (102, dk_ci G 700 (fun i9 => nI (μ.nf i9))) := dk_keep hw_3766 hh_3764 hm.nf (by decide)
  have h_3770 : w_3765 D.rf = some (103, dk_ci G 700 (fun i9 => rI (μ.rf i9))) := dk_keep hw_3766 hh_3764 hm.rf (by decide)
  have h_3771 : w_3765 D.lf = some (104, dk_ci G 5000 (fun i9 => rI (μ.lf i9))) := dk_keep hw_3766 hh_3764 hm.lf (by decide)
  have h_3772 : w_3765 D.sv = some (105, dk_ci G 6 (fun i9 => nI (μ.sv i9))) := dk_keep hw_3766 hh_3764 hm.sv (by decide)
  have h_3773 : w_3765 D.bk = some (106, dk_ci G 16 (fun i9 => nI (μ.bk i9))) := dk_keep hw_3766 hh_3764 hm.bk (by decide)
  have h_3774 : w_3765 D.od = some (107, dk_ci G 700 (fun i9 => nI (μ.od i9))) := dk_keep hw_3766 hh_3764 hm.od (by decide)
  have h_3775 : w_3765 D.vf = some (108, dk_cl G 700 (fun i9 => μ.vf i9)) := dk_keep hw_3766 hh_3764 hm.vf (by decide)
  have h_3776 : w_3765 D.bv = some (109, dk_cl G 16 (fun i9 => μ.bv i9)) := dk_keep hw_3766 hh_3764 hm.bv (by decide)
  have h_3777 : w_3765 D.df = some (110, dk_cz G 700 (fun i9 => bo_i (μ.df i9))) := dk_keep hw_3766 hh_3764 hm.df (by decide)
  have h_3778 : w_3765 D.ss = some (111, dk_cz G 6 (fun i9 => bo_i (μ.ss i9))) := dk_keep hw_3766 hh_3764 hm.ss (by decide)
  have h_3779 : w_3765 D.bd = some (112, dk_cz G 16 (fun i9 => bo_i (μ.bd i9))) := dk_keep hw_3766 hh_3764 hm.bd (by decide)
  have h_3780 : w_3765 D.ks = some (113, dk_cz G 700 (fun i9 => bo_i (μ.ks i9))) := dk_keep hw_3766 hh_3764 hm.ks (by decide)
  have h_3781 : w_3765 D.bt = some (114, dk_cz G 6000 (fun i9 => bo_i (μ.bt i9))) := dk_keep hw_3766 hh_3764 hm.bt (by decide)
  have hm_3782 : md_at G w_3765 h D (μ.er' 0) := ⟨h_3767, h_3768, h_3769, h_3770, h_3771, h_3772, h_3773, h_3774, h_3775, h_3776, h_3777, h_3778, h_3779, h_3780, h_3781⟩
  have hh_3783 : w_3765 h = some (100, .inr (cx_M, [.int (nI 0), .int (nI μ.n), .int (nI μ.sq), .int (nI μ.sf), .int (nI μ.rs), .int (rI μ.ba), .int (nI μ.pr), .int (nI μ.mi), .ref D.kf, .ref D.nf, .ref D.rf, .ref D.lf, .ref D.sv, .ref D.bk, .ref D.od, .ref D.vf, .ref D.bv, .ref D.df, .ref D.ss, .ref D.bd, .ref D.ks, .ref D.bt])) := hm_3782.o
  have ha_3784 : w_3765 D.kf = some (101, dk_ci G 700 (fun i9 => nI (μ.kf i9))) := hm_3782.kf
  have ha_3785 : w_3765 D.nf = some (102, dk_ci G 700 (fun i9 => nI (μ.nf i9))) := hm_3782.nf
  have ha_3786 : w_3765 D.rf = some (103, dk_ci G 700 (fun i9 => rI (μ.rf i9))) := hm_3782.rf
  have ha_3787 : w_3765 D.lf = some (104, dk_ci G 5000 (fun i9 => rI (μ.lf i9))) := hm_3782.lf
  have ha_3788 : w_3765 D.sv = some (105, dk_ci G 6 (fun i9 => nI (μ.sv i9))) := hm_3782.sv
  have ha_3789 : w_3765 D.bk = some (106, dk_ci G 16 (fun i9 => nI (μ.bk i9))) := hm_3782.bk
  have ha_3790 : w_3765 D.od = some (107, dk_ci G 700 (fun i9 => nI (μ.od i9))) := hm_3782.od
  have ha_3791 : w_3765 D.vf = some (108, dk_cl G 700 (fun i9 => μ.vf i9)) := hm_3782.vf
  have ha_3792 : w_3765 D.bv = some (109, dk_cl G 16 (fun i9 => μ.bv i9)) := hm_3782.bv
  have ha_3793 : w_3765 D.df = some (110, dk_cz G 700 (fun i9 => bo_i (μ.df i9))) := hm_3782.df
  have ha_3794 : w_3765 D.ss = some (111, dk_cz G 6 (fun i9 => bo_i (μ.ss i9))) := hm_3782.ss
  have ha_3795 : w_3765 D.bd = some (112, dk_cz G 16 (fun i9 => bo_i (μ.bd i9))) := hm_3782.bd
  have ha_3796 : w_3765 D.ks = some (113, dk_cz G 700 (fun i9 => bo_i (μ.ks i9))) := hm_3782.ks
  have ha_3797 : w_3765 D.bt = some (114, dk_cz G 6000 (fun i9 => bo_i (μ.bt i9))) := hm_3782.bt
  refine lv_aload_n hx hb de_M_count_5 rfl (lv_at hl 0 rfl) ?_
  refine lv_iload_n hx hb de_M_count_6 rfl (lv_at hl 1 rfl) ?_
  refine lv_iconst (v := nI 0) hx hb de_M_count_7 (by decide) ?_
  refine lv_bipush (v := nI 9) hx hb de_M_count_8 (by decide) ?_
  refine dk_calli (va_runS (As := [.int (nI 1), .int (nI 0), .int (nI 9)]) (rest := [.ref h]) ⟨hx, hb, hml, hown, hts⟩ (c_M_in l G w_3765 (nI 1) (nI 0) (nI 9)) (va_cwS 3 hts (wd_gS wi_795 wi_793 wi_794 wi_8) rfl rfl rfl (by decide +kernel) ⟨Nat.le_of_ble_eq_true rfl, Nat.le_of_ble_eq_true rfl⟩) (dk_preS hE hP hS) rfl rfl hl.1 rfl (lv_room (Nat.le_of_ble_eq_true rfl)) de_M_count_10 ⟨(by first | exact Nat.le_of_ble_eq_true rfl | (simp only [Nat.zero_add]; omega) | omega), (by first | exact Nat.le_of_ble_eq_true rfl | (simp only [Nat.zero_add]; omega) | omega)⟩) hS (fun r_3800 w_3798 H locs hq_3799 hP hS => ?_)
  rw [im_y (by decide) (by omega)] at hq_3799
  obtain ⟨hr_3801, he_3802⟩ := hq_3799
  subst hr_3801
  rw [he_3802] at hP
  refine bo_if_eq (b := true) (tgt := 30) hx hb de_M_count_13 (by decide) (fun c_3803 => ?_) (fun c_3803 => ?_)
  · exact absurd c_3803 (by decide)
  · refine lv_iload_n hx hb de_M_count_16 rfl (lv_at hl 1 rfl) ?_
    refine lv_iconst (v := nI 2) hx hb de_M_count_17 (by decide) ?_
    refine nx_icmp_ge (a := 1) (b := 2) (tgt := 34) hx hb (by omega) (by omega) de_M_count_18 (by decide) (fun c_3804 => ?_) (fun c_3804 => ?_)
    · exact absurd c_3804 (by omega)
    · refine lv_iload_n hx hb de_M_count_21 rfl (lv_at hl 2 rfl) ?_
      refine lv_iconst (v := nI 0) hx hb de_M_count_22 (by decide) ?_
      refine lv_iconst (v := nI 5) hx hb de_M_count_23 (by decide) ?_
      refine dk_calli (va_runS (As := [.int (nI i), .int (nI 0), .int (nI 5)]) (rest := [.ref h]) ⟨hx, hb, hml, hown, hts⟩ (c_M_in l G w_3765 (nI i) (nI 0) (nI 5)) (va_cwS 3 hts (wd_gS wi_795 wi_793 wi_794 wi_8) rfl rfl rfl (by decide +kernel) ⟨Nat.le_of_ble_eq_true rfl, Nat.le_of_ble_eq_true rfl⟩) (dk_preS hE hP hS) rfl rfl hl.1 rfl (lv_room (Nat.le_of_ble_eq_true rfl)) de_M_count_24 ⟨(by first | exact Nat.le_of_ble_eq_true rfl | (simp only [Nat.zero_add]; omega) | omega), (by first | exact Nat.le_of_ble_eq_true rfl | (simp only [Nat.zero_add]; omega) | omega)⟩) hS (fun r_3807 w_3805 H locs hq_3806 hP hS => ?_)
      rw [im_y (by decide) (by omega)] at hq_3806
      obtain ⟨hr_3808, he_3809⟩ := hq_3806
      subst hr_3808
      rw [he_3809] at hP
      refine bo_if_ne (b := true) (tgt := 34) hx hb de_M_count_27 (by decide) (fun c_3810 => ?_) (fun c_3810 => ?_)
      · refine lv_iconst (v := nI 0) hx hb de_M_count_34 (by decide) ?_
        refine lv_iconst (v := nI 1) hx hb de_M_count_35 (by decide) ?_
        rw [show (nI 0) = bo_i false from (by decide)]
        refine dk_calli (va_runV (As := [.int (bo_i false), .int (nI 1)]) (rest := []) ⟨hx, hb, hml, hown, hts⟩ (c_M_fails l G w_3765 h D (μ.er' 0) hm_3782 false 1 (by decide) (by decide) (show (0 : Nat) < 3 by decide)) (cwV 2 hts (wd_gV (C := "RunKeeperModel") wi_799 wi_796 wi_798 (wd_p (q := (⟨"RunKeeperModel", "fails", "(ZI)Z"⟩, 22)) (by decide +kernel) (by decide +kernel)) wi_8) rfl rfl rfl (by decide +kernel) ⟨Nat.le_of_ble_eq_true rfl, Nat.le_of_ble_eq_true rfl⟩) (dk_preV (kn_M, kt_M, 22) hE hP hS hh_3783 rfl) rfl rfl hl.1 rfl (lv_room (Nat.le_of_ble_eq_true rfl)) de_M_count_36 ⟨(by first | exact Nat.le_of_ble_eq_true rfl | (simp only [Nat.zero_add]; omega) | omega), (by first | exact Nat.le_of_ble_eq_true rfl | (simp only [Nat.zero_add]; omega) | omega)⟩) hS (fun r_3813 w_3811 H locs hq_3812 hP hS => ?_)
        obtain ⟨hr_3814, hq_3815, hf_3816⟩ := hq_3812
        subst hr_3814
        have hm_3817 : md_at G w_3811 h D ((μ.er' 0).er' 0) := hq_3815
        have hh_3818 : w_3811 h = some (100, .inr (cx_M, [.int (nI 0), .int (nI μ.n), .int (nI μ.sq), .int (nI μ.sf), .int (nI μ.rs), .int (rI μ.ba), .int (nI μ.pr), .int (nI μ.mi), .ref D.kf, .ref D.nf, .ref D.rf, .ref D.lf, .ref D.sv, .ref D.bk, .ref D.od, .ref D.vf, .ref D.bv, .ref D.df, .ref D.ss, .ref D.bd, .ref D.ks, .ref D.bt])) := hm_3817.o
        have ha_3819 : w_3811 D.kf = some (101, dk_ci G 700 (fun i9 => nI (μ.kf i9))) := hm_3817.kf
        have ha_3820 : w_3811 D.nf = some (102, dk_ci G 700 (fun i9 => nI (μ.nf i9))) := hm_3817.nf
        have ha_3821 : w_3811 D.rf = some (103, dk_ci G 700 (fun i9 => rI (μ.rf i9))) := hm_3817.rf
        have ha_3822 : w_3811 D.lf = some (104, dk_ci G 5000 (fun i9 => rI (μ.lf i9))) := hm_3817.lf
        have ha_3823 : w_3811 D.sv = some (105, dk_ci G 6 (fun i9 => nI (μ.sv i9))) := hm_3817.sv
        have ha_3824 : w_3811 D.bk = some (106, dk_ci G 16 (fun i9 => nI (μ.bk i9))) := hm_3817.bk
        have ha_3825 : w_3811 D.od = some (107, dk_ci G 700 (fun i9 => nI (μ.od i9))) := hm_3817.od
        have ha_3826 : w_3811 D.vf = some (108, dk_cl G 700 (fun i9 => μ.vf i9)) := hm_3817.vf
        have ha_3827 : w_3811 D.bv = some (109, dk_cl G 16 (fun i9 => μ.bv i9)) := hm_3817.bv
        have ha_3828 : w_3811 D.df = some (110, dk_cz G 700 (fun i9 => bo_i (μ.df i9))) := hm_3817.df
        have ha_3829 : w_3811 D.ss = some (111, dk_cz G 6 (fun i9 => bo_i (μ.ss i9))) := hm_3817.ss
        have ha_3830 : w_3811 D.bd = some (112, dk_cz G 16 (fun i9 => bo_i (μ.bd i9))) := hm_3817.bd
        have ha_3831 : w_3811 D.ks = some (113, dk_cz G 700 (fun i9 => bo_i (μ.ks i9))) := hm_3817.ks
        have ha_3832 : w_3811 D.bt = some (114, dk_cz G 6000 (fun i9 => bo_i (μ.bt i9))) := hm_3817.bt
        refine bo_if_eq (b := false) (tgt := 44) hx hb de_M_count_39 (by decide) (fun c_3833 => ?_) (fun c_3833 => ?_)
        · refine lv_iconst (v := nI 0) hx hb de_M_count_44 (by decide) ?_
          refine lv_istore_n (lv' := [(3, .int (nI 0)), (0, .ref h), (1, .int (nI 1)), (2, .int (nI i))]) hx hb de_M_count_45 rfl hl (by decide) rfl (fun ls hl => ?_)
          refine lv_iload_n hx hb de_M_count_46 rfl (lv_at hl 2 rfl) ?_
          have hmo2 : md_ok ((μ.er' 0).er' 0) := ⟨ok1, ok2, ok3, ok4, ok5, ok6, ok7, ok8, ok9, ok10, show (0 : Nat) < 3 by decide⟩
          refine lv_tableIn (x := nI 1) (off := 55) (tgt := 102) hx hb de_M_count_47 (by decide) (by decide) (by decide) (by decide) ?_
          refine lv_iconst (v := nI 0) hx hb de_M_count_102 (by decide) ?_
          refine lv_istore (lv' := [(4, .int (nI 0)), (3, .int (nI 0)), (0, .ref h), (1, .int (nI 1)), (2, .int (nI i))]) hx hb de_M_count_103 hl (by decide) rfl (fun ls hl => ?_)
          have lp : ∀ (zk : Nat) (j : Nat) (m9 : Nat), μ.n - j < zk → (j ≤ μ.n) → (m9 = ct_f (fun j => at_l μ j i) j) → ∀ (ls : Array Slot), lv_has ls 5 [(0, .ref h), (1, .int (nI 1)), (2, .int (nI i)), (3, .int (nI m9)), (4, .int (nI j))] → W p l e rm_M_count s m args below meth c H locs (0 + 0 + 0 + 0) (0 + 0 + 0 + 0) Q (F0 m 105 ls []) := by
            intro zk
            induction zk with
            | zero =>
              intro j m9 hk
              exact absurd hk (by omega)
            | succ zk ih =>
              intro j m9 hk hj hm9
              intro ls hl
              refine lv_iload hx hb de_M_count_105 (lv_at hl 4 rfl) ?_
              refine lv_aload_n hx hb de_M_count_107 rfl (lv_at hl 0 rfl) ?_
              refine dk_get (a := h) (v := .int (nI μ.n)) (C := kn_M) (T := kt_M) (N := 22) hx hb hts ki_M hown hK hP hh_3818 rfl 1 (by decide) (hts _ wi_715) (fun _ h9 => h9) rfl de_M_count_108 ?_
              refine nx_icmp_ge (a := j) (b := μ.n) (tgt := 149) hx hb (by omega) (by omega) de_M_count_111 (by decide) (fun c_3834 => ?_) (fun c_3834 => ?_)
              · have e9 : j = μ.n := by omega
                refine lv_iload_n hx hb de_M_count_149 rfl (lv_at hl 3 rfl) ?_
                exact dk_iret hQ hx hb hr hlocks hP hS (Nat.le_refl _) (Nat.le_refl _) (⟨by rw [hm9, e9], hm_3817, ((dk_fr.rf).tr ((dk_fr.up (T := md_T) hh_3764 (by unfold md_T; omega)).eq hw_3766)).tr (hf_3816)⟩) de_M_count_150
              · have hneg := rI_neg (a := μ.rf j) (fun r hr => by have := ok3 j r hr; omega)
                refine lv_aload_n hx hb de_M_count_114 rfl (lv_at hl 0 rfl) ?_
                refine dk_get (a := h) (v := .ref D.rf) (C := kn_M) (T := kt_M) (N := 22) hx hb hts ki_M hown hK hP hh_3818 rfl 10 (by decide) (hts _ wi_724) (fun _ h9 => h9) rfl de_M_count_115 ?_
                refine lv_iload hx hb de_M_count_118 (lv_at hl 4 rfl) ?_
                refine dk_iald (a := D.rf) hx hb hK hP ha_3821 j rfl (by omega) (by omega) de_M_count_120 ?_
                refine lv_if_lt (tgt := 143) hx hb de_M_count_121 (by decide) (fun c_3835 => ?_) (fun c_3835 => ?_)
                · refine lv_iinc (v := nI (j + 1)) (lv' := [(4, .int (nI (j + 1))), (0, .ref h), (1, .int (nI 1)), (2, .int (nI i)), (3, .int (nI m9))]) hx hb de_M_count_143 hl (k := 4) rfl (nx_inc j) (by decide) rfl (fun ls hl => ?_)
                  refine lv_goto (tgt := 105) hx hb de_M_count_146 (by decide) ?_
                  have e8 : (fun j => at_l μ j i) j = false := at_l0 (hneg.mp c_3835)
                  exact ih (j + 1) m9 (by omega) (by omega) (by rw [ct_n (p := (fun j => at_l μ j i)) e8, hm9]) _ (lv_sub hl [1, 2, 3, 4, 0] rfl)
                · obtain ⟨r9, hr9⟩ := rI_so c_3835
                  have hr5 := ok3 j r9 hr9
                  have hleq := rI_eq (a := μ.lf r9) (b := some i) (fun r hr => by have := ok4 r9 r hr; omega) (fun r hr => by cases hr; omega)
                  refine lv_aload_n hx hb de_M_count_124 rfl (lv_at hl 0 rfl) ?_
                  refine dk_get (a := h) (v := .ref D.lf) (C := kn_M) (T := kt_M) (N := 22) hx hb hts ki_M hown hK hP hh_3818 rfl 11 (by decide) (hts _ wi_725) (fun _ h9 => h9) rfl de_M_count_125 ?_
                  refine lv_aload_n hx hb de_M_count_128 rfl (lv_at hl 0 rfl) ?_
                  refine dk_get (a := h) (v := .ref D.rf) (C := kn_M) (T := kt_M) (N := 22) hx hb hts ki_M hown hK hP hh_3818 rfl 10 (by decide) (hts _ wi_724) (fun _ h9 => h9) rfl de_M_count_129 ?_
                  refine lv_iload hx hb de_M_count_132 (lv_at hl 4 rfl) ?_
                  refine dk_iald (a := D.rf) hx hb hK hP ha_3821 j rfl (by omega) (by omega) de_M_count_134 ?_
                  rw [hr9]
                  rw [show rI (some r9) = nI r9 from rfl]
                  refine dk_iald (a := D.lf) hx hb hK hP ha_3822 r9 rfl (by omega) (by omega) de_M_count_135 ?_
                  refine lv_iload_n hx hb de_M_count_136 rfl (lv_at hl 2 rfl) ?_
                  refine lv_icmp_ne (tgt := 143) hx hb de_M_count_137 (by decide) (fun c_3836 => ?_) (fun c_3836 => ?_)
                  · refine lv_iinc (v := nI (j + 1)) (lv' := [(4, .int (nI (j + 1))), (0, .ref h), (1, .int (nI 1)), (2, .int (nI i)), (3, .int (nI m9))]) hx hb de_M_count_143 hl (k := 4) rfl (nx_inc j) (by decide) rfl (fun ls hl => ?_)
                    refine lv_goto (tgt := 105) hx hb de_M_count_146 (by decide) ?_
                    have e8 : (fun j => at_l μ j i) j = false := at_l2 hr9 (fun z => c_3836 (hleq.mpr z))
                    exact ih (j + 1) m9 (by omega) (by omega) (by rw [ct_n (p := (fun j => at_l μ j i)) e8, hm9]) _ (lv_sub hl [1, 2, 3, 4, 0] rfl)
                  · refine lv_iinc (v := nI (m9 + 1)) (lv' := [(3, .int (nI (m9 + 1))), (0, .ref h), (1, .int (nI 1)), (2, .int (nI i)), (4, .int (nI j))]) hx hb de_M_count_140 hl (k := 3) rfl (nx_inc m9) (by decide) rfl (fun ls hl => ?_)
                    refine lv_iinc (v := nI (j + 1)) (lv' := [(4, .int (nI (j + 1))), (3, .int (nI (m9 + 1))), (0, .ref h), (1, .int (nI 1)), (2, .int (nI i))]) hx hb de_M_count_143 hl (k := 4) rfl (nx_inc j) (by decide) rfl (fun ls hl => ?_)
                    refine lv_goto (tgt := 105) hx hb de_M_count_146 (by decide) ?_
                    have e8 : (fun j => at_l μ j i) j = true := at_l1 hr9 (hleq.mp c_3836)
                    exact ih (j + 1) (m9 + 1) (by omega) (by omega) (by rw [ct_y (p := (fun j => at_l μ j i)) e8, hm9]) _ (lv_sub hl [2, 3, 4, 1, 0] rfl)
          exact lp (μ.n + 1) 0 0 (by omega) (Nat.zero_le _) rfl _ (lv_sub hl [2, 3, 4, 1, 0] rfl)
        · exact absurd c_3833 (by decide)
      · exact absurd c_3810 (by decide)
set_option maxHeartbeats 4000000 in
set_option maxRecDepth 100000 in
theorem c_M_count2 (l : Launch) (G : dk_G) (w : dk_H) (h : Nat) (D : md_D) (μ : md_S) (hm : md_at G w h D μ) (hmo : md_ok μ) (k : Int32) : dk_Mi l my_M_count (wd_c my_M_count mb_M_count 5 (some .int)) rm_M_count G w [.ref h, .int (nI 2), .int k] (fun r w1 => r = nI (md_k μ) ∧ md_at G w1 h D (μ.er' 0) ∧ dk_fr md_T w w1) 0 0 := by
  obtain ⟨ok1, ok2, ok3, ok4, ok5, ok6, ok7, ok8, ok9, ok10, ok11⟩ := id hmo
  refine dk_enter (lv := [(0, .ref h), (1, .int (nI 2)), (2, .int k)]) (by decide) (Nat.le_of_ble_eq_true rfl) rfl (fun p e s m args below meth c ls Q hQ C hP hS hl => ?_)
  obtain ⟨hx, hb, hr, hml, hlocks, hown, hnm, hts, hE⟩ := C
  have hK := hE.1
  have hN := hE.2.1
  have hh_3837 : w h = some (100, .inr (cx_M, [.int (nI μ.er), .int (nI μ.n), .int (nI μ.sq), .int (nI μ.sf), .int (nI μ.rs), .int (rI μ.ba), .int (nI μ.pr), .int (nI μ.mi), .ref D.kf, .ref D.nf, .ref D.rf, .ref D.lf, .ref D.sv, .ref D.bk, .ref D.od, .ref D.vf, .ref D.bv, .ref D.df, .ref D.ss, .ref D.bd, .ref D.ks, .ref D.bt])) := hm.o
  refine lv_aload_n hx hb de_M_count_0 rfl (lv_at hl 0 rfl) ?_
  refine lv_iconst (v := nI 0) hx hb de_M_count_1 (by decide) ?_
  refine dk_put (a := h) (v := .int (nI 0)) (ty := .int) (C := kn_M) (T := kt_M) (N := 22) hx hb hts ki_M ky_M kk_M kd_M hown hK hP hS hh_3837 rfl 0 (by decide) (hts _ wi_714) (fun _ h9 => h9) rfl (by decide +kernel) rfl rfl (Nat.le_of_ble_eq_true rfl) de_M_count_2 (fun H locs w_3838 hw_3839 hP hS => ?_)
  have h_3840 : w_3838 h = some (100, .inr (cx_M, [.int (nI 0), .int (nI μ.n), .int (nI μ.sq), .int (nI μ.sf), .int (nI μ.rs), .int (rI μ.ba), .int (nI μ.pr), .int (nI μ.mi), .ref D.kf, .ref D.nf, .ref D.rf, .ref D.lf, .ref D.sv, .ref D.bk, .ref D.od, .ref D.vf, .ref D.bv, .ref D.df, .ref D.ss, .ref D.bd, .ref D.ks, .ref D.bt])) := dk_here hw_3839
  have h_3841 : w_3838 D.kf = some (101, dk_ci G 700 (fun i9 => nI (μ.kf i9))) := dk_keep hw_3839 hh_3837 hm.kf (by decide)
  have h_3842 : w_3838 D.nf = some (102, dk_ci G 700 (fun i9 => nI (μ.nf i9))) := dk_keep hw_3839 hh_3837 hm.nf (by decide)
  have h_3843 : w_3838 D.rf = some (103, dk_ci G 700 (fun i9 => rI (μ.rf i9))) := dk_keep hw_3839 hh_3837 hm.rf (by decide)
  have h_3844 : w_3838 D.lf = some (104, dk_ci G 5000 (fun i9 => rI (μ.lf i9))) := dk_keep hw_3839 hh_3837 hm.lf (by decide)
  have h_3845 : w_3838 D.sv = some (105, dk_ci G 6 (fun i9 => nI (μ.sv i9))) := dk_keep hw_3839 hh_3837 hm.sv (by decide)
  have h_3846 : w_3838 D.bk = some (106, dk_ci G 16 (fun i9 => nI (μ.bk i9))) := dk_keep hw_3839 hh_3837 hm.bk (by decide)
  have h_3847 : w_3838 D.od = some (107, dk_ci G 700 (fun i9 => nI (μ.od i9))) := dk_keep hw_3839 hh_3837 hm.od (by decide)
  have h_3848 : w_3838 D.vf = some (108, dk_cl G 700 (fun i9 => μ.vf i9)) := dk_keep hw_3839 hh_3837 hm.vf (by decide)
  have h_3849 : w_3838 D.bv = some (109, dk_cl G 16 (fun i9 => μ.bv i9)) := dk_keep hw_3839 hh_3837 hm.bv (by decide)
  have h_3850 : w_3838 D.df = some (110, dk_cz G 700 (fun i9 => bo_i (μ.df i9))) := dk_keep hw_3839 hh_3837 hm.df (by decide)
  have h_3851 : w_3838 D.ss = some (111, dk_cz G 6 (fun i9 => bo_i (μ.ss i9))) := dk_keep hw_3839 hh_3837 hm.ss (by decide)
  have h_3852 : w_3838 D.bd = some (112, dk_cz G 16 (fun i9 => bo_i (μ.bd i9))) := dk_keep hw_3839 hh_3837 hm.bd (by decide)
  have h_3853 : w_3838 D.ks = some (113, dk_cz G 700 (fun i9 => bo_i (μ.ks i9))) := dk_keep hw_3839 hh_3837 hm.ks (by decide)
  have h_3854 : w_3838 D.bt = some (114, dk_cz G 6000 (fun i9 => bo_i (μ.bt i9))) := dk_keep hw_3839 hh_3837 hm.bt (by decide)
  have hm_3855 : md_at G w_3838 h D (μ.er' 0) := ⟨h_3840, h_3841, h_3842, h_3843, h_3844, h_3845, h_3846, h_3847, h_3848, h_3849, h_3850, h_3851, h_3852, h_3853, h_3854⟩
  have hh_3856 : w_3838 h = some (100, .inr (cx_M, [.int (nI 0), .int (nI μ.n), .int (nI μ.sq), .int (nI μ.sf), .int (nI μ.rs), .int (rI μ.ba), .int (nI μ.pr), .int (nI μ.mi), .ref D.kf, .ref D.nf, .ref D.rf, .ref D.lf, .ref D.sv, .ref D.bk, .ref D.od, .ref D.vf, .ref D.bv, .ref D.df, .ref D.ss, .ref D.bd, .ref D.ks, .ref D.bt])) := hm_3855.o
  have ha_3857 : w_3838 D.kf = some (101, dk_ci G 700 (fun i9 => nI (μ.kf i9))) := hm_3855.kf
  have ha_3858 : w_3838 D.nf = some (102, dk_ci G 700 (fun i9 => nI (μ.nf i9))) := hm_3855.nf
  have ha_3859 : w_3838 D.rf = some (103, dk_ci G 700 (fun i9 => rI (μ.rf i9))) := hm_3855.rf
  have ha_3860 : w_3838 D.lf = some (104, dk_ci G 5000 (fun i9 => rI (μ.lf i9))) := hm_3855.lf
  have ha_3861 : w_3838 D.sv = some (105, dk_ci G 6 (fun i9 => nI (μ.sv i9))) := hm_3855.sv
  have ha_3862 : w_3838 D.bk = some (106, dk_ci G 16 (fun i9 => nI (μ.bk i9))) := hm_3855.bk
  have ha_3863 : w_3838 D.od = some (107, dk_ci G 700 (fun i9 => nI (μ.od i9))) := hm_3855.od
  have ha_3864 : w_3838 D.vf = some (108, dk_cl G 700 (fun i9 => μ.vf i9)) := hm_3855.vf
  have ha_3865 : w_3838 D.bv = some (109, dk_cl G 16 (fun i9 => μ.bv i9)) := hm_3855.bv
  have ha_3866 : w_3838 D.df = some (110, dk_cz G 700 (fun i9 => bo_i (μ.df i9))) := hm_3855.df
  have ha_3867 : w_3838 D.ss = some (111, dk_cz G 6 (fun i9 => bo_i (μ.ss i9))) := hm_3855.ss
  have ha_3868 : w_3838 D.bd = some (112, dk_cz G 16 (fun i9 => bo_i (μ.bd i9))) := hm_3855.bd
  have ha_3869 : w_3838 D.ks = some (113, dk_cz G 700 (fun i9 => bo_i (μ.ks i9))) := hm_3855.ks
  have ha_3870 : w_3838 D.bt = some (114, dk_cz G 6000 (fun i9 => bo_i (μ.bt i9))) := hm_3855.bt
  refine lv_aload_n hx hb de_M_count_5 rfl (lv_at hl 0 rfl) ?_
  refine lv_iload_n hx hb de_M_count_6 rfl (lv_at hl 1 rfl) ?_
  refine lv_iconst (v := nI 0) hx hb de_M_count_7 (by decide) ?_
  refine lv_bipush (v := nI 9) hx hb de_M_count_8 (by decide) ?_
  refine dk_calli (va_runS (As := [.int (nI 2), .int (nI 0), .int (nI 9)]) (rest := [.ref h]) ⟨hx, hb, hml, hown, hts⟩ (c_M_in l G w_3838 (nI 2) (nI 0) (nI 9)) (va_cwS 3 hts (wd_gS wi_795 wi_793 wi_794 wi_8) rfl rfl rfl (by decide +kernel) ⟨Nat.le_of_ble_eq_true rfl, Nat.le_of_ble_eq_true rfl⟩) (dk_preS hE hP hS) rfl rfl hl.1 rfl (lv_room (Nat.le_of_ble_eq_true rfl)) de_M_count_10 ⟨(by first | exact Nat.le_of_ble_eq_true rfl | (simp only [Nat.zero_add]; omega) | omega), (by first | exact Nat.le_of_ble_eq_true rfl | (simp only [Nat.zero_add]; omega) | omega)⟩) hS (fun r_3873 w_3871 H locs hq_3872 hP hS => ?_)
  rw [im_y (by decide) (by omega)] at hq_3872
  obtain ⟨hr_3874, he_3875⟩ := hq_3872
  subst hr_3874
  rw [he_3875] at hP
  refine bo_if_eq (b := true) (tgt := 30) hx hb de_M_count_13 (by decide) (fun c_3876 => ?_) (fun c_3876 => ?_)
  · exact absurd c_3876 (by decide)
  · refine lv_iload_n hx hb de_M_count_16 rfl (lv_at hl 1 rfl) ?_
    refine lv_iconst (v := nI 2) hx hb de_M_count_17 (by decide) ?_
    refine nx_icmp_ge (a := 2) (b := 2) (tgt := 34) hx hb (by omega) (by omega) de_M_count_18 (by decide) (fun c_3877 => ?_) (fun c_3877 => ?_)
    · refine lv_iconst (v := nI 0) hx hb de_M_count_34 (by decide) ?_
      refine lv_iconst (v := nI 1) hx hb de_M_count_35 (by decide) ?_
      rw [show (nI 0) = bo_i false from (by decide)]
      refine dk_calli (va_runV (As := [.int (bo_i false), .int (nI 1)]) (rest := []) ⟨hx, hb, hml, hown, hts⟩ (c_M_fails l G w_3838 h D (μ.er' 0) hm_3855 false 1 (by decide) (by decide) (show (0 : Nat) < 3 by decide)) (cwV 2 hts (wd_gV (C := "RunKeeperModel") wi_799 wi_796 wi_798 (wd_p (q := (⟨"RunKeeperModel", "fails", "(ZI)Z"⟩, 22)) (by decide +kernel) (by decide +kernel)) wi_8) rfl rfl rfl (by decide +kernel) ⟨Nat.le_of_ble_eq_true rfl, Nat.le_of_ble_eq_true rfl⟩) (dk_preV (kn_M, kt_M, 22) hE hP hS hh_3856 rfl) rfl rfl hl.1 rfl (lv_room (Nat.le_of_ble_eq_true rfl)) de_M_count_36 ⟨(by first | exact Nat.le_of_ble_eq_true rfl | (simp only [Nat.zero_add]; omega) | omega), (by first | exact Nat.le_of_ble_eq_true rfl | (simp only [Nat.zero_add]; omega) | omega)⟩) hS (fun r_3880 w_3878 H locs hq_3879 hP hS => ?_)
      obtain ⟨hr_3881, hq_3882, hf_3883⟩ := hq_3879
      subst hr_3881
      have hm_3884 : md_at G w_3878 h D ((μ.er' 0).er' 0) := hq_3882
      have hh_3885 : w_3878 h = some (100, .inr (cx_M, [.int (nI 0), .int (nI μ.n), .int (nI μ.sq), .int (nI μ.sf), .int (nI μ.rs), .int (rI μ.ba), .int (nI μ.pr), .int (nI μ.mi), .ref D.kf, .ref D.nf, .ref D.rf, .ref D.lf, .ref D.sv, .ref D.bk, .ref D.od, .ref D.vf, .ref D.bv, .ref D.df, .ref D.ss, .ref D.bd, .ref D.ks, .ref D.bt])) := hm_3884.o
      have ha_3886 : w_3878 D.kf = some (101, dk_ci G 700 (fun i9 => nI (μ.kf i9))) := hm_3884.kf
      have ha_3887 : w_3878 D.nf = some (102, dk_ci G 700 (fun i9 => nI (μ.nf i9))) := hm_3884.nf
      have ha_3888 : w_3878 D.rf = some (103, dk_ci G 700 (fun i9 => rI (μ.rf i9))) := hm_3884.rf
      have ha_3889 : w_3878 D.lf = some (104, dk_ci G 5000 (fun i9 => rI (μ.lf i9))) := hm_3884.lf
      have ha_3890 : w_3878 D.sv = some (105, dk_ci G 6 (fun i9 => nI (μ.sv i9))) := hm_3884.sv
      have ha_3891 : w_3878 D.bk = some (106, dk_ci G 16 (fun i9 => nI (μ.bk i9))) := hm_3884.bk
      have ha_3892 : w_3878 D.od = some (107, dk_ci G 700 (fun i9 => nI (μ.od i9))) := hm_3884.od
      have ha_3893 : w_3878 D.vf = some (108, dk_cl G 700 (fun i9 => μ.vf i9)) := hm_3884.vf
      have ha_3894 : w_3878 D.bv = some (109, dk_cl G 16 (fun i9 => μ.bv i9)) := hm_3884.bv
      have ha_3895 : w_3878 D.df = some (110, dk_cz G 700 (fun i9 => bo_i (μ.df i9))) := hm_3884.df
      have ha_3896 : w_3878 D.ss = some (111, dk_cz G 6 (fun i9 => bo_i (μ.ss i9))) := hm_3884.ss
      have ha_3897 : w_3878 D.bd = some (112, dk_cz G 16 (fun i9 => bo_i (μ.bd i9))) := hm_3884.bd
      have ha_3898 : w_3878 D.ks = some (113, dk_cz G 700 (fun i9 => bo_i (μ.ks i9))) := hm_3884.ks
      have ha_3899 : w_3878 D.bt = some (114, dk_cz G 6000 (fun i9 => bo_i (μ.bt i9))) := hm_3884.bt
      refine bo_if_eq (b := false) (tgt := 44) hx hb de_M_count_39 (by decide) (fun c_3900 => ?_) (fun c_3900 => ?_)
      · refine lv_iconst (v := nI 0) hx hb de_M_count_44 (by decide) ?_
        refine lv_istore_n (lv' := [(3, .int (nI 0)), (0, .ref h), (1, .int (nI 2)), (2, .int k)]) hx hb de_M_count_45 rfl hl (by decide) rfl (fun ls hl => ?_)
        refine lv_iload_n hx hb de_M_count_46 rfl (lv_at hl 2 rfl) ?_
        have hmo2 : md_ok ((μ.er' 0).er' 0) := ⟨ok1, ok2, ok3, ok4, ok5, ok6, ok7, ok8, ok9, ok10, show (0 : Nat) < 3 by decide⟩
        refine lv_tableIn (x := nI 2) (off := 104) (tgt := 151) hx hb de_M_count_47 (by decide) (by decide) (by decide) (by decide) ?_
        refine lv_aload_n hx hb de_M_count_151 rfl (lv_at hl 1 rfl) ?_
        refine lv_iconst (v := (-1)) hx hb de_M_count_152 (by decide) ?_
        refine dk_calli (va_runV (As := [.int (-1)]) (rest := []) ⟨hx, hb, hml, hown, hts⟩ (c_M_inRun l G w_3878 h D ((μ.er' 0).er' 0) hm_3884 hmo2 none (fun r hr => by cases hr)) (cwV 1 hts (wd_gV (C := "RunKeeperModel") wi_807 wi_804 wi_806 (wd_p (q := (⟨"RunKeeperModel", "inRun", "(I)I"⟩, 22)) (by decide +kernel) (by decide +kernel)) wi_8) rfl rfl rfl (by decide +kernel) ⟨Nat.le_of_ble_eq_true rfl, Nat.le_of_ble_eq_true rfl⟩) (dk_preV (kn_M, kt_M, 22) hE hP hS hh_3885 rfl) rfl rfl hl.1 rfl (lv_room (Nat.le_of_ble_eq_true rfl)) de_M_count_153 ⟨(by first | exact Nat.le_of_ble_eq_true rfl | (simp only [Nat.zero_add]; omega) | omega), (by first | exact Nat.le_of_ble_eq_true rfl | (simp only [Nat.zero_add]; omega) | omega)⟩) hS (fun r_3903 w_3901 H locs hq_3902 hP hS => ?_)
        obtain ⟨hr_3904, he_3905⟩ := hq_3902
        subst hr_3904
        rw [he_3905] at hP
        exact dk_iret hQ hx hb hr hlocks hP hS (Nat.le_refl _) (Nat.le_refl _) (⟨rfl, hm_3884, ((dk_fr.rf).tr ((dk_fr.up (T := md_T) hh_3837 (by unfold md_T; omega)).eq hw_3839)).tr (hf_3883)⟩) de_M_count_156
      · exact absurd c_3900 (by decide)
    · exact absurd c_3877 (by omega)
set_option maxHeartbeats 4000000 in
set_option maxRecDepth 100000 in
theorem c_M_count3 (l : Launch) (G : dk_G) (w : dk_H) (h : Nat) (D : md_D) (μ : md_S) (hm : md_at G w h D μ) (hmo : md_ok μ) (k : Int32) : dk_Mi l my_M_count (wd_c my_M_count mb_M_count 5 (some .int)) rm_M_count G w [.ref h, .int (nI 3), .int k] (fun r w1 => r = nI μ.sf ∧ md_at G w1 h D (μ.er' 0) ∧ dk_fr md_T w w1) 0 0 := by
  obtain ⟨ok1, ok2, ok3, ok4, ok5, ok6, ok7, ok8, ok9, ok10, ok11⟩ := id hmo
  refine dk_enter (lv := [(0, .ref h), (1, .int (nI 3)), (2, .int k)]) (by decide) (Nat.le_of_ble_eq_true rfl) rfl (fun p e s m args below meth c ls Q hQ C hP hS hl => ?_)
  obtain ⟨hx, hb, hr, hml, hlocks, hown, hnm, hts, hE⟩ := C
  have hK := hE.1
  have hN := hE.2.1
  have hh_3906 : w h = some (100, .inr (cx_M, [.int (nI μ.er), .int (nI μ.n), .int (nI μ.sq), .int (nI μ.sf), .int (nI μ.rs), .int (rI μ.ba), .int (nI μ.pr), .int (nI μ.mi), .ref D.kf, .ref D.nf, .ref D.rf, .ref D.lf, .ref D.sv, .ref D.bk, .ref D.od, .ref D.vf, .ref D.bv, .ref D.df, .ref D.ss, .ref D.bd, .ref D.ks, .ref D.bt])) := hm.o
  refine lv_aload_n hx hb de_M_count_0 rfl (lv_at hl 0 rfl) ?_
  refine lv_iconst (v := nI 0) hx hb de_M_count_1 (by decide) ?_
  refine dk_put (a := h) (v := .int (nI 0)) (ty := .int) (C := kn_M) (T := kt_M) (N := 22) hx hb hts ki_M ky_M kk_M kd_M hown hK hP hS hh_3906 rfl 0 (by decide) (hts _ wi_714) (fun _ h9 => h9) rfl (by decide +kernel) rfl rfl (Nat.le_of_ble_eq_true rfl) de_M_count_2 (fun H locs w_3907 hw_3908 hP hS => ?_)
  have h_3909 : w_3907 h = some (100, .inr (cx_M, [.int (nI 0), .int (nI μ.n), .int (nI μ.sq), .int (nI μ.sf), .int (nI μ.rs), .int (rI μ.ba), .int (nI μ.pr), .int (nI μ.mi), .ref D.kf, .ref D.nf, .ref D.rf, .ref D.lf, .ref D.sv, .ref D.bk, .ref D.od, .ref D.vf, .ref D.bv, .ref D.df, .ref D.ss, .ref D.bd, .ref D.ks, .ref D.bt])) := dk_here hw_3908
  have h_3910 : w_3907 D.kf = some (101, dk_ci G 700 (fun i9 => nI (μ.kf i9))) := dk_keep hw_3908 hh_3906 hm.kf (by decide)
  have h_3911 : w_3907 D.nf = some (102, dk_ci G 700 (fun i9 => nI (μ.nf i9))) := dk_keep hw_3908 hh_3906 hm.nf (by decide)
  have h_3912 : w_3907 D.rf = some (103, dk_ci G 700 (fun i9 => rI (μ.rf i9))) := dk_keep hw_3908 hh_3906 hm.rf (by decide)
  have h_3913 : w_3907 D.lf = some (104, dk_ci G 5000 (fun i9 => rI (μ.lf i9))) := dk_keep hw_3908 hh_3906 hm.lf (by decide)
  have h_3914 : w_3907 D.sv = some (105, dk_ci G 6 (fun i9 => nI (μ.sv i9))) := dk_keep hw_3908 hh_3906 hm.sv (by decide)
  have h_3915 : w_3907 D.bk = some (106, dk_ci G 16 (fun i9 => nI (μ.bk i9))) := dk_keep hw_3908 hh_3906 hm.bk (by decide)
  have h_3916 : w_3907 D.od = some (107, dk_ci G 700 (fun i9 => nI (μ.od i9))) := dk_keep hw_3908 hh_3906 hm.od (by decide)
  have h_3917 : w_3907 D.vf = some (108, dk_cl G 700 (fun i9 => μ.vf i9)) := dk_keep hw_3908 hh_3906 hm.vf (by decide)
  have h_3918 : w_3907 D.bv = some (109, dk_cl G 16 (fun i9 => μ.bv i9)) := dk_keep hw_3908 hh_3906 hm.bv (by decide)
  have h_3919 : w_3907 D.df = some (110, dk_cz G 700 (fun i9 => bo_i (μ.df i9))) := dk_keep hw_3908 hh_3906 hm.df (by decide)
  have h_3920 : w_3907 D.ss = some (111, dk_cz G 6 (fun i9 => bo_i (μ.ss i9))) := dk_keep hw_3908 hh_3906 hm.ss (by decide)
  have h_3921 : w_3907 D.bd = some (112, dk_cz G 16 (fun i9 => bo_i (μ.bd i9))) := dk_keep hw_3908 hh_3906 hm.bd (by decide)
  have h_3922 : w_3907 D.ks = some (113, dk_cz G 700 (fun i9 => bo_i (μ.ks i9))) := dk_keep hw_3908 hh_3906 hm.ks (by decide)
  have h_3923 : w_3907 D.bt = some (114, dk_cz G 6000 (fun i9 => bo_i (μ.bt i9))) := dk_keep hw_3908 hh_3906 hm.bt (by decide)
  have hm_3924 : md_at G w_3907 h D (μ.er' 0) := ⟨h_3909, h_3910, h_3911, h_3912, h_3913, h_3914, h_3915, h_3916, h_3917, h_3918, h_3919, h_3920, h_3921, h_3922, h_3923⟩
  have hh_3925 : w_3907 h = some (100, .inr (cx_M, [.int (nI 0), .int (nI μ.n), .int (nI μ.sq), .int (nI μ.sf), .int (nI μ.rs), .int (rI μ.ba), .int (nI μ.pr), .int (nI μ.mi), .ref D.kf, .ref D.nf, .ref D.rf, .ref D.lf, .ref D.sv, .ref D.bk, .ref D.od, .ref D.vf, .ref D.bv, .ref D.df, .ref D.ss, .ref D.bd, .ref D.ks, .ref D.bt])) := hm_3924.o
  have ha_3926 : w_3907 D.kf = some (101, dk_ci G 700 (fun i9 => nI (μ.kf i9))) := hm_3924.kf
  have ha_3927 : w_3907 D.nf = some (102, dk_ci G 700 (fun i9 => nI (μ.nf i9))) := hm_3924.nf
  have ha_3928 : w_3907 D.rf = some (103, dk_ci G 700 (fun i9 => rI (μ.rf i9))) := hm_3924.rf
  have ha_3929 : w_3907 D.lf = some (104, dk_ci G 5000 (fun i9 => rI (μ.lf i9))) := hm_3924.lf
  have ha_3930 : w_3907 D.sv = some (105, dk_ci G 6 (fun i9 => nI (μ.sv i9))) := hm_3924.sv
  have ha_3931 : w_3907 D.bk = some (106, dk_ci G 16 (fun i9 => nI (μ.bk i9))) := hm_3924.bk
  have ha_3932 : w_3907 D.od = some (107, dk_ci G 700 (fun i9 => nI (μ.od i9))) := hm_3924.od
  have ha_3933 : w_3907 D.vf = some (108, dk_cl G 700 (fun i9 => μ.vf i9)) := hm_3924.vf
  have ha_3934 : w_3907 D.bv = some (109, dk_cl G 16 (fun i9 => μ.bv i9)) := hm_3924.bv
  have ha_3935 : w_3907 D.df = some (110, dk_cz G 700 (fun i9 => bo_i (μ.df i9))) := hm_3924.df
  have ha_3936 : w_3907 D.ss = some (111, dk_cz G 6 (fun i9 => bo_i (μ.ss i9))) := hm_3924.ss
  have ha_3937 : w_3907 D.bd = some (112, dk_cz G 16 (fun i9 => bo_i (μ.bd i9))) := hm_3924.bd
  have ha_3938 : w_3907 D.ks = some (113, dk_cz G 700 (fun i9 => bo_i (μ.ks i9))) := hm_3924.ks
  have ha_3939 : w_3907 D.bt = some (114, dk_cz G 6000 (fun i9 => bo_i (μ.bt i9))) := hm_3924.bt
  refine lv_aload_n hx hb de_M_count_5 rfl (lv_at hl 0 rfl) ?_
  refine lv_iload_n hx hb de_M_count_6 rfl (lv_at hl 1 rfl) ?_
  refine lv_iconst (v := nI 0) hx hb de_M_count_7 (by decide) ?_
  refine lv_bipush (v := nI 9) hx hb de_M_count_8 (by decide) ?_
  refine dk_calli (va_runS (As := [.int (nI 3), .int (nI 0), .int (nI 9)]) (rest := [.ref h]) ⟨hx, hb, hml, hown, hts⟩ (c_M_in l G w_3907 (nI 3) (nI 0) (nI 9)) (va_cwS 3 hts (wd_gS wi_795 wi_793 wi_794 wi_8) rfl rfl rfl (by decide +kernel) ⟨Nat.le_of_ble_eq_true rfl, Nat.le_of_ble_eq_true rfl⟩) (dk_preS hE hP hS) rfl rfl hl.1 rfl (lv_room (Nat.le_of_ble_eq_true rfl)) de_M_count_10 ⟨(by first | exact Nat.le_of_ble_eq_true rfl | (simp only [Nat.zero_add]; omega) | omega), (by first | exact Nat.le_of_ble_eq_true rfl | (simp only [Nat.zero_add]; omega) | omega)⟩) hS (fun r_3942 w_3940 H locs hq_3941 hP hS => ?_)
  rw [im_y (by decide) (by omega)] at hq_3941
  obtain ⟨hr_3943, he_3944⟩ := hq_3941
  subst hr_3943
  rw [he_3944] at hP
  refine bo_if_eq (b := true) (tgt := 30) hx hb de_M_count_13 (by decide) (fun c_3945 => ?_) (fun c_3945 => ?_)
  · exact absurd c_3945 (by decide)
  · refine lv_iload_n hx hb de_M_count_16 rfl (lv_at hl 1 rfl) ?_
    refine lv_iconst (v := nI 2) hx hb de_M_count_17 (by decide) ?_
    refine nx_icmp_ge (a := 3) (b := 2) (tgt := 34) hx hb (by omega) (by omega) de_M_count_18 (by decide) (fun c_3946 => ?_) (fun c_3946 => ?_)
    · refine lv_iconst (v := nI 0) hx hb de_M_count_34 (by decide) ?_
      refine lv_iconst (v := nI 1) hx hb de_M_count_35 (by decide) ?_
      rw [show (nI 0) = bo_i false from (by decide)]
      refine dk_calli (va_runV (As := [.int (bo_i false), .int (nI 1)]) (rest := []) ⟨hx, hb, hml, hown, hts⟩ (c_M_fails l G w_3907 h D (μ.er' 0) hm_3924 false 1 (by decide) (by decide) (show (0 : Nat) < 3 by decide)) (cwV 2 hts (wd_gV (C := "RunKeeperModel") wi_799 wi_796 wi_798 (wd_p (q := (⟨"RunKeeperModel", "fails", "(ZI)Z"⟩, 22)) (by decide +kernel) (by decide +kernel)) wi_8) rfl rfl rfl (by decide +kernel) ⟨Nat.le_of_ble_eq_true rfl, Nat.le_of_ble_eq_true rfl⟩) (dk_preV (kn_M, kt_M, 22) hE hP hS hh_3925 rfl) rfl rfl hl.1 rfl (lv_room (Nat.le_of_ble_eq_true rfl)) de_M_count_36 ⟨(by first | exact Nat.le_of_ble_eq_true rfl | (simp only [Nat.zero_add]; omega) | omega), (by first | exact Nat.le_of_ble_eq_true rfl | (simp only [Nat.zero_add]; omega) | omega)⟩) hS (fun r_3949 w_3947 H locs hq_3948 hP hS => ?_)
      obtain ⟨hr_3950, hq_3951, hf_3952⟩ := hq_3948
      subst hr_3950
      have hm_3953 : md_at G w_3947 h D ((μ.er' 0).er' 0) := hq_3951
      have hh_3954 : w_3947 h = some (100, .inr (cx_M, [.int (nI 0), .int (nI μ.n), .int (nI μ.sq), .int (nI μ.sf), .int (nI μ.rs), .int (rI μ.ba), .int (nI μ.pr), .int (nI μ.mi), .ref D.kf, .ref D.nf, .ref D.rf, .ref D.lf, .ref D.sv, .ref D.bk, .ref D.od, .ref D.vf, .ref D.bv, .ref D.df, .ref D.ss, .ref D.bd, .ref D.ks, .ref D.bt])) := hm_3953.o
      have ha_3955 : w_3947 D.kf = some (101, dk_ci G 700 (fun i9 => nI (μ.kf i9))) := hm_3953.kf
      have ha_3956 : w_3947 D.nf = some (102, dk_ci G 700 (fun i9 => nI (μ.nf i9))) := hm_3953.nf
      have ha_3957 : w_3947 D.rf = some (103, dk_ci G 700 (fun i9 => rI (μ.rf i9))) := hm_3953.rf
      have ha_3958 : w_3947 D.lf = some (104, dk_ci G 5000 (fun i9 => rI (μ.lf i9))) := hm_3953.lf
      have ha_3959 : w_3947 D.sv = some (105, dk_ci G 6 (fun i9 => nI (μ.sv i9))) := hm_3953.sv
      have ha_3960 : w_3947 D.bk = some (106, dk_ci G 16 (fun i9 => nI (μ.bk i9))) := hm_3953.bk
      have ha_3961 : w_3947 D.od = some (107, dk_ci G 700 (fun i9 => nI (μ.od i9))) := hm_3953.od
      have ha_3962 : w_3947 D.vf = some (108, dk_cl G 700 (fun i9 => μ.vf i9)) := hm_3953.vf
      have ha_3963 : w_3947 D.bv = some (109, dk_cl G 16 (fun i9 => μ.bv i9)) := hm_3953.bv
      have ha_3964 : w_3947 D.df = some (110, dk_cz G 700 (fun i9 => bo_i (μ.df i9))) := hm_3953.df
      have ha_3965 : w_3947 D.ss = some (111, dk_cz G 6 (fun i9 => bo_i (μ.ss i9))) := hm_3953.ss
      have ha_3966 : w_3947 D.bd = some (112, dk_cz G 16 (fun i9 => bo_i (μ.bd i9))) := hm_3953.bd
      have ha_3967 : w_3947 D.ks = some (113, dk_cz G 700 (fun i9 => bo_i (μ.ks i9))) := hm_3953.ks
      have ha_3968 : w_3947 D.bt = some (114, dk_cz G 6000 (fun i9 => bo_i (μ.bt i9))) := hm_3953.bt
      refine bo_if_eq (b := false) (tgt := 44) hx hb de_M_count_39 (by decide) (fun c_3969 => ?_) (fun c_3969 => ?_)
      · refine lv_iconst (v := nI 0) hx hb de_M_count_44 (by decide) ?_
        refine lv_istore_n (lv' := [(3, .int (nI 0)), (0, .ref h), (1, .int (nI 3)), (2, .int k)]) hx hb de_M_count_45 rfl hl (by decide) rfl (fun ls hl => ?_)
        refine lv_iload_n hx hb de_M_count_46 rfl (lv_at hl 2 rfl) ?_
        have hmo2 : md_ok ((μ.er' 0).er' 0) := ⟨ok1, ok2, ok3, ok4, ok5, ok6, ok7, ok8, ok9, ok10, show (0 : Nat) < 3 by decide⟩
        refine lv_tableIn (x := nI 3) (off := 110) (tgt := 157) hx hb de_M_count_47 (by decide) (by decide) (by decide) (by decide) ?_
        refine lv_aload_n hx hb de_M_count_157 rfl (lv_at hl 1 rfl) ?_
        refine dk_get (a := h) (v := .int (nI μ.sf)) (C := kn_M) (T := kt_M) (N := 22) hx hb hts ki_M hown hK hP hh_3954 rfl 3 (by decide) (hts _ wi_717) (fun _ h9 => h9) rfl de_M_count_158 ?_
        exact dk_iret hQ hx hb hr hlocks hP hS (Nat.le_refl _) (Nat.le_refl _) (⟨rfl, hm_3953, ((dk_fr.rf).tr ((dk_fr.up (T := md_T) hh_3906 (by unfold md_T; omega)).eq hw_3908)).tr (hf_3952)⟩) de_M_count_161
      · exact absurd c_3969 (by decide)
    · exact absurd c_3946 (by omega)
set_option maxHeartbeats 4000000 in
set_option maxRecDepth 100000 in
theorem c_M_count4 (l : Launch) (G : dk_G) (w : dk_H) (h : Nat) (D : md_D) (μ : md_S) (hm : md_at G w h D μ) (hmo : md_ok μ) (k : Int32) : dk_Mi l my_M_count (wd_c my_M_count mb_M_count 5 (some .int)) rm_M_count G w [.ref h, .int (nI 4), .int k] (fun r w1 => r = nI μ.sq ∧ md_at G w1 h D (μ.er' 0) ∧ dk_fr md_T w w1) 0 0 := by
  obtain ⟨ok1, ok2, ok3, ok4, ok5, ok6, ok7, ok8, ok9, ok10, ok11⟩ := id hmo
  refine dk_enter (lv := [(0, .ref h), (1, .int (nI 4)), (2, .int k)]) (by decide) (Nat.le_of_ble_eq_true rfl) rfl (fun p e s m args below meth c ls Q hQ C hP hS hl => ?_)
  obtain ⟨hx, hb, hr, hml, hlocks, hown, hnm, hts, hE⟩ := C
  have hK := hE.1
  have hN := hE.2.1
  have hh_3970 : w h = some (100, .inr (cx_M, [.int (nI μ.er), .int (nI μ.n), .int (nI μ.sq), .int (nI μ.sf), .int (nI μ.rs), .int (rI μ.ba), .int (nI μ.pr), .int (nI μ.mi), .ref D.kf, .ref D.nf, .ref D.rf, .ref D.lf, .ref D.sv, .ref D.bk, .ref D.od, .ref D.vf, .ref D.bv, .ref D.df, .ref D.ss, .ref D.bd, .ref D.ks, .ref D.bt])) := hm.o
  refine lv_aload_n hx hb de_M_count_0 rfl (lv_at hl 0 rfl) ?_
  refine lv_iconst (v := nI 0) hx hb de_M_count_1 (by decide) ?_
  refine dk_put (a := h) (v := .int (nI 0)) (ty := .int) (C := kn_M) (T := kt_M) (N := 22) hx hb hts ki_M ky_M kk_M kd_M hown hK hP hS hh_3970 rfl 0 (by decide) (hts _ wi_714) (fun _ h9 => h9) rfl (by decide +kernel) rfl rfl (Nat.le_of_ble_eq_true rfl) de_M_count_2 (fun H locs w_3971 hw_3972 hP hS => ?_)
  have h_3973 : w_3971 h = some (100, .inr (cx_M, [.int (nI 0), .int (nI μ.n), .int (nI μ.sq), .int (nI μ.sf), .int (nI μ.rs), .int (rI μ.ba), .int (nI μ.pr), .int (nI μ.mi), .ref D.kf, .ref D.nf, .ref D.rf, .ref D.lf, .ref D.sv, .ref D.bk, .ref D.od, .ref D.vf, .ref D.bv, .ref D.df, .ref D.ss, .ref D.bd, .ref D.ks, .ref D.bt])) := dk_here hw_3972
  have h_3974 : w_3971 D.kf = some (101, dk_ci G 700 (fun i9 => nI (μ.kf i9))) := dk_keep hw_3972 hh_3970 hm.kf (by decide)
  have h_3975 : w_3971 D.nf = some (102, dk_ci G 700 (fun i9 => nI (μ.nf i9))) := dk_keep hw_3972 hh_3970 hm.nf (by decide)
  have h_3976 : w_3971 D.rf = some (103, dk_ci G 700 (fun i9 => rI (μ.rf i9))) := dk_keep hw_3972 hh_3970 hm.rf (by decide)
  have h_3977 : w_3971 D.lf = some (104, dk_ci G 5000 (fun i9 => rI (μ.lf i9))) := dk_keep hw_3972 hh_3970 hm.lf (by decide)
  have h_3978 : w_3971 D.sv = some (105, dk_ci G 6 (fun i9 => nI (μ.sv i9))) := dk_keep hw_3972 hh_3970 hm.sv (by decide)
  have h_3979 : w_3971 D.bk = some (106, dk_ci G 16 (fun i9 => nI (μ.bk i9))) := dk_keep hw_3972 hh_3970 hm.bk (by decide)
  have h_3980 : w_3971 D.od = some (107, dk_ci G 700 (fun i9 => nI (μ.od i9))) := dk_keep hw_3972 hh_3970 hm.od (by decide)
  have h_3981 : w_3971 D.vf = some (108, dk_cl G 700 (fun i9 => μ.vf i9)) := dk_keep hw_3972 hh_3970 hm.vf (by decide)
  have h_3982 : w_3971 D.bv = some (109, dk_cl G 16 (fun i9 => μ.bv i9)) := dk_keep hw_3972 hh_3970 hm.bv (by decide)
  have h_3983 : w_3971 D.df = some (110, dk_cz G 700 (fun i9 => bo_i (μ.df i9))) := dk_keep hw_3972 hh_3970 hm.df (by decide)
  have h_3984 : w_3971 D.ss = some (111, dk_cz G 6 (fun i9 => bo_i (μ.ss i9))) := dk_keep hw_3972 hh_3970 hm.ss (by decide)
  have h_3985 : w_3971 D.bd = some (112, dk_cz G 16 (fun i9 => bo_i (μ.bd i9))) := dk_keep hw_3972 hh_3970 hm.bd (by decide)
  have h_3986 : w_3971 D.ks = some (113, dk_cz G 700 (fun i9 => bo_i (μ.ks i9))) := dk_keep hw_3972 hh_3970 hm.ks (by decide)
  have h_3987 : w_3971 D.bt = some (114, dk_cz G 6000 (fun i9 => bo_i (μ.bt i9))) := dk_keep hw_3972 hh_3970 hm.bt (by decide)
  have hm_3988 : md_at G w_3971 h D (μ.er' 0) := ⟨h_3973, h_3974, h_3975, h_3976, h_3977, h_3978, h_3979, h_3980, h_3981, h_3982, h_3983, h_3984, h_3985, h_3986, h_3987⟩
  have hh_3989 : w_3971 h = some (100, .inr (cx_M, [.int (nI 0), .int (nI μ.n), .int (nI μ.sq), .int (nI μ.sf), .int (nI μ.rs), .int (rI μ.ba), .int (nI μ.pr), .int (nI μ.mi), .ref D.kf, .ref D.nf, .ref D.rf, .ref D.lf, .ref D.sv, .ref D.bk, .ref D.od, .ref D.vf, .ref D.bv, .ref D.df, .ref D.ss, .ref D.bd, .ref D.ks, .ref D.bt])) := hm_3988.o
  have ha_3990 : w_3971 D.kf = some (101, dk_ci G 700 (fun i9 => nI (μ.kf i9))) := hm_3988.kf
  have ha_3991 : w_3971 D.nf = some (102, dk_ci G 700 (fun i9 => nI (μ.nf i9))) := hm_3988.nf
  have ha_3992 : w_3971 D.rf = some (103, dk_ci G 700 (fun i9 => rI (μ.rf i9))) := hm_3988.rf
  have ha_3993 : w_3971 D.lf = some (104, dk_ci G 5000 (fun i9 => rI (μ.lf i9))) := hm_3988.lf
  have ha_3994 : w_3971 D.sv = some (105, dk_ci G 6 (fun i9 => nI (μ.sv i9))) := hm_3988.sv
  have ha_3995 : w_3971 D.bk = some (106, dk_ci G 16 (fun i9 => nI (μ.bk i9))) := hm_3988.bk
  have ha_3996 : w_3971 D.od = some (107, dk_ci G 700 (fun i9 => nI (μ.od i9))) := hm_3988.od
  have ha_3997 : w_3971 D.vf = some (108, dk_cl G 700 (fun i9 => μ.vf i9)) := hm_3988.vf
  have ha_3998 : w_3971 D.bv = some (109, dk_cl G 16 (fun i9 => μ.bv i9)) := hm_3988.bv
  have ha_3999 : w_3971 D.df = some (110, dk_cz G 700 (fun i9 => bo_i (μ.df i9))) := hm_3988.df
  have ha_4000 : w_3971 D.ss = some (111, dk_cz G 6 (fun i9 => bo_i (μ.ss i9))) := hm_3988.ss
  have ha_4001 : w_3971 D.bd = some (112, dk_cz G 16 (fun i9 => bo_i (μ.bd i9))) := hm_3988.bd
  have ha_4002 : w_3971 D.ks = some (113, dk_cz G 700 (fun i9 => bo_i (μ.ks i9))) := hm_3988.ks
  have ha_4003 : w_3971 D.bt = some (114, dk_cz G 6000 (fun i9 => bo_i (μ.bt i9))) := hm_3988.bt
  refine lv_aload_n hx hb de_M_count_5 rfl (lv_at hl 0 rfl) ?_
  refine lv_iload_n hx hb de_M_count_6 rfl (lv_at hl 1 rfl) ?_
  refine lv_iconst (v := nI 0) hx hb de_M_count_7 (by decide) ?_
  refine lv_bipush (v := nI 9) hx hb de_M_count_8 (by decide) ?_
  refine dk_calli (va_runS (As := [.int (nI 4), .int (nI 0), .int (nI 9)]) (rest := [.ref h]) ⟨hx, hb, hml, hown, hts⟩ (c_M_in l G w_3971 (nI 4) (nI 0) (nI 9)) (va_cwS 3 hts (wd_gS wi_795 wi_793 wi_794 wi_8) rfl rfl rfl (by decide +kernel) ⟨Nat.le_of_ble_eq_true rfl, Nat.le_of_ble_eq_true rfl⟩) (dk_preS hE hP hS) rfl rfl hl.1 rfl (lv_room (Nat.le_of_ble_eq_true rfl)) de_M_count_10 ⟨(by first | exact Nat.le_of_ble_eq_true rfl | (simp only [Nat.zero_add]; omega) | omega), (by first | exact Nat.le_of_ble_eq_true rfl | (simp only [Nat.zero_add]; omega) | omega)⟩) hS (fun r_4006 w_4004 H locs hq_4005 hP hS => ?_)
  rw [im_y (by decide) (by omega)] at hq_4005
  obtain ⟨hr_4007, he_4008⟩ := hq_4005
  subst hr_4007
  rw [he_4008] at hP
  refine bo_if_eq (b := true) (tgt := 30) hx hb de_M_count_13 (by decide) (fun c_4009 => ?_) (fun c_4009 => ?_)
  · exact absurd c_4009 (by decide)
  · refine lv_iload_n hx hb de_M_count_16 rfl (lv_at hl 1 rfl) ?_
    refine lv_iconst (v := nI 2) hx hb de_M_count_17 (by decide) ?_
    refine nx_icmp_ge (a := 4) (b := 2) (tgt := 34) hx hb (by omega) (by omega) de_M_count_18 (by decide) (fun c_4010 => ?_) (fun c_4010 => ?_)
    · refine lv_iconst (v := nI 0) hx hb de_M_count_34 (by decide) ?_
      refine lv_iconst (v := nI 1) hx hb de_M_count_35 (by decide) ?_
      rw [show (nI 0) = bo_i false from (by decide)]
      refine dk_calli (va_runV (As := [.int (bo_i false), .int (nI 1)]) (rest := []) ⟨hx, hb, hml, hown, hts⟩ (c_M_fails l G w_3971 h D (μ.er' 0) hm_3988 false 1 (by decide) (by decide) (show (0 : Nat) < 3 by decide)) (cwV 2 hts (wd_gV (C := "RunKeeperModel") wi_799 wi_796 wi_798 (wd_p (q := (⟨"RunKeeperModel", "fails", "(ZI)Z"⟩, 22)) (by decide +kernel) (by decide +kernel)) wi_8) rfl rfl rfl (by decide +kernel) ⟨Nat.le_of_ble_eq_true rfl, Nat.le_of_ble_eq_true rfl⟩) (dk_preV (kn_M, kt_M, 22) hE hP hS hh_3989 rfl) rfl rfl hl.1 rfl (lv_room (Nat.le_of_ble_eq_true rfl)) de_M_count_36 ⟨(by first | exact Nat.le_of_ble_eq_true rfl | (simp only [Nat.zero_add]; omega) | omega), (by first | exact Nat.le_of_ble_eq_true rfl | (simp only [Nat.zero_add]; omega) | omega)⟩) hS (fun r_4013 w_4011 H locs hq_4012 hP hS => ?_)
      obtain ⟨hr_4014, hq_4015, hf_4016⟩ := hq_4012
      subst hr_4014
      have hm_4017 : md_at G w_4011 h D ((μ.er' 0).er' 0) := hq_4015
      have hh_4018 : w_4011 h = some (100, .inr (cx_M, [.int (nI 0), .int (nI μ.n), .int (nI μ.sq), .int (nI μ.sf), .int (nI μ.rs), .int (rI μ.ba), .int (nI μ.pr), .int (nI μ.mi), .ref D.kf, .ref D.nf, .ref D.rf, .ref D.lf, .ref D.sv, .ref D.bk, .ref D.od, .ref D.vf, .ref D.bv, .ref D.df, .ref D.ss, .ref D.bd, .ref D.ks, .ref D.bt])) := hm_4017.o
      have ha_4019 : w_4011 D.kf = some (101, dk_ci G 700 (fun i9 => nI (μ.kf i9))) := hm_4017.kf
      have ha_4020 : w_4011 D.nf = some (102, dk_ci G 700 (fun i9 => nI (μ.nf i9))) := hm_4017.nf
      have ha_4021 : w_4011 D.rf = some (103, dk_ci G 700 (fun i9 => rI (μ.rf i9))) := hm_4017.rf
      have ha_4022 : w_4011 D.lf = some (104, dk_ci G 5000 (fun i9 => rI (μ.lf i9))) := hm_4017.lf
      have ha_4023 : w_4011 D.sv = some (105, dk_ci G 6 (fun i9 => nI (μ.sv i9))) := hm_4017.sv
      have ha_4024 : w_4011 D.bk = some (106, dk_ci G 16 (fun i9 => nI (μ.bk i9))) := hm_4017.bk
      have ha_4025 : w_4011 D.od = some (107, dk_ci G 700 (fun i9 => nI (μ.od i9))) := hm_4017.od
      have ha_4026 : w_4011 D.vf = some (108, dk_cl G 700 (fun i9 => μ.vf i9)) := hm_4017.vf
      have ha_4027 : w_4011 D.bv = some (109, dk_cl G 16 (fun i9 => μ.bv i9)) := hm_4017.bv
      have ha_4028 : w_4011 D.df = some (110, dk_cz G 700 (fun i9 => bo_i (μ.df i9))) := hm_4017.df
      have ha_4029 : w_4011 D.ss = some (111, dk_cz G 6 (fun i9 => bo_i (μ.ss i9))) := hm_4017.ss
      have ha_4030 : w_4011 D.bd = some (112, dk_cz G 16 (fun i9 => bo_i (μ.bd i9))) := hm_4017.bd
      have ha_4031 : w_4011 D.ks = some (113, dk_cz G 700 (fun i9 => bo_i (μ.ks i9))) := hm_4017.ks
      have ha_4032 : w_4011 D.bt = some (114, dk_cz G 6000 (fun i9 => bo_i (μ.bt i9))) := hm_4017.bt
      refine bo_if_eq (b := false) (tgt := 44) hx hb de_M_count_39 (by decide) (fun c_4033 => ?_) (fun c_4033 => ?_)
      · refine lv_iconst (v := nI 0) hx hb de_M_count_44 (by decide) ?_
        refine lv_istore_n (lv' := [(3, .int (nI 0)), (0, .ref h), (1, .int (nI 4)), (2, .int k)]) hx hb de_M_count_45 rfl hl (by decide) rfl (fun ls hl => ?_)
        refine lv_iload_n hx hb de_M_count_46 rfl (lv_at hl 2 rfl) ?_
        have hmo2 : md_ok ((μ.er' 0).er' 0) := ⟨ok1, ok2, ok3, ok4, ok5, ok6, ok7, ok8, ok9, ok10, show (0 : Nat) < 3 by decide⟩
        refine lv_tableIn (x := nI 4) (off := 115) (tgt := 162) hx hb de_M_count_47 (by decide) (by decide) (by decide) (by decide) ?_
        refine lv_aload_n hx hb de_M_count_162 rfl (lv_at hl 1 rfl) ?_
        refine dk_get (a := h) (v := .int (nI μ.sq)) (C := kn_M) (T := kt_M) (N := 22) hx hb hts ki_M hown hK hP hh_4018 rfl 2 (by decide) (hts _ wi_716) (fun _ h9 => h9) rfl de_M_count_163 ?_
        exact dk_iret hQ hx hb hr hlocks hP hS (Nat.le_refl _) (Nat.le_refl _) (⟨rfl, hm_4017, ((dk_fr.rf).tr ((dk_fr.up (T := md_T) hh_3970 (by unfold md_T; omega)).eq hw_3972)).tr (hf_4016)⟩) de_M_count_166
      · exact absurd c_4033 (by decide)
    · exact absurd c_4010 (by omega)
set_option maxHeartbeats 4000000 in
set_option maxRecDepth 100000 in
theorem c_M_count5 (l : Launch) (G : dk_G) (w : dk_H) (h : Nat) (D : md_D) (μ : md_S) (hm : md_at G w h D μ) (hmo : md_ok μ) (k : Int32) : dk_Mi l my_M_count (wd_c my_M_count mb_M_count 5 (some .int)) rm_M_count G w [.ref h, .int (nI 5), .int k] (fun r w1 => r = nI μ.pr ∧ md_at G w1 h D (μ.er' 0) ∧ dk_fr md_T w w1) 0 0 := by
  obtain ⟨ok1, ok2, ok3, ok4, ok5, ok6, ok7, ok8, ok9, ok10, ok11⟩ := id hmo
  refine dk_enter (lv := [(0, .ref h), (1, .int (nI 5)), (2, .int k)]) (by decide) (Nat.le_of_ble_eq_true rfl) rfl (fun p e s m args below meth c ls Q hQ C hP hS hl => ?_)
  obtain ⟨hx, hb, hr, hml, hlocks, hown, hnm, hts, hE⟩ := C
  have hK := hE.1
  have hN := hE.2.1
  have hh_4034 : w h = some (100, .inr (cx_M, [.int (nI μ.er), .int (nI μ.n), .int (nI μ.sq), .int (nI μ.sf), .int (nI μ.rs), .int (rI μ.ba), .int (nI μ.pr), .int (nI μ.mi), .ref D.kf, .ref D.nf, .ref D.rf, .ref D.lf, .ref D.sv, .ref D.bk, .ref D.od, .ref D.vf, .ref D.bv, .ref D.df, .ref D.ss, .ref D.bd, .ref D.ks, .ref D.bt])) := hm.o
  refine lv_aload_n hx hb de_M_count_0 rfl (lv_at hl 0 rfl) ?_
  refine lv_iconst (v := nI 0) hx hb de_M_count_1 (by decide) ?_
  refine dk_put (a := h) (v := .int (nI 0)) (ty := .int) (C := kn_M) (T := kt_M) (N := 22) hx hb hts ki_M ky_M kk_M kd_M hown hK hP hS hh_4034 rfl 0 (by decide) (hts _ wi_714) (fun _ h9 => h9) rfl (by decide +kernel) rfl rfl (Nat.le_of_ble_eq_true rfl) de_M_count_2 (fun H locs w_4035 hw_4036 hP hS => ?_)
  have h_4037 : w_4035 h = some (100, .inr (cx_M, [.int (nI 0), .int (nI μ.n), .int (nI μ.sq), .int (nI μ.sf), .int (nI μ.rs), .int (rI μ.ba), .int (nI μ.pr), .int (nI μ.mi), .ref D.kf, .ref D.nf, .ref D.rf, .ref D.lf, .ref D.sv, .ref D.bk, .ref D.od, .ref D.vf, .ref D.bv, .ref D.df, .ref D.ss, .ref D.bd, .ref D.ks, .ref D.bt])) := dk_here hw_4036
  have h_4038 : w_4035 D.kf = some (101, dk_ci G 700 (fun i9 => nI (μ.kf i9))) := dk_keep hw_4036 hh_4034 hm.kf (by decide)
  have h_4039 : w_4035 D.nf = some (102, dk_ci G 700 (fun i9 => nI (μ.nf i9))) := dk_keep hw_4036 hh_4034 hm.nf (by decide)
  have h_4040 : w_4035 D.rf = some (103, dk_ci G 700 (fun i9 => rI (μ.rf i9))) := dk_keep hw_4036 hh_4034 hm.rf (by decide)
  have h_4041 : w_4035 D.lf = some (104, dk_ci G 5000 (fun i9 => rI (μ.lf i9))) := dk_keep hw_4036 hh_4034 hm.lf (by decide)
  have h_4042 : w_4035 D.sv = some (105, dk_ci G 6 (fun i9 => nI (μ.sv i9))) := dk_keep hw_4036 hh_4034 hm.sv (by decide)
  have h_4043 : w_4035 D.bk = some (106, dk_ci G 16 (fun i9 => nI (μ.bk i9))) := dk_keep hw_4036 hh_4034 hm.bk (by decide)
  have h_4044 : w_4035 D.od = some (107, dk_ci G 700 (fun i9 => nI (μ.od i9))) := dk_keep hw_4036 hh_4034 hm.od (by decide)
  have h_4045 : w_4035 D.vf = some (108, dk_cl G 700 (fun i9 => μ.vf i9)) := dk_keep hw_4036 hh_4034 hm.vf (by decide)
  have h_4046 : w_4035 D.bv = some (109, dk_cl G 16 (fun i9 => μ.bv i9)) := dk_keep hw_4036 hh_4034 hm.bv (by decide)
  have h_4047 : w_4035 D.df = some (110, dk_cz G 700 (fun i9 => bo_i (μ.df i9))) := dk_keep hw_4036 hh_4034 hm.df (by decide)
  have h_4048 : w_4035 D.ss = some (111, dk_cz G 6 (fun i9 => bo_i (μ.ss i9))) := dk_keep hw_4036 hh_4034 hm.ss (by decide)
  have h_4049 : w_4035 D.bd = some (112, dk_cz G 16 (fun i9 => bo_i (μ.bd i9))) := dk_keep hw_4036 hh_4034 hm.bd (by decide)
  have h_4050 : w_4035 D.ks = some (113, dk_cz G 700 (fun i9 => bo_i (μ.ks i9))) := dk_keep hw_4036 hh_4034 hm.ks (by decide)
  have h_4051 : w_4035 D.bt = some (114, dk_cz G 6000 (fun i9 => bo_i (μ.bt i9))) := dk_keep hw_4036 hh_4034 hm.bt (by decide)
  have hm_4052 : md_at G w_4035 h D (μ.er' 0) := ⟨h_4037, h_4038, h_4039, h_4040, h_4041, h_4042, h_4043, h_4044, h_4045, h_4046, h_4047, h_4048, h_4049, h_4050, h_4051⟩
  have hh_4053 : w_4035 h = some (100, .inr (cx_M, [.int (nI 0), .int (nI μ.n), .int (nI μ.sq), .int (nI μ.sf), .int (nI μ.rs), .int (rI μ.ba), .int (nI μ.pr), .int (nI μ.mi), .ref D.kf, .ref D.nf, .ref D.rf, .ref D.lf, .ref D.sv, .ref D.bk, .ref D.od, .ref D.vf, .ref D.bv, .ref D.df, .ref D.ss, .ref D.bd, .ref D.ks, .ref D.bt])) := hm_4052.o
  have ha_4054 : w_4035 D.kf = some (101, dk_ci G 700 (fun i9 => nI (μ.kf i9))) := hm_4052.kf
  have ha_4055 : w_4035 D.nf = some (102, dk_ci G 700 (fun i9 => nI (μ.nf i9))) := hm_4052.nf
  have ha_4056 : w_4035 D.rf = some (103, dk_ci G 700 (fun i9 => rI (μ.rf i9))) := hm_4052.rf
  have ha_4057 : w_4035 D.lf = some (104, dk_ci G 5000 (fun i9 => rI (μ.lf i9))) := hm_4052.lf
  have ha_4058 : w_4035 D.sv = some (105, dk_ci G 6 (fun i9 => nI (μ.sv i9))) := hm_4052.sv
  have ha_4059 : w_4035 D.bk = some (106, dk_ci G 16 (fun i9 => nI (μ.bk i9))) := hm_4052.bk
  have ha_4060 : w_4035 D.od = some (107, dk_ci G 700 (fun i9 => nI (μ.od i9))) := hm_4052.od
  have ha_4061 : w_4035 D.vf = some (108, dk_cl G 700 (fun i9 => μ.vf i9)) := hm_4052.vf
  have ha_4062 : w_4035 D.bv = some (109, dk_cl G 16 (fun i9 => μ.bv i9)) := hm_4052.bv
  have ha_4063 : w_4035 D.df = some (110, dk_cz G 700 (fun i9 => bo_i (μ.df i9))) := hm_4052.df
  have ha_4064 : w_4035 D.ss = some (111, dk_cz G 6 (fun i9 => bo_i (μ.ss i9))) := hm_4052.ss
  have ha_4065 : w_4035 D.bd = some (112, dk_cz G 16 (fun i9 => bo_i (μ.bd i9))) := hm_4052.bd
  have ha_4066 : w_4035 D.ks = some (113, dk_cz G 700 (fun i9 => bo_i (μ.ks i9))) := hm_4052.ks
  have ha_4067 : w_4035 D.bt = some (114, dk_cz G 6000 (fun i9 => bo_i (μ.bt i9))) := hm_4052.bt
  refine lv_aload_n hx hb de_M_count_5 rfl (lv_at hl 0 rfl) ?_
  refine lv_iload_n hx hb de_M_count_6 rfl (lv_at hl 1 rfl) ?_
  refine lv_iconst (v := nI 0) hx hb de_M_count_7 (by decide) ?_
  refine lv_bipush (v := nI 9) hx hb de_M_count_8 (by decide) ?_
  refine dk_calli (va_runS (As := [.int (nI 5), .int (nI 0), .int (nI 9)]) (rest := [.ref h]) ⟨hx, hb, hml, hown, hts⟩ (c_M_in l G w_4035 (nI 5) (nI 0) (nI 9)) (va_cwS 3 hts (wd_gS wi_795 wi_793 wi_794 wi_8) rfl rfl rfl (by decide +kernel) ⟨Nat.le_of_ble_eq_true rfl, Nat.le_of_ble_eq_true rfl⟩) (dk_preS hE hP hS) rfl rfl hl.1 rfl (lv_room (Nat.le_of_ble_eq_true rfl)) de_M_count_10 ⟨(by first | exact Nat.le_of_ble_eq_true rfl | (simp only [Nat.zero_add]; omega) | omega), (by first | exact Nat.le_of_ble_eq_true rfl | (simp only [Nat.zero_add]; omega) | omega)⟩) hS (fun r_4070 w_4068 H locs hq_4069 hP hS => ?_)
  rw [im_y (by decide) (by omega)] at hq_4069
  obtain ⟨hr_4071, he_4072⟩ := hq_4069
  subst hr_4071
  rw [he_4072] at hP
  refine bo_if_eq (b := true) (tgt := 30) hx hb de_M_count_13 (by decide) (fun c_4073 => ?_) (fun c_4073 => ?_)
  · exact absurd c_4073 (by decide)
  · refine lv_iload_n hx hb de_M_count_16 rfl (lv_at hl 1 rfl) ?_
    refine lv_iconst (v := nI 2) hx hb de_M_count_17 (by decide) ?_
    refine nx_icmp_ge (a := 5) (b := 2) (tgt := 34) hx hb (by omega) (by omega) de_M_count_18 (by decide) (fun c_4074 => ?_) (fun c_4074 => ?_)
    · refine lv_iconst (v := nI 0) hx hb de_M_count_34 (by decide) ?_
      refine lv_iconst (v := nI 1) hx hb de_M_count_35 (by decide) ?_
      rw [show (nI 0) = bo_i false from (by decide)]
      refine dk_calli (va_runV (As := [.int (bo_i false), .int (nI 1)]) (rest := []) ⟨hx, hb, hml, hown, hts⟩ (c_M_fails l G w_4035 h D (μ.er' 0) hm_4052 false 1 (by decide) (by decide) (show (0 : Nat) < 3 by decide)) (cwV 2 hts (wd_gV (C := "RunKeeperModel") wi_799 wi_796 wi_798 (wd_p (q := (⟨"RunKeeperModel", "fails", "(ZI)Z"⟩, 22)) (by decide +kernel) (by decide +kernel)) wi_8) rfl rfl rfl (by decide +kernel) ⟨Nat.le_of_ble_eq_true rfl, Nat.le_of_ble_eq_true rfl⟩) (dk_preV (kn_M, kt_M, 22) hE hP hS hh_4053 rfl) rfl rfl hl.1 rfl (lv_room (Nat.le_of_ble_eq_true rfl)) de_M_count_36 ⟨(by first | exact Nat.le_of_ble_eq_true rfl | (simp only [Nat.zero_add]; omega) | omega), (by first | exact Nat.le_of_ble_eq_true rfl | (simp only [Nat.zero_add]; omega) | omega)⟩) hS (fun r_4077 w_4075 H locs hq_4076 hP hS => ?_)
      obtain ⟨hr_4078, hq_4079, hf_4080⟩ := hq_4076
      subst hr_4078
      have hm_4081 : md_at G w_4075 h D ((μ.er' 0).er' 0) := hq_4079
      have hh_4082 : w_4075 h = some (100, .inr (cx_M, [.int (nI 0), .int (nI μ.n), .int (nI μ.sq), .int (nI μ.sf), .int (nI μ.rs), .int (rI μ.ba), .int (nI μ.pr), .int (nI μ.mi), .ref D.kf, .ref D.nf, .ref D.rf, .ref D.lf, .ref D.sv, .ref D.bk, .ref D.od, .ref D.vf, .ref D.bv, .ref D.df, .ref D.ss, .ref D.bd, .ref D.ks, .ref D.bt])) := hm_4081.o
      have ha_4083 : w_4075 D.kf = some (101, dk_ci G 700 (fun i9 => nI (μ.kf i9))) := hm_4081.kf
      have ha_4084 : w_4075 D.nf = some (102, dk_ci G 700 (fun i9 => nI (μ.nf i9))) := hm_4081.nf
      have ha_4085 : w_4075 D.rf = some (103, dk_ci G 700 (fun i9 => rI (μ.rf i9))) := hm_4081.rf
      have ha_4086 : w_4075 D.lf = some (104, dk_ci G 5000 (fun i9 => rI (μ.lf i9))) := hm_4081.lf
      have ha_4087 : w_4075 D.sv = some (105, dk_ci G 6 (fun i9 => nI (μ.sv i9))) := hm_4081.sv
      have ha_4088 : w_4075 D.bk = some (106, dk_ci G 16 (fun i9 => nI (μ.bk i9))) := hm_4081.bk
      have ha_4089 : w_4075 D.od = some (107, dk_ci G 700 (fun i9 => nI (μ.od i9))) := hm_4081.od
      have ha_4090 : w_4075 D.vf = some (108, dk_cl G 700 (fun i9 => μ.vf i9)) := hm_4081.vf
      have ha_4091 : w_4075 D.bv = some (109, dk_cl G 16 (fun i9 => μ.bv i9)) := hm_4081.bv
      have ha_4092 : w_4075 D.df = some (110, dk_cz G 700 (fun i9 => bo_i (μ.df i9))) := hm_4081.df
      have ha_4093 : w_4075 D.ss = some (111, dk_cz G 6 (fun i9 => bo_i (μ.ss i9))) := hm_4081.ss
      have ha_4094 : w_4075 D.bd = some (112, dk_cz G 16 (fun i9 => bo_i (μ.bd i9))) := hm_4081.bd
      have ha_4095 : w_4075 D.ks = some (113, dk_cz G 700 (fun i9 => bo_i (μ.ks i9))) := hm_4081.ks
      have ha_4096 : w_4075 D.bt = some (114, dk_cz G 6000 (fun i9 => bo_i (μ.bt i9))) := hm_4081.bt
      refine bo_if_eq (b := false) (tgt := 44) hx hb de_M_count_39 (by decide) (fun c_4097 => ?_) (fun c_4097 => ?_)
      · refine lv_iconst (v := nI 0) hx hb de_M_count_44 (by decide) ?_
        refine lv_istore_n (lv' := [(3, .int (nI 0)), (0, .ref h), (1, .int (nI 5)), (2, .int k)]) hx hb de_M_count_45 rfl hl (by decide) rfl (fun ls hl => ?_)
        refine lv_iload_n hx hb de_M_count_46 rfl (lv_at hl 2 rfl) ?_
        have hmo2 : md_ok ((μ.er' 0).er' 0) := ⟨ok1, ok2, ok3, ok4, ok5, ok6, ok7, ok8, ok9, ok10, show (0 : Nat) < 3 by decide⟩
        refine lv_tableIn (x := nI 5) (off := 120) (tgt := 167) hx hb de_M_count_47 (by decide) (by decide) (by decide) (by decide) ?_
        refine lv_aload_n hx hb de_M_count_167 rfl (lv_at hl 1 rfl) ?_
        refine dk_get (a := h) (v := .int (nI μ.pr)) (C := kn_M) (T := kt_M) (N := 22) hx hb hts ki_M hown hK hP hh_4082 rfl 6 (by decide) (hts _ wi_720) (fun _ h9 => h9) rfl de_M_count_168 ?_
        exact dk_iret hQ hx hb hr hlocks hP hS (Nat.le_refl _) (Nat.le_refl _) (⟨rfl, hm_4081, ((dk_fr.rf).tr ((dk_fr.up (T := md_T) hh_4034 (by unfold md_T; omega)).eq hw_4036)).tr (hf_4080)⟩) de_M_count_171
      · exact absurd c_4097 (by decide)
    · exact absurd c_4074 (by omega)
set_option maxHeartbeats 4000000 in
set_option maxRecDepth 100000 in
theorem c_M_count6 (l : Launch) (G : dk_G) (w : dk_H) (h : Nat) (D : md_D) (μ : md_S) (hm : md_at G w h D μ) (hmo : md_ok μ) (k : Int32) : dk_Mi l my_M_count (wd_c my_M_count mb_M_count 5 (some .int)) rm_M_count G w [.ref h, .int (nI 6), .int k] (fun r w1 => r = nI μ.mi ∧ md_at G w1 h D (μ.er' 0) ∧ dk_fr md_T w w1) 0 0 := by
  obtain ⟨ok1, ok2, ok3, ok4, ok5, ok6, ok7, ok8, ok9, ok10, ok11⟩ := id hmo
  refine dk_enter (lv := [(0, .ref h), (1, .int (nI 6)), (2, .int k)]) (by decide) (Nat.le_of_ble_eq_true rfl) rfl (fun p e s m args below meth c ls Q hQ C hP hS hl => ?_)
  obtain ⟨hx, hb, hr, hml, hlocks, hown, hnm, hts, hE⟩ := C
  have hK := hE.1
  have hN := hE.2.1
  have hh_4098 : w h = some (100, .inr (cx_M, [.int (nI μ.er), .int (nI μ.n), .int (nI μ.sq), .int (nI μ.sf), .int (nI μ.rs), .int (rI μ.ba), .int (nI μ.pr), .int (nI μ.mi), .ref D.kf, .ref D.nf, .ref D.rf, .ref D.lf, .ref D.sv, .ref D.bk, .ref D.od, .ref D.vf, .ref D.bv, .ref D.df, .ref D.ss, .ref D.bd, .ref D.ks, .ref D.bt])) := hm.o
  refine lv_aload_n hx hb de_M_count_0 rfl (lv_at hl 0 rfl) ?_
  refine lv_iconst (v := nI 0) hx hb de_M_count_1 (by decide) ?_
  refine dk_put (a := h) (v := .int (nI 0)) (ty := .int) (C := kn_M) (T := kt_M) (N := 22) hx hb hts ki_M ky_M kk_M kd_M hown hK hP hS hh_4098 rfl 0 (by decide) (hts _ wi_714) (fun _ h9 => h9) rfl (by decide +kernel) rfl rfl (Nat.le_of_ble_eq_true rfl) de_M_count_2 (fun H locs w_4099 hw_4100 hP hS => ?_)
  have h_4101 : w_4099 h = some (100, .inr (cx_M, [.int (nI 0), .int (nI μ.n), .int (nI μ.sq), .int (nI μ.sf), .int (nI μ.rs), .int (rI μ.ba), .int (nI μ.pr), .int (nI μ.mi), .ref D.kf, .ref D.nf, .ref D.rf, .ref D.lf, .ref D.sv, .ref D.bk, .ref D.od, .ref D.vf, .ref D.bv, .ref D.df, .ref D.ss, .ref D.bd, .ref D.ks, .ref D.bt])) := dk_here hw_4100
  have h_4102 : w_4099 D.kf = some (101, dk_ci G 700 (fun i9 => nI (μ.kf i9))) := dk_keep hw_4100 hh_4098 hm.kf (by decide)
  have h_4103 : w_4099 D.nf = some (102, dk_ci G 700 (fun i9 => nI (μ.nf i9))) := dk_keep hw_4100 hh_4098 hm.nf (by decide)
  have h_4104 : w_4099 D.rf = some (103, dk_ci G 700 (fun i9 => rI (μ.rf i9))) := dk_keep hw_4100 hh_4098 hm.rf (by decide)
  have h_4105 : w_4099 D.lf = some (104, dk_ci G 5000 (fun i9 => rI (μ.lf i9))) := dk_keep hw_4100 hh_4098 hm.lf (by decide)
  have h_4106 : w_4099 D.sv = some (105, dk_ci G 6 (fun i9 => nI (μ.sv i9))) := dk_keep hw_4100 hh_4098 hm.sv (by decide)
  have h_4107 : w_4099 D.bk = some (106, dk_ci G 16 (fun i9 => nI (μ.bk i9))) := dk_keep hw_4100 hh_4098 hm.bk (by decide)
  have h_4108 : w_4099 D.od = some (107, dk_ci G 700 (fun i9 => nI (μ.od i9))) := dk_keep hw_4100 hh_4098 hm.od (by decide)
  have h_4109 : w_4099 D.vf = some (108, dk_cl G 700 (fun i9 => μ.vf i9)) := dk_keep hw_4100 hh_4098 hm.vf (by decide)
  have h_4110 : w_4099 D.bv = some (109, dk_cl G 16 (fun i9 => μ.bv i9)) := dk_keep hw_4100 hh_4098 hm.bv (by decide)
  have h_4111 : w_4099 D.df = some (110, dk_cz G 700 (fun i9 => bo_i (μ.df i9))) := dk_keep hw_4100 hh_4098 hm.df (by decide)
  have h_4112 : w_4099 D.ss = some (111, dk_cz G 6 (fun i9 => bo_i (μ.ss i9))) := dk_keep hw_4100 hh_4098 hm.ss (by decide)
  have h_4113 : w_4099 D.bd = some (112, dk_cz G 16 (fun i9 => bo_i (μ.bd i9))) := dk_keep hw_4100 hh_4098 hm.bd (by decide)
  have h_4114 : w_4099 D.ks = some (113, dk_cz G 700 (fun i9 => bo_i (μ.ks i9))) := dk_keep hw_4100 hh_4098 hm.ks (by decide)
  have h_4115 : w_4099 D.bt = some (114, dk_cz G 6000 (fun i9 => bo_i (μ.bt i9))) := dk_keep hw_4100 hh_4098 hm.bt (by decide)
  have hm_4116 : md_at G w_4099 h D (μ.er' 0) := ⟨h_4101, h_4102, h_4103, h_4104, h_4105, h_4106, h_4107, h_4108, h_4109, h_4110, h_4111, h_4112, h_4113, h_4114, h_4115⟩
  have hh_4117 : w_4099 h = some (100, .inr (cx_M, [.int (nI 0), .int (nI μ.n), .int (nI μ.sq), .int (nI μ.sf), .int (nI μ.rs), .int (rI μ.ba), .int (nI μ.pr), .int (nI μ.mi), .ref D.kf, .ref D.nf, .ref D.rf, .ref D.lf, .ref D.sv, .ref D.bk, .ref D.od, .ref D.vf, .ref D.bv, .ref D.df, .ref D.ss, .ref D.bd, .ref D.ks, .ref D.bt])) := hm_4116.o
  have ha_4118 : w_4099 D.kf = some (101, dk_ci G 700 (fun i9 => nI (μ.kf i9))) := hm_4116.kf
  have ha_4119 : w_4099 D.nf = some (102, dk_ci G 700 (fun i9 => nI (μ.nf i9))) := hm_4116.nf
  have ha_4120 : w_4099 D.rf = some (103, dk_ci G 700 (fun i9 => rI (μ.rf i9))) := hm_4116.rf
  have ha_4121 : w_4099 D.lf = some (104, dk_ci G 5000 (fun i9 => rI (μ.lf i9))) := hm_4116.lf
  have ha_4122 : w_4099 D.sv = some (105, dk_ci G 6 (fun i9 => nI (μ.sv i9))) := hm_4116.sv
  have ha_4123 : w_4099 D.bk = some (106, dk_ci G 16 (fun i9 => nI (μ.bk i9))) := hm_4116.bk
  have ha_4124 : w_4099 D.od = some (107, dk_ci G 700 (fun i9 => nI (μ.od i9))) := hm_4116.od
  have ha_4125 : w_4099 D.vf = some (108, dk_cl G 700 (fun i9 => μ.vf i9)) := hm_4116.vf
  have ha_4126 : w_4099 D.bv = some (109, dk_cl G 16 (fun i9 => μ.bv i9)) := hm_4116.bv
  have ha_4127 : w_4099 D.df = some (110, dk_cz G 700 (fun i9 => bo_i (μ.df i9))) := hm_4116.df
  have ha_4128 : w_4099 D.ss = some (111, dk_cz G 6 (fun i9 => bo_i (μ.ss i9))) := hm_4116.ss
  have ha_4129 : w_4099 D.bd = some (112, dk_cz G 16 (fun i9 => bo_i (μ.bd i9))) := hm_4116.bd
  have ha_4130 : w_4099 D.ks = some (113, dk_cz G 700 (fun i9 => bo_i (μ.ks i9))) := hm_4116.ks
  have ha_4131 : w_4099 D.bt = some (114, dk_cz G 6000 (fun i9 => bo_i (μ.bt i9))) := hm_4116.bt
  refine lv_aload_n hx hb de_M_count_5 rfl (lv_at hl 0 rfl) ?_
  refine lv_iload_n hx hb de_M_count_6 rfl (lv_at hl 1 rfl) ?_
  refine lv_iconst (v := nI 0) hx hb de_M_count_7 (by decide) ?_
  refine lv_bipush (v := nI 9) hx hb de_M_count_8 (by decide) ?_
  refine dk_calli (va_runS (As := [.int (nI 6), .int (nI 0), .int (nI 9)]) (rest := [.ref h]) ⟨hx, hb, hml, hown, hts⟩ (c_M_in l G w_4099 (nI 6) (nI 0) (nI 9)) (va_cwS 3 hts (wd_gS wi_795 wi_793 wi_794 wi_8) rfl rfl rfl (by decide +kernel) ⟨Nat.le_of_ble_eq_true rfl, Nat.le_of_ble_eq_true rfl⟩) (dk_preS hE hP hS) rfl rfl hl.1 rfl (lv_room (Nat.le_of_ble_eq_true rfl)) de_M_count_10 ⟨(by first | exact Nat.le_of_ble_eq_true rfl | (simp only [Nat.zero_add]; omega) | omega), (by first | exact Nat.le_of_ble_eq_true rfl | (simp only [Nat.zero_add]; omega) | omega)⟩) hS (fun r_4134 w_4132 H locs hq_4133 hP hS => ?_)
  rw [im_y (by decide) (by omega)] at hq_4133
  obtain ⟨hr_4135, he_4136⟩ := hq_4133
  subst hr_4135
  rw [he_4136] at hP
  refine bo_if_eq (b := true) (tgt := 30) hx hb de_M_count_13 (by decide) (fun c_4137 => ?_) (fun c_4137 => ?_)
  · exact absurd c_4137 (by decide)
  · refine lv_iload_n hx hb de_M_count_16 rfl (lv_at hl 1 rfl) ?_
    refine lv_iconst (v := nI 2) hx hb de_M_count_17 (by decide) ?_
    refine nx_icmp_ge (a := 6) (b := 2) (tgt := 34) hx hb (by omega) (by omega) de_M_count_18 (by decide) (fun c_4138 => ?_) (fun c_4138 => ?_)
    · refine lv_iconst (v := nI 0) hx hb de_M_count_34 (by decide) ?_
      refine lv_iconst (v := nI 1) hx hb de_M_count_35 (by decide) ?_
      rw [show (nI 0) = bo_i false from (by decide)]
      refine dk_calli (va_runV (As := [.int (bo_i false), .int (nI 1)]) (rest := []) ⟨hx, hb, hml, hown, hts⟩ (c_M_fails l G w_4099 h D (μ.er' 0) hm_4116 false 1 (by decide) (by decide) (show (0 : Nat) < 3 by decide)) (cwV 2 hts (wd_gV (C := "RunKeeperModel") wi_799 wi_796 wi_798 (wd_p (q := (⟨"RunKeeperModel", "fails", "(ZI)Z"⟩, 22)) (by decide +kernel) (by decide +kernel)) wi_8) rfl rfl rfl (by decide +kernel) ⟨Nat.le_of_ble_eq_true rfl, Nat.le_of_ble_eq_true rfl⟩) (dk_preV (kn_M, kt_M, 22) hE hP hS hh_4117 rfl) rfl rfl hl.1 rfl (lv_room (Nat.le_of_ble_eq_true rfl)) de_M_count_36 ⟨(by first | exact Nat.le_of_ble_eq_true rfl | (simp only [Nat.zero_add]; omega) | omega), (by first | exact Nat.le_of_ble_eq_true rfl | (simp only [Nat.zero_add]; omega) | omega)⟩) hS (fun r_4141 w_4139 H locs hq_4140 hP hS => ?_)
      obtain ⟨hr_4142, hq_4143, hf_4144⟩ := hq_4140
      subst hr_4142
      have hm_4145 : md_at G w_4139 h D ((μ.er' 0).er' 0) := hq_4143
      have hh_4146 : w_4139 h = some (100, .inr (cx_M, [.int (nI 0), .int (nI μ.n), .int (nI μ.sq), .int (nI μ.sf), .int (nI μ.rs), .int (rI μ.ba), .int (nI μ.pr), .int (nI μ.mi), .ref D.kf, .ref D.nf, .ref D.rf, .ref D.lf, .ref D.sv, .ref D.bk, .ref D.od, .ref D.vf, .ref D.bv, .ref D.df, .ref D.ss, .ref D.bd, .ref D.ks, .ref D.bt])) := hm_4145.o
      have ha_4147 : w_4139 D.kf = some (101, dk_ci G 700 (fun i9 => nI (μ.kf i9))) := hm_4145.kf
      have ha_4148 : w_4139 D.nf = some (102, dk_ci G 700 (fun i9 => nI (μ.nf i9))) := hm_4145.nf
      have ha_4149 : w_4139 D.rf = some (103, dk_ci G 700 (fun i9 => rI (μ.rf i9))) := hm_4145.rf
      have ha_4150 : w_4139 D.lf = some (104, dk_ci G 5000 (fun i9 => rI (μ.lf i9))) := hm_4145.lf
      have ha_4151 : w_4139 D.sv = some (105, dk_ci G 6 (fun i9 => nI (μ.sv i9))) := hm_4145.sv
      have ha_4152 : w_4139 D.bk = some (106, dk_ci G 16 (fun i9 => nI (μ.bk i9))) := hm_4145.bk
      have ha_4153 : w_4139 D.od = some (107, dk_ci G 700 (fun i9 => nI (μ.od i9))) := hm_4145.od
      have ha_4154 : w_4139 D.vf = some (108, dk_cl G 700 (fun i9 => μ.vf i9)) := hm_4145.vf
      have ha_4155 : w_4139 D.bv = some (109, dk_cl G 16 (fun i9 => μ.bv i9)) := hm_4145.bv
      have ha_4156 : w_4139 D.df = some (110, dk_cz G 700 (fun i9 => bo_i (μ.df i9))) := hm_4145.df
      have ha_4157 : w_4139 D.ss = some (111, dk_cz G 6 (fun i9 => bo_i (μ.ss i9))) := hm_4145.ss
      have ha_4158 : w_4139 D.bd = some (112, dk_cz G 16 (fun i9 => bo_i (μ.bd i9))) := hm_4145.bd
      have ha_4159 : w_4139 D.ks = some (113, dk_cz G 700 (fun i9 => bo_i (μ.ks i9))) := hm_4145.ks
      have ha_4160 : w_4139 D.bt = some (114, dk_cz G 6000 (fun i9 => bo_i (μ.bt i9))) := hm_4145.bt
      refine bo_if_eq (b := false) (tgt := 44) hx hb de_M_count_39 (by decide) (fun c_4161 => ?_) (fun c_4161 => ?_)
      · refine lv_iconst (v := nI 0) hx hb de_M_count_44 (by decide) ?_
        refine lv_istore_n (lv' := [(3, .int (nI 0)), (0, .ref h), (1, .int (nI 6)), (2, .int k)]) hx hb de_M_count_45 rfl hl (by decide) rfl (fun ls hl => ?_)
        refine lv_iload_n hx hb de_M_count_46 rfl (lv_at hl 2 rfl) ?_
        have hmo2 : md_ok ((μ.er' 0).er' 0) := ⟨ok1, ok2, ok3, ok4, ok5, ok6, ok7, ok8, ok9, ok10, show (0 : Nat) < 3 by decide⟩
        refine lv_tableIn (x := nI 6) (off := 125) (tgt := 172) hx hb de_M_count_47 (by decide) (by decide) (by decide) (by decide) ?_
        refine lv_aload_n hx hb de_M_count_172 rfl (lv_at hl 1 rfl) ?_
        refine dk_get (a := h) (v := .int (nI μ.mi)) (C := kn_M) (T := kt_M) (N := 22) hx hb hts ki_M hown hK hP hh_4146 rfl 7 (by decide) (hts _ wi_721) (fun _ h9 => h9) rfl de_M_count_173 ?_
        exact dk_iret hQ hx hb hr hlocks hP hS (Nat.le_refl _) (Nat.le_refl _) (⟨rfl, hm_4145, ((dk_fr.rf).tr ((dk_fr.up (T := md_T) hh_4098 (by unfold md_T; omega)).eq hw_4100)).tr (hf_4144)⟩) de_M_count_176
      · exact absurd c_4161 (by decide)
    · exact absurd c_4138 (by omega)
set_option maxHeartbeats 4000000 in
set_option maxRecDepth 100000 in
theorem c_M_count7 (l : Launch) (G : dk_G) (w : dk_H) (h : Nat) (D : md_D) (μ : md_S) (hm : md_at G w h D μ) (hmo : md_ok μ) (k : Int32) : dk_Mi l my_M_count (wd_c my_M_count mb_M_count 5 (some .int)) rm_M_count G w [.ref h, .int (nI 7), .int k] (fun r w1 => r = nI (ct_f μ.ss 6) ∧ md_at G w1 h D (μ.er' 0) ∧ dk_fr md_T w w1) 0 0 := by
  obtain ⟨ok1, ok2, ok3, ok4, ok5, ok6, ok7, ok8, ok9, ok10, ok11⟩ := id hmo
  refine dk_enter (lv := [(0, .ref h), (1, .int (nI 7)), (2, .int k)]) (by decide) (Nat.le_of_ble_eq_true rfl) rfl (fun p e s m args below meth c ls Q hQ C hP hS hl => ?_)
  obtain ⟨hx, hb, hr, hml, hlocks, hown, hnm, hts, hE⟩ := C
  have hK := hE.1
  have hN := hE.2.1
  have hh_4162 : w h = some (100, .inr (cx_M, [.int (nI μ.er), .int (nI μ.n), .int (nI μ.sq), .int (nI μ.sf), .int (nI μ.rs), .int (rI μ.ba), .int (nI μ.pr), .int (nI μ.mi), .ref D.kf, .ref D.nf, .ref D.rf, .ref D.lf, .ref D.sv, .ref D.bk, .ref D.od, .ref D.vf, .ref D.bv, .ref D.df, .ref D.ss, .ref D.bd, .ref D.ks, .ref D.bt])) := hm.o
  refine lv_aload_n hx hb de_M_count_0 rfl (lv_at hl 0 rfl) ?_
  refine lv_iconst (v := nI 0) hx hb de_M_count_1 (by decide) ?_
  refine dk_put (a := h) (v := .int (nI 0)) (ty := .int) (C := kn_M) (T := kt_M) (N := 22) hx hb hts ki_M ky_M kk_M kd_M hown hK hP hS hh_4162 rfl 0 (by decide) (hts _ wi_714) (fun _ h9 => h9) rfl (by decide +kernel) rfl rfl (Nat.le_of_ble_eq_true rfl) de_M_count_2 (fun H locs w_4163 hw_4164 hP hS => ?_)
  have h_4165 : w_4163 h = some (100, .inr (cx_M, [.int (nI 0), .int (nI μ.n), .int (nI μ.sq), .int (nI μ.sf), .int (nI μ.rs), .int (rI μ.ba), .int (nI μ.pr), .int (nI μ.mi), .ref D.kf, .ref D.nf, .ref D.rf, .ref D.lf, .ref D.sv, .ref D.bk, .ref D.od, .ref D.vf, .ref D.bv, .ref D.df, .ref D.ss, .ref D.bd, .ref D.ks, .ref D.bt])) := dk_here hw_4164
  have h_4166 : w_4163 D.kf = some (101, dk_ci G 700 (fun i9 => nI (μ.kf i9))) := dk_keep hw_4164 hh_4162 hm.kf (by decide)
  have h_4167 : w_4163 D.nf = some (102, dk_ci G 700 (fun i9 => nI (μ.nf i9))) := dk_keep hw_4164 hh_4162 hm.nf (by decide)
  have h_4168 : w_4163 D.rf = some (103, dk_ci G 700 (fun i9 => rI (μ.rf i9))) := dk_keep hw_4164 hh_4162 hm.rf (by decide)
  have h_4169 : w_4163 D.lf = some (104, dk_ci G 5000 (fun i9 => rI (μ.lf i9))) := dk_keep hw_4164 hh_4162 hm.lf (by decide)
  have h_4170 : w_4163 D.sv = some (105, dk_ci G 6 (fun i9 => nI (μ.sv i9))) := dk_keep hw_4164 hh_4162 hm.sv (by decide)
  have h_4171 : w_4163 D.bk = some (106, dk_ci G 16 (fun i9 => nI (μ.bk i9))) := dk_keep hw_4164 hh_4162 hm.bk (by decide)
  have h_4172 : w_4163 D.od = some (107, dk_ci G 700 (fun i9 => nI (μ.od i9))) := dk_keep hw_4164 hh_4162 hm.od (by decide)
  have h_4173 : w_4163 D.vf = some (108, dk_cl G 700 (fun i9 => μ.vf i9)) := dk_keep hw_4164 hh_4162 hm.vf (by decide)
  have h_4174 : w_4163 D.bv = some (109, dk_cl G 16 (fun i9 => μ.bv i9)) := dk_keep hw_4164 hh_4162 hm.bv (by decide)
  have h_4175 : w_4163 D.df = some (110, dk_cz G 700 (fun i9 => bo_i (μ.df i9))) := dk_keep hw_4164 hh_4162 hm.df (by decide)
  have h_4176 : w_4163 D.ss = some (111, dk_cz G 6 (fun i9 => bo_i (μ.ss i9))) := dk_keep hw_4164 hh_4162 hm.ss (by decide)
  have h_4177 : w_4163 D.bd = some (112, dk_cz G 16 (fun i9 => bo_i (μ.bd i9))) := dk_keep hw_4164 hh_4162 hm.bd (by decide)
  have h_4178 : w_4163 D.ks = some (113, dk_cz G 700 (fun i9 => bo_i (μ.ks i9))) := dk_keep hw_4164 hh_4162 hm.ks (by decide)
  have h_4179 : w_4163 D.bt = some (114, dk_cz G 6000 (fun i9 => bo_i (μ.bt i9))) := dk_keep hw_4164 hh_4162 hm.bt (by decide)
  have hm_4180 : md_at G w_4163 h D (μ.er' 0) := ⟨h_4165, h_4166, h_4167, h_4168, h_4169, h_4170, h_4171, h_4172, h_4173, h_4174, h_4175, h_4176, h_4177, h_4178, h_4179⟩
  have hh_4181 : w_4163 h = some (100, .inr (cx_M, [.int (nI 0), .int (nI μ.n), .int (nI μ.sq), .int (nI μ.sf), .int (nI μ.rs), .int (rI μ.ba), .int (nI μ.pr), .int (nI μ.mi), .ref D.kf, .ref D.nf, .ref D.rf, .ref D.lf, .ref D.sv, .ref D.bk, .ref D.od, .ref D.vf, .ref D.bv, .ref D.df, .ref D.ss, .ref D.bd, .ref D.ks, .ref D.bt])) := hm_4180.o
  have ha_4182 : w_4163 D.kf = some (101, dk_ci G 700 (fun i9 => nI (μ.kf i9))) := hm_4180.kf
  have ha_4183 : w_4163 D.nf = some (102, dk_ci G 700 (fun i9 => nI (μ.nf i9))) := hm_4180.nf
  have ha_4184 : w_4163 D.rf = some (103, dk_ci G 700 (fun i9 => rI (μ.rf i9))) := hm_4180.rf
  have ha_4185 : w_4163 D.lf = some (104, dk_ci G 5000 (fun i9 => rI (μ.lf i9))) := hm_4180.lf
  have ha_4186 : w_4163 D.sv = some (105, dk_ci G 6 (fun i9 => nI (μ.sv i9))) := hm_4180.sv
  have ha_4187 : w_4163 D.bk = some (106, dk_ci G 16 (fun i9 => nI (μ.bk i9))) := hm_4180.bk
  have ha_4188 : w_4163 D.od = some (107, dk_ci G 700 (fun i9 => nI (μ.od i9))) := hm_4180.od
  have ha_4189 : w_4163 D.vf = some (108, dk_cl G 700 (fun i9 => μ.vf i9)) := hm_4180.vf
  have ha_4190 : w_4163 D.bv = some (109, dk_cl G 16 (fun i9 => μ.bv i9)) := hm_4180.bv
  have ha_4191 : w_4163 D.df = some (110, dk_cz G 700 (fun i9 => bo_i (μ.df i9))) := hm_4180.df
  have ha_4192 : w_4163 D.ss = some (111, dk_cz G 6 (fun i9 => bo_i (μ.ss i9))) := hm_4180.ss
  have ha_4193 : w_4163 D.bd = some (112, dk_cz G 16 (fun i9 => bo_i (μ.bd i9))) := hm_4180.bd
  have ha_4194 : w_4163 D.ks = some (113, dk_cz G 700 (fun i9 => bo_i (μ.ks i9))) := hm_4180.ks
  have ha_4195 : w_4163 D.bt = some (114, dk_cz G 6000 (fun i9 => bo_i (μ.bt i9))) := hm_4180.bt
  refine lv_aload_n hx hb de_M_count_5 rfl (lv_at hl 0 rfl) ?_
  refine lv_iload_n hx hb de_M_count_6 rfl (lv_at hl 1 rfl) ?_
  refine lv_iconst (v := nI 0) hx hb de_M_count_7 (by decide) ?_
  refine lv_bipush (v := nI 9) hx hb de_M_count_8 (by decide) ?_
  refine dk_calli (va_runS (As := [.int (nI 7), .int (nI 0), .int (nI 9)]) (rest := [.ref h]) ⟨hx, hb, hml, hown, hts⟩ (c_M_in l G w_4163 (nI 7) (nI 0) (nI 9)) (va_cwS 3 hts (wd_gS wi_795 wi_793 wi_794 wi_8) rfl rfl rfl (by decide +kernel) ⟨Nat.le_of_ble_eq_true rfl, Nat.le_of_ble_eq_true rfl⟩) (dk_preS hE hP hS) rfl rfl hl.1 rfl (lv_room (Nat.le_of_ble_eq_true rfl)) de_M_count_10 ⟨(by first | exact Nat.le_of_ble_eq_true rfl | (simp only [Nat.zero_add]; omega) | omega), (by first | exact Nat.le_of_ble_eq_true rfl | (simp only [Nat.zero_add]; omega) | omega)⟩) hS (fun r_4198 w_4196 H locs hq_4197 hP hS => ?_)
  rw [im_y (by decide) (by omega)] at hq_4197
  obtain ⟨hr_4199, he_4200⟩ := hq_4197
  subst hr_4199
  rw [he_4200] at hP
  refine bo_if_eq (b := true) (tgt := 30) hx hb de_M_count_13 (by decide) (fun c_4201 => ?_) (fun c_4201 => ?_)
  · exact absurd c_4201 (by decide)
  · refine lv_iload_n hx hb de_M_count_16 rfl (lv_at hl 1 rfl) ?_
    refine lv_iconst (v := nI 2) hx hb de_M_count_17 (by decide) ?_
    refine nx_icmp_ge (a := 7) (b := 2) (tgt := 34) hx hb (by omega) (by omega) de_M_count_18 (by decide) (fun c_4202 => ?_) (fun c_4202 => ?_)
    · refine lv_iconst (v := nI 0) hx hb de_M_count_34 (by decide) ?_
      refine lv_iconst (v := nI 1) hx hb de_M_count_35 (by decide) ?_
      rw [show (nI 0) = bo_i false from (by decide)]
      refine dk_calli (va_runV (As := [.int (bo_i false), .int (nI 1)]) (rest := []) ⟨hx, hb, hml, hown, hts⟩ (c_M_fails l G w_4163 h D (μ.er' 0) hm_4180 false 1 (by decide) (by decide) (show (0 : Nat) < 3 by decide)) (cwV 2 hts (wd_gV (C := "RunKeeperModel") wi_799 wi_796 wi_798 (wd_p (q := (⟨"RunKeeperModel", "fails", "(ZI)Z"⟩, 22)) (by decide +kernel) (by decide +kernel)) wi_8) rfl rfl rfl (by decide +kernel) ⟨Nat.le_of_ble_eq_true rfl, Nat.le_of_ble_eq_true rfl⟩) (dk_preV (kn_M, kt_M, 22) hE hP hS hh_4181 rfl) rfl rfl hl.1 rfl (lv_room (Nat.le_of_ble_eq_true rfl)) de_M_count_36 ⟨(by first | exact Nat.le_of_ble_eq_true rfl | (simp only [Nat.zero_add]; omega) | omega), (by first | exact Nat.le_of_ble_eq_true rfl | (simp only [Nat.zero_add]; omega) | omega)⟩) hS (fun r_4205 w_4203 H locs hq_4204 hP hS => ?_)
      obtain ⟨hr_4206, hq_4207, hf_4208⟩ := hq_4204
      subst hr_4206
      have hm_4209 : md_at G w_4203 h D ((μ.er' 0).er' 0) := hq_4207
      have hh_4210 : w_4203 h = some (100, .inr (cx_M, [.int (nI 0), .int (nI μ.n), .int (nI μ.sq), .int (nI μ.sf), .int (nI μ.rs), .int (rI μ.ba), .int (nI μ.pr), .int (nI μ.mi), .ref D.kf, .ref D.nf, .ref D.rf, .ref D.lf, .ref D.sv, .ref D.bk, .ref D.od, .ref D.vf, .ref D.bv, .ref D.df, .ref D.ss, .ref D.bd, .ref D.ks, .ref D.bt])) := hm_4209.o
      have ha_4211 : w_4203 D.kf = some (101, dk_ci G 700 (fun i9 => nI (μ.kf i9))) := hm_4209.kf
      have ha_4212 : w_4203 D.nf = some (102, dk_ci G 700 (fun i9 => nI (μ.nf i9))) := hm_4209.nf
      have ha_4213 : w_4203 D.rf = some (103, dk_ci G 700 (fun i9 => rI (μ.rf i9))) := hm_4209.rf
      have ha_4214 : w_4203 D.lf = some (104, dk_ci G 5000 (fun i9 => rI (μ.lf i9))) := hm_4209.lf
      have ha_4215 : w_4203 D.sv = some (105, dk_ci G 6 (fun i9 => nI (μ.sv i9))) := hm_4209.sv
      have ha_4216 : w_4203 D.bk = some (106, dk_ci G 16 (fun i9 => nI (μ.bk i9))) := hm_4209.bk
      have ha_4217 : w_4203 D.od = some (107, dk_ci G 700 (fun i9 => nI (μ.od i9))) := hm_4209.od
      have ha_4218 : w_4203 D.vf = some (108, dk_cl G 700 (fun i9 => μ.vf i9)) := hm_4209.vf
      have ha_4219 : w_4203 D.bv = some (109, dk_cl G 16 (fun i9 => μ.bv i9)) := hm_4209.bv
      have ha_4220 : w_4203 D.df = some (110, dk_cz G 700 (fun i9 => bo_i (μ.df i9))) := hm_4209.df
      have ha_4221 : w_4203 D.ss = some (111, dk_cz G 6 (fun i9 => bo_i (μ.ss i9))) := hm_4209.ss
      have ha_4222 : w_4203 D.bd = some (112, dk_cz G 16 (fun i9 => bo_i (μ.bd i9))) := hm_4209.bd
      have ha_4223 : w_4203 D.ks = some (113, dk_cz G 700 (fun i9 => bo_i (μ.ks i9))) := hm_4209.ks
      have ha_4224 : w_4203 D.bt = some (114, dk_cz G 6000 (fun i9 => bo_i (μ.bt i9))) := hm_4209.bt
      refine bo_if_eq (b := false) (tgt := 44) hx hb de_M_count_39 (by decide) (fun c_4225 => ?_) (fun c_4225 => ?_)
      · refine lv_iconst (v := nI 0) hx hb de_M_count_44 (by decide) ?_
        refine lv_istore_n (lv' := [(3, .int (nI 0)), (0, .ref h), (1, .int (nI 7)), (2, .int k)]) hx hb de_M_count_45 rfl hl (by decide) rfl (fun ls hl => ?_)
        refine lv_iload_n hx hb de_M_count_46 rfl (lv_at hl 2 rfl) ?_
        have hmo2 : md_ok ((μ.er' 0).er' 0) := ⟨ok1, ok2, ok3, ok4, ok5, ok6, ok7, ok8, ok9, ok10, show (0 : Nat) < 3 by decide⟩
        refine lv_tableIn (x := nI 7) (off := 130) (tgt := 177) hx hb de_M_count_47 (by decide) (by decide) (by decide) (by decide) ?_
        refine lv_iconst (v := nI 0) hx hb de_M_count_177 (by decide) ?_
        refine lv_istore (lv' := [(4, .int (nI 0)), (3, .int (nI 0)), (0, .ref h), (1, .int (nI 7)), (2, .int k)]) hx hb de_M_count_178 hl (by decide) rfl (fun ls hl => ?_)
        have lp : ∀ (zk : Nat) (j : Nat) (m9 : Nat), 6 - j < zk → (j ≤ 6) → (m9 = ct_f μ.ss j) → ∀ (ls : Array Slot), lv_has ls 5 [(0, .ref h), (1, .int (nI 7)), (2, .int k), (3, .int (nI m9)), (4, .int (nI j))] → W p l e rm_M_count s m args below meth c H locs (0 + 0 + 0) (0 + 0 + 0) Q (F0 m 180 ls []) := by
          intro zk
          induction zk with
          | zero =>
            intro j m9 hk
            exact absurd hk (by omega)
          | succ zk ih =>
            intro j m9 hk hj hm9
            intro ls hl
            refine lv_iload hx hb de_M_count_180 (lv_at hl 4 rfl) ?_
            refine lv_bipush (v := nI 6) hx hb de_M_count_182 (by decide) ?_
            refine nx_icmp_ge (a := j) (b := 6) (tgt := 206) hx hb (by omega) (by omega) de_M_count_184 (by decide) (fun c_4226 => ?_) (fun c_4226 => ?_)
            · have e9 : j = 6 := by omega
              refine lv_iload_n hx hb de_M_count_206 rfl (lv_at hl 3 rfl) ?_
              exact dk_iret hQ hx hb hr hlocks hP hS (Nat.le_refl _) (Nat.le_refl _) (⟨by rw [hm9, e9], hm_4209, ((dk_fr.rf).tr ((dk_fr.up (T := md_T) hh_4162 (by unfold md_T; omega)).eq hw_4164)).tr (hf_4208)⟩) de_M_count_207
            · refine lv_aload_n hx hb de_M_count_187 rfl (lv_at hl 0 rfl) ?_
              refine dk_get (a := h) (v := .ref D.ss) (C := kn_M) (T := kt_M) (N := 22) hx hb hts ki_M hown hK hP hh_4210 rfl 18 (by decide) (hts _ wi_732) (fun _ h9 => h9) rfl de_M_count_188 ?_
              refine lv_iload hx hb de_M_count_191 (lv_at hl 4 rfl) ?_
              refine dk_zald (a := D.ss) hx hb hK hP ha_4221 j rfl (by omega) (by omega) de_M_count_193 ?_
              refine bo_if_eq (b := (μ.ss j)) (tgt := 200) hx hb de_M_count_194 (by decide) (fun c_4227 => ?_) (fun c_4227 => ?_)
              · refine lv_iinc (v := nI (j + 1)) (lv' := [(4, .int (nI (j + 1))), (0, .ref h), (1, .int (nI 7)), (2, .int k), (3, .int (nI m9))]) hx hb de_M_count_200 hl (k := 4) rfl (nx_inc j) (by decide) rfl (fun ls hl => ?_)
                refine lv_goto (tgt := 180) hx hb de_M_count_203 (by decide) ?_
                have e8 : μ.ss j = false := c_4227
                exact ih (j + 1) m9 (by omega) (by omega) (by rw [ct_n (p := μ.ss) e8, hm9]) _ (lv_sub hl [1, 2, 3, 4, 0] rfl)
              · refine lv_iinc (v := nI (m9 + 1)) (lv' := [(3, .int (nI (m9 + 1))), (0, .ref h), (1, .int (nI 7)), (2, .int k), (4, .int (nI j))]) hx hb de_M_count_197 hl (k := 3) rfl (nx_inc m9) (by decide) rfl (fun ls hl => ?_)
                refine lv_iinc (v := nI (j + 1)) (lv' := [(4, .int (nI (j + 1))), (3, .int (nI (m9 + 1))), (0, .ref h), (1, .int (nI 7)), (2, .int k)]) hx hb de_M_count_200 hl (k := 4) rfl (nx_inc j) (by decide) rfl (fun ls hl => ?_)
                refine lv_goto (tgt := 180) hx hb de_M_count_203 (by decide) ?_
                have e8 : μ.ss j = true := c_4227
                exact ih (j + 1) (m9 + 1) (by omega) (by omega) (by rw [ct_y (p := μ.ss) e8, hm9]) _ (lv_sub hl [2, 3, 4, 1, 0] rfl)
        exact lp (6 + 1) 0 0 (by omega) (Nat.zero_le _) rfl _ (lv_sub hl [2, 3, 4, 1, 0] rfl)
      · exact absurd c_4225 (by decide)
    · exact absurd c_4202 (by omega)
set_option maxHeartbeats 4000000 in
set_option maxRecDepth 100000 in
theorem c_M_count8 (l : Launch) (G : dk_G) (w : dk_H) (h : Nat) (D : md_D) (μ : md_S) (hm : md_at G w h D μ) (hmo : md_ok μ) (k : Int32) : dk_Mi l my_M_count (wd_c my_M_count mb_M_count 5 (some .int)) rm_M_count G w [.ref h, .int (nI 8), .int k] (fun r w1 => r = rI μ.ba ∧ md_at G w1 h D (μ.er' 0) ∧ dk_fr md_T w w1) 0 0 := by
  obtain ⟨ok1, ok2, ok3, ok4, ok5, ok6, ok7, ok8, ok9, ok10, ok11⟩ := id hmo
  refine dk_enter (lv := [(0, .ref h), (1, .int (nI 8)), (2, .int k)]) (by decide) (Nat.le_of_ble_eq_true rfl) rfl (fun p e s m args below meth c ls Q hQ C hP hS hl => ?_)
  obtain ⟨hx, hb, hr, hml, hlocks, hown, hnm, hts, hE⟩ := C
  have hK := hE.1
  have hN := hE.2.1
  have hh_4228 : w h = some (100, .inr (cx_M, [.int (nI μ.er), .int (nI μ.n), .int (nI μ.sq), .int (nI μ.sf), .int (nI μ.rs), .int (rI μ.ba), .int (nI μ.pr), .int (nI μ.mi), .ref D.kf, .ref D.nf, .ref D.rf, .ref D.lf, .ref D.sv, .ref D.bk, .ref D.od, .ref D.vf, .ref D.bv, .ref D.df, .ref D.ss, .ref D.bd, .ref D.ks, .ref D.bt])) := hm.o
  refine lv_aload_n hx hb de_M_count_0 rfl (lv_at hl 0 rfl) ?_
  refine lv_iconst (v := nI 0) hx hb de_M_count_1 (by decide) ?_
  refine dk_put (a := h) (v := .int (nI 0)) (ty := .int) (C := kn_M) (T := kt_M) (N := 22) hx hb hts ki_M ky_M kk_M kd_M hown hK hP hS hh_4228 rfl 0 (by decide) (hts _ wi_714) (fun _ h9 => h9) rfl (by decide +kernel) rfl rfl (Nat.le_of_ble_eq_true rfl) de_M_count_2 (fun H locs w_4229 hw_4230 hP hS => ?_)
  have h_4231 : w_4229 h = some (100, .inr (cx_M, [.int (nI 0), .int (nI μ.n), .int (nI μ.sq), .int (nI μ.sf), .int (nI μ.rs), .int (rI μ.ba), .int (nI μ.pr), .int (nI μ.mi), .ref D.kf, .ref D.nf, .ref D.rf, .ref D.lf, .ref D.sv, .ref D.bk, .ref D.od, .ref D.vf, .ref D.bv, .ref D.df, .ref D.ss, .ref D.bd, .ref D.ks, .ref D.bt])) := dk_here hw_4230
  have h_4232 : w_4229 D.kf = some (101, dk_ci G 700 (fun i9 => nI (μ.kf i9))) := dk_keep hw_4230 hh_4228 hm.kf (by decide)
  have h_4233 : w_4229 D.nf = some (102, dk_ci G 700 (fun i9 => nI (μ.nf i9))) := dk_keep hw_4230 hh_4228 hm.nf (by decide)
  have h_4234 : w_4229 D.rf = some (103, dk_ci G 700 (fun i9 => rI (μ.rf i9))) := dk_keep hw_4230 hh_4228 hm.rf (by decide)
  have h_4235 : w_4229 D.lf = some (104, dk_ci G 5000 (fun i9 => rI (μ.lf i9))) := dk_keep hw_4230 hh_4228 hm.lf (by decide)
  have h_4236 : w_4229 D.sv = some (105, dk_ci G 6 (fun i9 => nI (μ.sv i9))) := dk_keep hw_4230 hh_4228 hm.sv (by decide)
  have h_4237 : w_4229 D.bk = some (106, dk_ci G 16 (fun i9 => nI (μ.bk i9))) := dk_keep hw_4230 hh_4228 hm.bk (by decide)
  have h_4238 : w_4229 D.od = some (107, dk_ci G 700 (fun i9 => nI (μ.od i9))) := dk_keep hw_4230 hh_4228 hm.od (by decide)
  have h_4239 : w_4229 D.vf = some (108, dk_cl G 700 (fun i9 => μ.vf i9)) := dk_keep hw_4230 hh_4228 hm.vf (by decide)
  have h_4240 : w_4229 D.bv = some (109, dk_cl G 16 (fun i9 => μ.bv i9)) := dk_keep hw_4230 hh_4228 hm.bv (by decide)
  have h_4241 : w_4229 D.df = some (110, dk_cz G 700 (fun i9 => bo_i (μ.df i9))) := dk_keep hw_4230 hh_4228 hm.df (by decide)
  have h_4242 : w_4229 D.ss = some (111, dk_cz G 6 (fun i9 => bo_i (μ.ss i9))) := dk_keep hw_4230 hh_4228 hm.ss (by decide)
  have h_4243 : w_4229 D.bd = some (112, dk_cz G 16 (fun i9 => bo_i (μ.bd i9))) := dk_keep hw_4230 hh_4228 hm.bd (by decide)
  have h_4244 : w_4229 D.ks = some (113, dk_cz G 700 (fun i9 => bo_i (μ.ks i9))) := dk_keep hw_4230 hh_4228 hm.ks (by decide)
  have h_4245 : w_4229 D.bt = some (114, dk_cz G 6000 (fun i9 => bo_i (μ.bt i9))) := dk_keep hw_4230 hh_4228 hm.bt (by decide)
  have hm_4246 : md_at G w_4229 h D (μ.er' 0) := ⟨h_4231, h_4232, h_4233, h_4234, h_4235, h_4236, h_4237, h_4238, h_4239, h_4240, h_4241, h_4242, h_4243, h_4244, h_4245⟩
  have hh_4247 : w_4229 h = some (100, .inr (cx_M, [.int (nI 0), .int (nI μ.n), .int (nI μ.sq), .int (nI μ.sf), .int (nI μ.rs), .int (rI μ.ba), .int (nI μ.pr), .int (nI μ.mi), .ref D.kf, .ref D.nf, .ref D.rf, .ref D.lf, .ref D.sv, .ref D.bk, .ref D.od, .ref D.vf, .ref D.bv, .ref D.df, .ref D.ss, .ref D.bd, .ref D.ks, .ref D.bt])) := hm_4246.o
  have ha_4248 : w_4229 D.kf = some (101, dk_ci G 700 (fun i9 => nI (μ.kf i9))) := hm_4246.kf
  have ha_4249 : w_4229 D.nf = some (102, dk_ci G 700 (fun i9 => nI (μ.nf i9))) := hm_4246.nf
  have ha_4250 : w_4229 D.rf = some (103, dk_ci G 700 (fun i9 => rI (μ.rf i9))) := hm_4246.rf
  have ha_4251 : w_4229 D.lf = some (104, dk_ci G 5000 (fun i9 => rI (μ.lf i9))) := hm_4246.lf
  have ha_4252 : w_4229 D.sv = some (105, dk_ci G 6 (fun i9 => nI (μ.sv i9))) := hm_4246.sv
  have ha_4253 : w_4229 D.bk = some (106, dk_ci G 16 (fun i9 => nI (μ.bk i9))) := hm_4246.bk
  have ha_4254 : w_4229 D.od = some (107, dk_ci G 700 (fun i9 => nI (μ.od i9))) := hm_4246.od
  have ha_4255 : w_4229 D.vf = some (108, dk_cl G 700 (fun i9 => μ.vf i9)) := hm_4246.vf
  have ha_4256 : w_4229 D.bv = some (109, dk_cl G 16 (fun i9 => μ.bv i9)) := hm_4246.bv
  have ha_4257 : w_4229 D.df = some (110, dk_cz G 700 (fun i9 => bo_i (μ.df i9))) := hm_4246.df
  have ha_4258 : w_4229 D.ss = some (111, dk_cz G 6 (fun i9 => bo_i (μ.ss i9))) := hm_4246.ss
  have ha_4259 : w_4229 D.bd = some (112, dk_cz G 16 (fun i9 => bo_i (μ.bd i9))) := hm_4246.bd
  have ha_4260 : w_4229 D.ks = some (113, dk_cz G 700 (fun i9 => bo_i (μ.ks i9))) := hm_4246.ks
  have ha_4261 : w_4229 D.bt = some (114, dk_cz G 6000 (fun i9 => bo_i (μ.bt i9))) := hm_4246.bt
  refine lv_aload_n hx hb de_M_count_5 rfl (lv_at hl 0 rfl) ?_
  refine lv_iload_n hx hb de_M_count_6 rfl (lv_at hl 1 rfl) ?_
  refine lv_iconst (v := nI 0) hx hb de_M_count_7 (by decide) ?_
  refine lv_bipush (v := nI 9) hx hb de_M_count_8 (by decide) ?_
  refine dk_calli (va_runS (As := [.int (nI 8), .int (nI 0), .int (nI 9)]) (rest := [.ref h]) ⟨hx, hb, hml, hown, hts⟩ (c_M_in l G w_4229 (nI 8) (nI 0) (nI 9)) (va_cwS 3 hts (wd_gS wi_795 wi_793 wi_794 wi_8) rfl rfl rfl (by decide +kernel) ⟨Nat.le_of_ble_eq_true rfl, Nat.le_of_ble_eq_true rfl⟩) (dk_preS hE hP hS) rfl rfl hl.1 rfl (lv_room (Nat.le_of_ble_eq_true rfl)) de_M_count_10 ⟨(by first | exact Nat.le_of_ble_eq_true rfl | (simp only [Nat.zero_add]; omega) | omega), (by first | exact Nat.le_of_ble_eq_true rfl | (simp only [Nat.zero_add]; omega) | omega)⟩) hS (fun r_4264 w_4262 H locs hq_4263 hP hS => ?_)
  rw [im_y (by decide) (by omega)] at hq_4263
  obtain ⟨hr_4265, he_4266⟩ := hq_4263
  subst hr_4265
  rw [he_4266] at hP
  refine bo_if_eq (b := true) (tgt := 30) hx hb de_M_count_13 (by decide) (fun c_4267 => ?_) (fun c_4267 => ?_)
  · exact absurd c_4267 (by decide)
  · refine lv_iload_n hx hb de_M_count_16 rfl (lv_at hl 1 rfl) ?_
    refine lv_iconst (v := nI 2) hx hb de_M_count_17 (by decide) ?_
    refine nx_icmp_ge (a := 8) (b := 2) (tgt := 34) hx hb (by omega) (by omega) de_M_count_18 (by decide) (fun c_4268 => ?_) (fun c_4268 => ?_)
    · refine lv_iconst (v := nI 0) hx hb de_M_count_34 (by decide) ?_
      refine lv_iconst (v := nI 1) hx hb de_M_count_35 (by decide) ?_
      rw [show (nI 0) = bo_i false from (by decide)]
      refine dk_calli (va_runV (As := [.int (bo_i false), .int (nI 1)]) (rest := []) ⟨hx, hb, hml, hown, hts⟩ (c_M_fails l G w_4229 h D (μ.er' 0) hm_4246 false 1 (by decide) (by decide) (show (0 : Nat) < 3 by decide)) (cwV 2 hts (wd_gV (C := "RunKeeperModel") wi_799 wi_796 wi_798 (wd_p (q := (⟨"RunKeeperModel", "fails", "(ZI)Z"⟩, 22)) (by decide +kernel) (by decide +kernel)) wi_8) rfl rfl rfl (by decide +kernel) ⟨Nat.le_of_ble_eq_true rfl, Nat.le_of_ble_eq_true rfl⟩) (dk_preV (kn_M, kt_M, 22) hE hP hS hh_4247 rfl) rfl rfl hl.1 rfl (lv_room (Nat.le_of_ble_eq_true rfl)) de_M_count_36 ⟨(by first | exact Nat.le_of_ble_eq_true rfl | (simp only [Nat.zero_add]; omega) | omega), (by first | exact Nat.le_of_ble_eq_true rfl | (simp only [Nat.zero_add]; omega) | omega)⟩) hS (fun r_4271 w_4269 H locs hq_4270 hP hS => ?_)
      obtain ⟨hr_4272, hq_4273, hf_4274⟩ := hq_4270
      subst hr_4272
      have hm_4275 : md_at G w_4269 h D ((μ.er' 0).er' 0) := hq_4273
      have hh_4276 : w_4269 h = some (100, .inr (cx_M, [.int (nI 0), .int (nI μ.n), .int (nI μ.sq), .int (nI μ.sf), .int (nI μ.rs), .int (rI μ.ba), .int (nI μ.pr), .int (nI μ.mi), .ref D.kf, .ref D.nf, .ref D.rf, .ref D.lf, .ref D.sv, .ref D.bk, .ref D.od, .ref D.vf, .ref D.bv, .ref D.df, .ref D.ss, .ref D.bd, .ref D.ks, .ref D.bt])) := hm_4275.o
      have ha_4277 : w_4269 D.kf = some (101, dk_ci G 700 (fun i9 => nI (μ.kf i9))) := hm_4275.kf
      have ha_4278 : w_4269 D.nf = some (102, dk_ci G 700 (fun i9 => nI (μ.nf i9))) := hm_4275.nf
      have ha_4279 : w_4269 D.rf = some (103, dk_ci G 700 (fun i9 => rI (μ.rf i9))) := hm_4275.rf
      have ha_4280 : w_4269 D.lf = some (104, dk_ci G 5000 (fun i9 => rI (μ.lf i9))) := hm_4275.lf
      have ha_4281 : w_4269 D.sv = some (105, dk_ci G 6 (fun i9 => nI (μ.sv i9))) := hm_4275.sv
      have ha_4282 : w_4269 D.bk = some (106, dk_ci G 16 (fun i9 => nI (μ.bk i9))) := hm_4275.bk
      have ha_4283 : w_4269 D.od = some (107, dk_ci G 700 (fun i9 => nI (μ.od i9))) := hm_4275.od
      have ha_4284 : w_4269 D.vf = some (108, dk_cl G 700 (fun i9 => μ.vf i9)) := hm_4275.vf
      have ha_4285 : w_4269 D.bv = some (109, dk_cl G 16 (fun i9 => μ.bv i9)) := hm_4275.bv
      have ha_4286 : w_4269 D.df = some (110, dk_cz G 700 (fun i9 => bo_i (μ.df i9))) := hm_4275.df
      have ha_4287 : w_4269 D.ss = some (111, dk_cz G 6 (fun i9 => bo_i (μ.ss i9))) := hm_4275.ss
      have ha_4288 : w_4269 D.bd = some (112, dk_cz G 16 (fun i9 => bo_i (μ.bd i9))) := hm_4275.bd
      have ha_4289 : w_4269 D.ks = some (113, dk_cz G 700 (fun i9 => bo_i (μ.ks i9))) := hm_4275.ks
      have ha_4290 : w_4269 D.bt = some (114, dk_cz G 6000 (fun i9 => bo_i (μ.bt i9))) := hm_4275.bt
      refine bo_if_eq (b := false) (tgt := 44) hx hb de_M_count_39 (by decide) (fun c_4291 => ?_) (fun c_4291 => ?_)
      · refine lv_iconst (v := nI 0) hx hb de_M_count_44 (by decide) ?_
        refine lv_istore_n (lv' := [(3, .int (nI 0)), (0, .ref h), (1, .int (nI 8)), (2, .int k)]) hx hb de_M_count_45 rfl hl (by decide) rfl (fun ls hl => ?_)
        refine lv_iload_n hx hb de_M_count_46 rfl (lv_at hl 2 rfl) ?_
        have hmo2 : md_ok ((μ.er' 0).er' 0) := ⟨ok1, ok2, ok3, ok4, ok5, ok6, ok7, ok8, ok9, ok10, show (0 : Nat) < 3 by decide⟩
        refine lv_tableIn (x := nI 8) (off := 161) (tgt := 208) hx hb de_M_count_47 (by decide) (by decide) (by decide) (by decide) ?_
        refine lv_aload_n hx hb de_M_count_208 rfl (lv_at hl 1 rfl) ?_
        refine dk_get (a := h) (v := .int (rI μ.ba)) (C := kn_M) (T := kt_M) (N := 22) hx hb hts ki_M hown hK hP hh_4276 rfl 5 (by decide) (hts _ wi_719) (fun _ h9 => h9) rfl de_M_count_209 ?_
        exact dk_iret hQ hx hb hr hlocks hP hS (Nat.le_refl _) (Nat.le_refl _) (⟨rfl, hm_4275, ((dk_fr.rf).tr ((dk_fr.up (T := md_T) hh_4228 (by unfold md_T; omega)).eq hw_4230)).tr (hf_4274)⟩) de_M_count_212
      · exact absurd c_4291 (by decide)
    · exact absurd c_4268 (by omega)
set_option maxHeartbeats 4000000 in
set_option maxRecDepth 100000 in
theorem c_M_count9 (l : Launch) (G : dk_G) (w : dk_H) (h : Nat) (D : md_D) (μ : md_S) (hm : md_at G w h D μ) (hmo : md_ok μ) (k : Int32) : dk_Mi l my_M_count (wd_c my_M_count mb_M_count 5 (some .int)) rm_M_count G w [.ref h, .int (nI 9), .int k] (fun r w1 => r = nI μ.n ∧ md_at G w1 h D (μ.er' 0) ∧ dk_fr md_T w w1) 0 0 := by
  obtain ⟨ok1, ok2, ok3, ok4, ok5, ok6, ok7, ok8, ok9, ok10, ok11⟩ := id hmo
  refine dk_enter (lv := [(0, .ref h), (1, .int (nI 9)), (2, .int k)]) (by decide) (Nat.le_of_ble_eq_true rfl) rfl (fun p e s m args below meth c ls Q hQ C hP hS hl => ?_)
  obtain ⟨hx, hb, hr, hml, hlocks, hown, hnm, hts, hE⟩ := C
  have hK := hE.1
  have hN := hE.2.1
  have hh_4292 : w h = some (100, .inr (cx_M, [.int (nI μ.er), .int (nI μ.n), .int (nI μ.sq), .int (nI μ.sf), .int (nI μ.rs), .int (rI μ.ba), .int (nI μ.pr), .int (nI μ.mi), .ref D.kf, .ref D.nf, .ref D.rf, .ref D.lf, .ref D.sv, .ref D.bk, .ref D.od, .ref D.vf, .ref D.bv, .ref D.df, .ref D.ss, .ref D.bd, .ref D.ks, .ref D.bt])) := hm.o
  refine lv_aload_n hx hb de_M_count_0 rfl (lv_at hl 0 rfl) ?_
  refine lv_iconst (v := nI 0) hx hb de_M_count_1 (by decide) ?_
  refine dk_put (a := h) (v := .int (nI 0)) (ty := .int) (C := kn_M) (T := kt_M) (N := 22) hx hb hts ki_M ky_M kk_M kd_M hown hK hP hS hh_4292 rfl 0 (by decide) (hts _ wi_714) (fun _ h9 => h9) rfl (by decide +kernel) rfl rfl (Nat.le_of_ble_eq_true rfl) de_M_count_2 (fun H locs w_4293 hw_4294 hP hS => ?_)
  have h_4295 : w_4293 h = some (100, .inr (cx_M, [.int (nI 0), .int (nI μ.n), .int (nI μ.sq), .int (nI μ.sf), .int (nI μ.rs), .int (rI μ.ba), .int (nI μ.pr), .int (nI μ.mi), .ref D.kf, .ref D.nf, .ref D.rf, .ref D.lf, .ref D.sv, .ref D.bk, .ref D.od, .ref D.vf, .ref D.bv, .ref D.df, .ref D.ss, .ref D.bd, .ref D.ks, .ref D.bt])) := dk_here hw_4294
  have h_4296 : w_4293 D.kf = some (101, dk_ci G 700 (fun i9 => nI (μ.kf i9))) := dk_keep hw_4294 hh_4292 hm.kf (by decide)
  have h_4297 : w_4293 D.nf = some (102, dk_ci G 700 (fun i9 => nI (μ.nf i9))) := dk_keep hw_4294 hh_4292 hm.nf (by decide)
  have h_4298 : w_4293 D.rf = some (103, dk_ci G 700 (fun i9 => rI (μ.rf i9))) := dk_keep hw_4294 hh_4292 hm.rf (by decide)
  have h_4299 : w_4293 D.lf = some (104, dk_ci G 5000 (fun i9 => rI (μ.lf i9))) := dk_keep hw_4294 hh_4292 hm.lf (by decide)
  have h_4300 : w_4293 D.sv = some (105, dk_ci G 6 (fun i9 => nI (μ.sv i9))) := dk_keep hw_4294 hh_4292 hm.sv (by decide)
  have h_4301 : w_4293 D.bk = some (106, dk_ci G 16 (fun i9 => nI (μ.bk i9))) := dk_keep hw_4294 hh_4292 hm.bk (by decide)
  have h_4302 : w_4293 D.od = some (107, dk_ci G 700 (fun i9 => nI (μ.od i9))) := dk_keep hw_4294 hh_4292 hm.od (by decide)
  have h_4303 : w_4293 D.vf = some (108, dk_cl G 700 (fun i9 => μ.vf i9)) := dk_keep hw_4294 hh_4292 hm.vf (by decide)
  have h_4304 : w_4293 D.bv = some (109, dk_cl G 16 (fun i9 => μ.bv i9)) := dk_keep hw_4294 hh_4292 hm.bv (by decide)
  have h_4305 : w_4293 D.df = some (110, dk_cz G 700 (fun i9 => bo_i (μ.df i9))) := dk_keep hw_4294 hh_4292 hm.df (by decide)
  have h_4306 : w_4293 D.ss = some (111, dk_cz G 6 (fun i9 => bo_i (μ.ss i9))) := dk_keep hw_4294 hh_4292 hm.ss (by decide)
  have h_4307 : w_4293 D.bd = some (112, dk_cz G 16 (fun i9 => bo_i (μ.bd i9))) := dk_keep hw_4294 hh_4292 hm.bd (by decide)
  have h_4308 : w_4293 D.ks = some (113, dk_cz G 700 (fun i9 => bo_i (μ.ks i9))) := dk_keep hw_4294 hh_4292 hm.ks (by decide)
  have h_4309 : w_4293 D.bt = some (114, dk_cz G 6000 (fun i9 => bo_i (μ.bt i9))) := dk_keep hw_4294 hh_4292 hm.bt (by decide)
  have hm_4310 : md_at G w_4293 h D (μ.er' 0) := ⟨h_4295, h_4296, h_4297, h_4298, h_4299, h_4300, h_4301, h_4302, h_4303, h_4304, h_4305, h_4306, h_4307, h_4308, h_4309⟩
  have hh_4311 : w_4293 h = some (100, .inr (cx_M, [.int (nI 0), .int (nI μ.n), .int (nI μ.sq), .int (nI μ.sf), .int (nI μ.rs), .int (rI μ.ba), .int (nI μ.pr), .int (nI μ.mi), .ref D.kf, .ref D.nf, .ref D.rf, .ref D.lf, .ref D.sv, .ref D.bk, .ref D.od, .ref D.vf, .ref D.bv, .ref D.df, .ref D.ss, .ref D.bd, .ref D.ks, .ref D.bt])) := hm_4310.o
  have ha_4312 : w_4293 D.kf = some (101, dk_ci G 700 (fun i9 => nI (μ.kf i9))) := hm_4310.kf
  have ha_4313 : w_4293 D.nf = some (102, dk_ci G 700 (fun i9 => nI (μ.nf i9))) := hm_4310.nf
  have ha_4314 : w_4293 D.rf = some (103, dk_ci G 700 (fun i9 => rI (μ.rf i9))) := hm_4310.rf
  have ha_4315 : w_4293 D.lf = some (104, dk_ci G 5000 (fun i9 => rI (μ.lf i9))) := hm_4310.lf
  have ha_4316 : w_4293 D.sv = some (105, dk_ci G 6 (fun i9 => nI (μ.sv i9))) := hm_4310.sv
  have ha_4317 : w_4293 D.bk = some (106, dk_ci G 16 (fun i9 => nI (μ.bk i9))) := hm_4310.bk
  have ha_4318 : w_4293 D.od = some (107, dk_ci G 700 (fun i9 => nI (μ.od i9))) := hm_4310.od
  have ha_4319 : w_4293 D.vf = some (108, dk_cl G 700 (fun i9 => μ.vf i9)) := hm_4310.vf
  have ha_4320 : w_4293 D.bv = some (109, dk_cl G 16 (fun i9 => μ.bv i9)) := hm_4310.bv
  have ha_4321 : w_4293 D.df = some (110, dk_cz G 700 (fun i9 => bo_i (μ.df i9))) := hm_4310.df
  have ha_4322 : w_4293 D.ss = some (111, dk_cz G 6 (fun i9 => bo_i (μ.ss i9))) := hm_4310.ss
  have ha_4323 : w_4293 D.bd = some (112, dk_cz G 16 (fun i9 => bo_i (μ.bd i9))) := hm_4310.bd
  have ha_4324 : w_4293 D.ks = some (113, dk_cz G 700 (fun i9 => bo_i (μ.ks i9))) := hm_4310.ks
  have ha_4325 : w_4293 D.bt = some (114, dk_cz G 6000 (fun i9 => bo_i (μ.bt i9))) := hm_4310.bt
  refine lv_aload_n hx hb de_M_count_5 rfl (lv_at hl 0 rfl) ?_
  refine lv_iload_n hx hb de_M_count_6 rfl (lv_at hl 1 rfl) ?_
  refine lv_iconst (v := nI 0) hx hb de_M_count_7 (by decide) ?_
  refine lv_bipush (v := nI 9) hx hb de_M_count_8 (by decide) ?_
  refine dk_calli (va_runS (As := [.int (nI 9), .int (nI 0), .int (nI 9)]) (rest := [.ref h]) ⟨hx, hb, hml, hown, hts⟩ (c_M_in l G w_4293 (nI 9) (nI 0) (nI 9)) (va_cwS 3 hts (wd_gS wi_795 wi_793 wi_794 wi_8) rfl rfl rfl (by decide +kernel) ⟨Nat.le_of_ble_eq_true rfl, Nat.le_of_ble_eq_true rfl⟩) (dk_preS hE hP hS) rfl rfl hl.1 rfl (lv_room (Nat.le_of_ble_eq_true rfl)) de_M_count_10 ⟨(by first | exact Nat.le_of_ble_eq_true rfl | (simp only [Nat.zero_add]; omega) | omega), (by first | exact Nat.le_of_ble_eq_true rfl | (simp only [Nat.zero_add]; omega) | omega)⟩) hS (fun r_4328 w_4326 H locs hq_4327 hP hS => ?_)
  rw [im_y (by decide) (by omega)] at hq_4327
  obtain ⟨hr_4329, he_4330⟩ := hq_4327
  subst hr_4329
  rw [he_4330] at hP
  refine bo_if_eq (b := true) (tgt := 30) hx hb de_M_count_13 (by decide) (fun c_4331 => ?_) (fun c_4331 => ?_)
  · exact absurd c_4331 (by decide)
  · refine lv_iload_n hx hb de_M_count_16 rfl (lv_at hl 1 rfl) ?_
    refine lv_iconst (v := nI 2) hx hb de_M_count_17 (by decide) ?_
    refine nx_icmp_ge (a := 9) (b := 2) (tgt := 34) hx hb (by omega) (by omega) de_M_count_18 (by decide) (fun c_4332 => ?_) (fun c_4332 => ?_)
    · refine lv_iconst (v := nI 0) hx hb de_M_count_34 (by decide) ?_
      refine lv_iconst (v := nI 1) hx hb de_M_count_35 (by decide) ?_
      rw [show (nI 0) = bo_i false from (by decide)]
      refine dk_calli (va_runV (As := [.int (bo_i false), .int (nI 1)]) (rest := []) ⟨hx, hb, hml, hown, hts⟩ (c_M_fails l G w_4293 h D (μ.er' 0) hm_4310 false 1 (by decide) (by decide) (show (0 : Nat) < 3 by decide)) (cwV 2 hts (wd_gV (C := "RunKeeperModel") wi_799 wi_796 wi_798 (wd_p (q := (⟨"RunKeeperModel", "fails", "(ZI)Z"⟩, 22)) (by decide +kernel) (by decide +kernel)) wi_8) rfl rfl rfl (by decide +kernel) ⟨Nat.le_of_ble_eq_true rfl, Nat.le_of_ble_eq_true rfl⟩) (dk_preV (kn_M, kt_M, 22) hE hP hS hh_4311 rfl) rfl rfl hl.1 rfl (lv_room (Nat.le_of_ble_eq_true rfl)) de_M_count_36 ⟨(by first | exact Nat.le_of_ble_eq_true rfl | (simp only [Nat.zero_add]; omega) | omega), (by first | exact Nat.le_of_ble_eq_true rfl | (simp only [Nat.zero_add]; omega) | omega)⟩) hS (fun r_4335 w_4333 H locs hq_4334 hP hS => ?_)
      obtain ⟨hr_4336, hq_4337, hf_4338⟩ := hq_4334
      subst hr_4336
      have hm_4339 : md_at G w_4333 h D ((μ.er' 0).er' 0) := hq_4337
      have hh_4340 : w_4333 h = some (100, .inr (cx_M, [.int (nI 0), .int (nI μ.n), .int (nI μ.sq), .int (nI μ.sf), .int (nI μ.rs), .int (rI μ.ba), .int (nI μ.pr), .int (nI μ.mi), .ref D.kf, .ref D.nf, .ref D.rf, .ref D.lf, .ref D.sv, .ref D.bk, .ref D.od, .ref D.vf, .ref D.bv, .ref D.df, .ref D.ss, .ref D.bd, .ref D.ks, .ref D.bt])) := hm_4339.o
      have ha_4341 : w_4333 D.kf = some (101, dk_ci G 700 (fun i9 => nI (μ.kf i9))) := hm_4339.kf
      have ha_4342 : w_4333 D.nf = some (102, dk_ci G 700 (fun i9 => nI (μ.nf i9))) := hm_4339.nf
      have ha_4343 : w_4333 D.rf = some (103, dk_ci G 700 (fun i9 => rI (μ.rf i9))) := hm_4339.rf
      have ha_4344 : w_4333 D.lf = some (104, dk_ci G 5000 (fun i9 => rI (μ.lf i9))) := hm_4339.lf
      have ha_4345 : w_4333 D.sv = some (105, dk_ci G 6 (fun i9 => nI (μ.sv i9))) := hm_4339.sv
      have ha_4346 : w_4333 D.bk = some (106, dk_ci G 16 (fun i9 => nI (μ.bk i9))) := hm_4339.bk
      have ha_4347 : w_4333 D.od = some (107, dk_ci G 700 (fun i9 => nI (μ.od i9))) := hm_4339.od
      have ha_4348 : w_4333 D.vf = some (108, dk_cl G 700 (fun i9 => μ.vf i9)) := hm_4339.vf
      have ha_4349 : w_4333 D.bv = some (109, dk_cl G 16 (fun i9 => μ.bv i9)) := hm_4339.bv
      have ha_4350 : w_4333 D.df = some (110, dk_cz G 700 (fun i9 => bo_i (μ.df i9))) := hm_4339.df
      have ha_4351 : w_4333 D.ss = some (111, dk_cz G 6 (fun i9 => bo_i (μ.ss i9))) := hm_4339.ss
      have ha_4352 : w_4333 D.bd = some (112, dk_cz G 16 (fun i9 => bo_i (μ.bd i9))) := hm_4339.bd
      have ha_4353 : w_4333 D.ks = some (113, dk_cz G 700 (fun i9 => bo_i (μ.ks i9))) := hm_4339.ks
      have ha_4354 : w_4333 D.bt = some (114, dk_cz G 6000 (fun i9 => bo_i (μ.bt i9))) := hm_4339.bt
      refine bo_if_eq (b := false) (tgt := 44) hx hb de_M_count_39 (by decide) (fun c_4355 => ?_) (fun c_4355 => ?_)
      · refine lv_iconst (v := nI 0) hx hb de_M_count_44 (by decide) ?_
        refine lv_istore_n (lv' := [(3, .int (nI 0)), (0, .ref h), (1, .int (nI 9)), (2, .int k)]) hx hb de_M_count_45 rfl hl (by decide) rfl (fun ls hl => ?_)
        refine lv_iload_n hx hb de_M_count_46 rfl (lv_at hl 2 rfl) ?_
        have hmo2 : md_ok ((μ.er' 0).er' 0) := ⟨ok1, ok2, ok3, ok4, ok5, ok6, ok7, ok8, ok9, ok10, show (0 : Nat) < 3 by decide⟩
        refine lv_tableOut (x := nI 9) (tgt := 213) hx hb de_M_count_47 (by decide) (by decide) ?_
        refine lv_aload_n hx hb de_M_count_213 rfl (lv_at hl 1 rfl) ?_
        refine dk_get (a := h) (v := .int (nI μ.n)) (C := kn_M) (T := kt_M) (N := 22) hx hb hts ki_M hown hK hP hh_4340 rfl 1 (by decide) (hts _ wi_715) (fun _ h9 => h9) rfl de_M_count_214 ?_
        exact dk_iret hQ hx hb hr hlocks hP hS (Nat.le_refl _) (Nat.le_refl _) (⟨rfl, hm_4339, ((dk_fr.rf).tr ((dk_fr.up (T := md_T) hh_4292 (by unfold md_T; omega)).eq hw_4294)).tr (hf_4338)⟩) de_M_count_217
      · exact absurd c_4355 (by decide)
    · exact absurd c_4332 (by omega)
abbrev rm_M_next : Room := { frames := 2, cells := 0, slots := 0, locals := 43 }
set_option maxHeartbeats 4000000 in
set_option maxRecDepth 100000 in
theorem c_M_nextK (l : Launch) (G : dk_G) (w : dk_H) (h : Nat) (D : md_D) (μ : md_S) (hm : md_at G w h D μ) (hmo : md_ok μ) (v k : Int32) (hk0 : im_b k (nI 0) (nI 1023) = false) : dk_Mi l my_M_next (wd_c my_M_next mb_M_next 5 (some .int)) rm_M_next G w [.ref h, .int v, .int k] (fun r w1 => r = nI 0 ∧ md_at G w1 h D (μ.er' 1) ∧ dk_fr md_T w w1) 0 0 := by
  obtain ⟨ok1, ok2, ok3, ok4, ok5, ok6, ok7, ok8, ok9, ok10, ok11⟩ := id hmo
  refine dk_enter (lv := [(0, .ref h), (1, .int v), (2, .int k)]) (by decide) (Nat.le_of_ble_eq_true rfl) rfl (fun p e s m args below meth c ls Q hQ C hP hS hl => ?_)
  obtain ⟨hx, hb, hr, hml, hlocks, hown, hnm, hts, hE⟩ := C
  have hK := hE.1
  have hN := hE.2.1
  have hh_4356 : w h = some (100, .inr (cx_M, [.int (nI μ.er), .int (nI μ.n), .int (nI μ.sq), .int (nI μ.sf), .int (nI μ.rs), .int (rI μ.ba), .int (nI μ.pr), .int (nI μ.mi), .ref D.kf, .ref D.nf, .ref D.rf, .ref D.lf, .ref D.sv, .ref D.bk, .ref D.od, .ref D.vf, .ref D.bv, .ref D.df, .ref D.ss, .ref D.bd, .ref D.ks, .ref D.bt])) := hm.o
  refine lv_aload_n hx hb de_M_next_0 rfl (lv_at hl 0 rfl) ?_
  refine lv_iconst (v := nI 0) hx hb de_M_next_1 (by decide) ?_
  refine dk_put (a := h) (v := .int (nI 0)) (ty := .int) (C := kn_M) (T := kt_M) (N := 22) hx hb hts ki_M ky_M kk_M kd_M hown hK hP hS hh_4356 rfl 0 (by decide) (hts _ wi_714) (fun _ h9 => h9) rfl (by decide +kernel) rfl rfl (Nat.le_of_ble_eq_true rfl) de_M_next_2 (fun H locs w_4357 hw_4358 hP hS => ?_)
  have h_4359 : w_4357 h = some (100, .inr (cx_M, [.int (nI 0), .int (nI μ.n), .int (nI μ.sq), .int (nI μ.sf), .int (nI μ.rs), .int (rI μ.ba), .int (nI μ.pr), .int (nI μ.mi), .ref D.kf, .ref D.nf, .ref D.rf, .ref D.lf, .ref D.sv, .ref D.bk, .ref D.od, .ref D.vf, .ref D.bv, .ref D.df, .ref D.ss, .ref D.bd, .ref D.ks, .ref D.bt])) := dk_here hw_4358
  have h_4360 : w_4357 D.kf = some (101, dk_ci G 700 (fun i9 => nI (μ.kf i9))) := dk_keep hw_4358 hh_4356 hm.kf (by decide)
  have h_4361 : w_4357 D.nf = some (102, dk_ci G 700 (fun i9 => nI (μ.nf i9))) := dk_keep hw_4358 hh_4356 hm.nf (by decide)
  have h_4362 : w_4357 D.rf = some (103, dk_ci G 700 (fun i9 => rI (μ.rf i9))) := dk_keep hw_4358 hh_4356 hm.rf (by decide)
  have h_4363 : w_4357 D.lf = some (104, dk_ci G 5000 (fun i9 => rI (μ.lf i9))) := dk_keep hw_4358 hh_4356 hm.lf (by decide)
  have h_4364 : w_4357 D.sv = some (105, dk_ci G 6 (fun i9 => nI (μ.sv i9))) := dk_keep hw_4358 hh_4356 hm.sv (by decide)
  have h_4365 : w_4357 D.bk = some (106, dk_ci G 16 (fun i9 => nI (μ.bk i9))) := dk_keep hw_4358 hh_4356 hm.bk (by decide)
  have h_4366 : w_4357 D.od = some (107, dk_ci G 700 (fun i9 => nI (μ.od i9))) := dk_keep hw_4358 hh_4356 hm.od (by decide)
  have h_4367 : w_4357 D.vf = some (108, dk_cl G 700 (fun i9 => μ.vf i9)) := dk_keep hw_4358 hh_4356 hm.vf (by decide)
  have h_4368 : w_4357 D.bv = some (109, dk_cl G 16 (fun i9 => μ.bv i9)) := dk_keep hw_4358 hh_4356 hm.bv (by decide)
  have h_4369 : w_4357 D.df = some (110, dk_cz G 700 (fun i9 => bo_i (μ.df i9))) := dk_keep hw_4358 hh_4356 hm.df (by decide)
  have h_4370 : w_4357 D.ss = some (111, dk_cz G 6 (fun i9 => bo_i (μ.ss i9))) := dk_keep hw_4358 hh_4356 hm.ss (by decide)
  have h_4371 : w_4357 D.bd = some (112, dk_cz G 16 (fun i9 => bo_i (μ.bd i9))) := dk_keep hw_4358 hh_4356 hm.bd (by decide)
  have h_4372 : w_4357 D.ks = some (113, dk_cz G 700 (fun i9 => bo_i (μ.ks i9))) := dk_keep hw_4358 hh_4356 hm.ks (by decide)
  have h_4373 : w_4357 D.bt = some (114, dk_cz G 6000 (fun i9 => bo_i (μ.bt i9))) := dk_keep hw_4358 hh_4356 hm.bt (by decide)
  have hm_4374 : md_at G w_4357 h D (μ.er' 0) := ⟨h_4359, h_4360, h_4361, h_4362, h_4363, h_4364, h_4365, h_4366, h_4367, h_4368, h_4369, h_4370, h_4371, h_4372, h_4373⟩
  have hh_4375 : w_4357 h = some (100, .inr (cx_M, [.int (nI 0), .int (nI μ.n), .int (nI μ.sq), .int (nI μ.sf), .int (nI μ.rs), .int (rI μ.ba), .int (nI μ.pr), .int (nI μ.mi), .ref D.kf, .ref D.nf, .ref D.rf, .ref D.lf, .ref D.sv, .ref D.bk, .ref D.od, .ref D.vf, .ref D.bv, .ref D.df, .ref D.ss, .ref D.bd, .ref D.ks, .ref D.bt])) := hm_4374.o
  have ha_4376 : w_4357 D.kf = some (101, dk_ci G 700 (fun i9 => nI (μ.kf i9))) := hm_4374.kf
  have ha_4377 : w_4357 D.nf = some (102, dk_ci G 700 (fun i9 => nI (μ.nf i9))) := hm_4374.nf
  have ha_4378 : w_4357 D.rf = some (103, dk_ci G 700 (fun i9 => rI (μ.rf i9))) := hm_4374.rf
  have ha_4379 : w_4357 D.lf = some (104, dk_ci G 5000 (fun i9 => rI (μ.lf i9))) := hm_4374.lf
  have ha_4380 : w_4357 D.sv = some (105, dk_ci G 6 (fun i9 => nI (μ.sv i9))) := hm_4374.sv
  have ha_4381 : w_4357 D.bk = some (106, dk_ci G 16 (fun i9 => nI (μ.bk i9))) := hm_4374.bk
  have ha_4382 : w_4357 D.od = some (107, dk_ci G 700 (fun i9 => nI (μ.od i9))) := hm_4374.od
  have ha_4383 : w_4357 D.vf = some (108, dk_cl G 700 (fun i9 => μ.vf i9)) := hm_4374.vf
  have ha_4384 : w_4357 D.bv = some (109, dk_cl G 16 (fun i9 => μ.bv i9)) := hm_4374.bv
  have ha_4385 : w_4357 D.df = some (110, dk_cz G 700 (fun i9 => bo_i (μ.df i9))) := hm_4374.df
  have ha_4386 : w_4357 D.ss = some (111, dk_cz G 6 (fun i9 => bo_i (μ.ss i9))) := hm_4374.ss
  have ha_4387 : w_4357 D.bd = some (112, dk_cz G 16 (fun i9 => bo_i (μ.bd i9))) := hm_4374.bd
  have ha_4388 : w_4357 D.ks = some (113, dk_cz G 700 (fun i9 => bo_i (μ.ks i9))) := hm_4374.ks
  have ha_4389 : w_4357 D.bt = some (114, dk_cz G 6000 (fun i9 => bo_i (μ.bt i9))) := hm_4374.bt
  refine lv_aload_n hx hb de_M_next_5 rfl (lv_at hl 0 rfl) ?_
  refine lv_iload_n hx hb de_M_next_6 rfl (lv_at hl 2 rfl) ?_
  refine lv_iconst (v := nI 0) hx hb de_M_next_7 (by decide) ?_
  refine lv_sipush (v := nI 1023) hx hb de_M_next_8 (by decide) ?_
  refine dk_calli (va_runS (As := [.int k, .int (nI 0), .int (nI 1023)]) (rest := [.ref h]) ⟨hx, hb, hml, hown, hts⟩ (c_M_in l G w_4357 k (nI 0) (nI 1023)) (va_cwS 3 hts (wd_gS wi_795 wi_793 wi_794 wi_8) rfl rfl rfl (by decide +kernel) ⟨Nat.le_of_ble_eq_true rfl, Nat.le_of_ble_eq_true rfl⟩) (dk_preS hE hP hS) rfl rfl hl.1 rfl (lv_room (Nat.le_of_ble_eq_true rfl)) de_M_next_11 ⟨(by first | exact Nat.le_of_ble_eq_true rfl | (simp only [Nat.zero_add]; omega) | omega), (by first | exact Nat.le_of_ble_eq_true rfl | (simp only [Nat.zero_add]; omega) | omega)⟩) hS (fun r_4392 w_4390 H locs hq_4391 hP hS => ?_)
  rw [hk0] at hq_4391
  obtain ⟨hr_4393, he_4394⟩ := hq_4391
  subst hr_4393
  rw [he_4394] at hP
  refine bo_if_eq (b := false) (tgt := 30) hx hb de_M_next_14 (by decide) (fun c_4395 => ?_) (fun c_4395 => ?_)
  · refine lv_iconst (v := nI 1) hx hb de_M_next_30 (by decide) ?_
    refine lv_goto (tgt := 35) hx hb de_M_next_31 (by decide) ?_
    refine lv_iconst (v := nI 1) hx hb de_M_next_35 (by decide) ?_
    rw [show (nI 1) = bo_i true from (by decide)]
    refine dk_calli (va_runV (As := [.int (bo_i true), .int (nI 1)]) (rest := []) ⟨hx, hb, hml, hown, hts⟩ (c_M_fails l G w_4357 h D (μ.er' 0) hm_4374 true 1 (by decide) (by decide) (show (0 : Nat) < 3 by decide)) (cwV 2 hts (wd_gV (C := "RunKeeperModel") wi_799 wi_796 wi_798 (wd_p (q := (⟨"RunKeeperModel", "fails", "(ZI)Z"⟩, 22)) (by decide +kernel) (by decide +kernel)) wi_8) rfl rfl rfl (by decide +kernel) ⟨Nat.le_of_ble_eq_true rfl, Nat.le_of_ble_eq_true rfl⟩) (dk_preV (kn_M, kt_M, 22) hE hP hS hh_4375 rfl) rfl rfl hl.1 rfl (lv_room (Nat.le_of_ble_eq_true rfl)) de_M_next_36 ⟨(by first | exact Nat.le_of_ble_eq_true rfl | (simp only [Nat.zero_add]; omega) | omega), (by first | exact Nat.le_of_ble_eq_true rfl | (simp only [Nat.zero_add]; omega) | omega)⟩) hS (fun r_4398 w_4396 H locs hq_4397 hP hS => ?_)
    obtain ⟨hr_4399, hq_4400, hf_4401⟩ := hq_4397
    subst hr_4399
    have hm_4402 : md_at G w_4396 h D ((μ.er' 0).er' 1) := hq_4400
    have hh_4403 : w_4396 h = some (100, .inr (cx_M, [.int (nI 1), .int (nI μ.n), .int (nI μ.sq), .int (nI μ.sf), .int (nI μ.rs), .int (rI μ.ba), .int (nI μ.pr), .int (nI μ.mi), .ref D.kf, .ref D.nf, .ref D.rf, .ref D.lf, .ref D.sv, .ref D.bk, .ref D.od, .ref D.vf, .ref D.bv, .ref D.df, .ref D.ss, .ref D.bd, .ref D.ks, .ref D.bt])) := hm_4402.o
    have ha_4404 : w_4396 D.kf = some (101, dk_ci G 700 (fun i9 => nI (μ.kf i9))) := hm_4402.kf
    have ha_4405 : w_4396 D.nf = some (102, dk_ci G 700 (fun i9 => nI (μ.nf i9))) := hm_4402.nf
    have ha_4406 : w_4396 D.rf = some (103, dk_ci G 700 (fun i9 => rI (μ.rf i9))) := hm_4402.rf
    have ha_4407 : w_4396 D.lf = some (104, dk_ci G 5000 (fun i9 => rI (μ.lf i9))) := hm_4402.lf
    have ha_4408 : w_4396 D.sv = some (105, dk_ci G 6 (fun i9 => nI (μ.sv i9))) := hm_4402.sv
    have ha_4409 : w_4396 D.bk = some (106, dk_ci G 16 (fun i9 => nI (μ.bk i9))) := hm_4402.bk
    have ha_4410 : w_4396 D.od = some (107, dk_ci G 700 (fun i9 => nI (μ.od i9))) := hm_4402.od
    have ha_4411 : w_4396 D.vf = some (108, dk_cl G 700 (fun i9 => μ.vf i9)) := hm_4402.vf
    have ha_4412 : w_4396 D.bv = some (109, dk_cl G 16 (fun i9 => μ.bv i9)) := hm_4402.bv
    have ha_4413 : w_4396 D.df = some (110, dk_cz G 700 (fun i9 => bo_i (μ.df i9))) := hm_4402.df
    have ha_4414 : w_4396 D.ss = some (111, dk_cz G 6 (fun i9 => bo_i (μ.ss i9))) := hm_4402.ss
    have ha_4415 : w_4396 D.bd = some (112, dk_cz G 16 (fun i9 => bo_i (μ.bd i9))) := hm_4402.bd
    have ha_4416 : w_4396 D.ks = some (113, dk_cz G 700 (fun i9 => bo_i (μ.ks i9))) := hm_4402.ks
    have ha_4417 : w_4396 D.bt = some (114, dk_cz G 6000 (fun i9 => bo_i (μ.bt i9))) := hm_4402.bt
    refine bo_if_eq (b := true) (tgt := 44) hx hb de_M_next_39 (by decide) (fun c_4418 => ?_) (fun c_4418 => ?_)
    · exact absurd c_4418 (by decide)
    · refine lv_iconst (v := nI 0) hx hb de_M_next_42 (by decide) ?_
      exact dk_iret hQ hx hb hr hlocks hP hS (Nat.le_refl _) (Nat.le_refl _) (⟨rfl, hm_4402, ((dk_fr.rf).tr ((dk_fr.up (T := md_T) hh_4356 (by unfold md_T; omega)).eq hw_4358)).tr (hf_4401)⟩) de_M_next_43
  · exact absurd c_4395 (by decide)
set_option maxHeartbeats 4000000 in
set_option maxRecDepth 100000 in
theorem c_M_nextV (l : Launch) (G : dk_G) (w : dk_H) (h : Nat) (D : md_D) (μ : md_S) (hm : md_at G w h D μ) (hmo : md_ok μ) (v : Int32) (k : Nat) (hk0 : k < 1024) (hv1 : ¬ v = -1) (hv : vs_g μ v = none) : dk_Mi l my_M_next (wd_c my_M_next mb_M_next 5 (some .int)) rm_M_next G w [.ref h, .int v, .int (nI k)] (fun r w1 => r = nI 0 ∧ md_at G w1 h D (μ.er' 1) ∧ dk_fr md_T w w1) 0 0 := by
  obtain ⟨ok1, ok2, ok3, ok4, ok5, ok6, ok7, ok8, ok9, ok10, ok11⟩ := id hmo
  refine dk_enter (lv := [(0, .ref h), (1, .int v), (2, .int (nI k))]) (by decide) (Nat.le_of_ble_eq_true rfl) rfl (fun p e s m args below meth c ls Q hQ C hP hS hl => ?_)
  obtain ⟨hx, hb, hr, hml, hlocks, hown, hnm, hts, hE⟩ := C
  have hK := hE.1
  have hN := hE.2.1
  have hh_4419 : w h = some (100, .inr (cx_M, [.int (nI μ.er), .int (nI μ.n), .int (nI μ.sq), .int (nI μ.sf), .int (nI μ.rs), .int (rI μ.ba), .int (nI μ.pr), .int (nI μ.mi), .ref D.kf, .ref D.nf, .ref D.rf, .ref D.lf, .ref D.sv, .ref D.bk, .ref D.od, .ref D.vf, .ref D.bv, .ref D.df, .ref D.ss, .ref D.bd, .ref D.ks, .ref D.bt])) := hm.o
  refine lv_aload_n hx hb de_M_next_0 rfl (lv_at hl 0 rfl) ?_
  refine lv_iconst (v := nI 0) hx hb de_M_next_1 (by decide) ?_
  refine dk_put (a := h) (v := .int (nI 0)) (ty := .int) (C := kn_M) (T := kt_M) (N := 22) hx hb hts ki_M ky_M kk_M kd_M hown hK hP hS hh_4419 rfl 0 (by decide) (hts _ wi_714) (fun _ h9 => h9) rfl (by decide +kernel) rfl rfl (Nat.le_of_ble_eq_true rfl) de_M_next_2 (fun H locs w_4420 hw_4421 hP hS => ?_)
  have h_4422 : w_4420 h = some (100, .inr (cx_M, [.int (nI 0), .int (nI μ.n), .int (nI μ.sq), .int (nI μ.sf), .int (nI μ.rs), .int (rI μ.ba), .int (nI μ.pr), .int (nI μ.mi), .ref D.kf, .ref D.nf, .ref D.rf, .ref D.lf, .ref D.sv, .ref D.bk, .ref D.od, .ref D.vf, .ref D.bv, .ref D.df, .ref D.ss, .ref D.bd, .ref D.ks, .ref D.bt])) := dk_here hw_4421
  have h_4423 : w_4420 D.kf = some (101, dk_ci G 700 (fun i9 => nI (μ.kf i9))) := dk_keep hw_4421 hh_4419 hm.kf (by decide)
  have h_4424 : w_4420 D.nf = some (102, dk_ci G 700 (fun i9 => nI (μ.nf i9))) := dk_keep hw_4421 hh_4419 hm.nf (by decide)
  have h_4425 : w_4420 D.rf = some (103, dk_ci G 700 (fun i9 => rI (μ.rf i9))) := dk_keep hw_4421 hh_4419 hm.rf (by decide)
  have h_4426 : w_4420 D.lf = some (104, dk_ci G 5000 (fun i9 => rI (μ.lf i9))) := dk_keep hw_4421 hh_4419 hm.lf (by decide)
  have h_4427 : w_4420 D.sv = some (105, dk_ci G 6 (fun i9 => nI (μ.sv i9))) := dk_keep hw_4421 hh_4419 hm.sv (by decide)
  have h_4428 : w_4420 D.bk = some (106, dk_ci G 16 (fun i9 => nI (μ.bk i9))) := dk_keep hw_4421 hh_4419 hm.bk (by decide)
  have h_4429 : w_4420 D.od = some (107, dk_ci G 700 (fun i9 => nI (μ.od i9))) := dk_keep hw_4421 hh_4419 hm.od (by decide)
  have h_4430 : w_4420 D.vf = some (108, dk_cl G 700 (fun i9 => μ.vf i9)) := dk_keep hw_4421 hh_4419 hm.vf (by decide)
  have h_4431 : w_4420 D.bv = some (109, dk_cl G 16 (fun i9 => μ.bv i9)) := dk_keep hw_4421 hh_4419 hm.bv (by decide)
  have h_4432 : w_4420 D.df = some (110, dk_cz G 700 (fun i9 => bo_i (μ.df i9))) := dk_keep hw_4421 hh_4419 hm.df (by decide)
  have h_4433 : w_4420 D.ss = some (111, dk_cz G 6 (fun i9 => bo_i (μ.ss i9))) := dk_keep hw_4421 hh_4419 hm.ss (by decide)
  have h_4434 : w_4420 D.bd = some (112, dk_cz G 16 (fun i9 => bo_i (μ.bd i9))) := dk_keep hw_4421 hh_4419 hm.bd (by decide)
  have h_4435 : w_4420 D.ks = some (113, dk_cz G 700 (fun i9 => bo_i (μ.ks i9))) := dk_keep hw_4421 hh_4419 hm.ks (by decide)
  have h_4436 : w_4420 D.bt = some (114, dk_cz G 6000 (fun i9 => bo_i (μ.bt i9))) := dk_keep hw_4421 hh_4419 hm.bt (by decide)
  have hm_4437 : md_at G w_4420 h D (μ.er' 0) := ⟨h_4422, h_4423, h_4424, h_4425, h_4426, h_4427, h_4428, h_4429, h_4430, h_4431, h_4432, h_4433, h_4434, h_4435, h_4436⟩
  have hh_4438 : w_4420 h = some (100, .inr (cx_M, [.int (nI 0), .int (nI μ.n), .int (nI μ.sq), .int (nI μ.sf), .int (nI μ.rs), .int (rI μ.ba), .int (nI μ.pr), .int (nI μ.mi), .ref D.kf, .ref D.nf, .ref D.rf, .ref D.lf, .ref D.sv, .ref D.bk, .ref D.od, .ref D.vf, .ref D.bv, .ref D.df, .ref D.ss, .ref D.bd, .ref D.ks, .ref D.bt])) := hm_4437.o
  have ha_4439 : w_4420 D.kf = some (101, dk_ci G 700 (fun i9 => nI (μ.kf i9))) := hm_4437.kf
  have ha_4440 : w_4420 D.nf = some (102, dk_ci G 700 (fun i9 => nI (μ.nf i9))) := hm_4437.nf
  have ha_4441 : w_4420 D.rf = some (103, dk_ci G 700 (fun i9 => rI (μ.rf i9))) := hm_4437.rf
  have ha_4442 : w_4420 D.lf = some (104, dk_ci G 5000 (fun i9 => rI (μ.lf i9))) := hm_4437.lf
  have ha_4443 : w_4420 D.sv = some (105, dk_ci G 6 (fun i9 => nI (μ.sv i9))) := hm_4437.sv
  have ha_4444 : w_4420 D.bk = some (106, dk_ci G 16 (fun i9 => nI (μ.bk i9))) := hm_4437.bk
  have ha_4445 : w_4420 D.od = some (107, dk_ci G 700 (fun i9 => nI (μ.od i9))) := hm_4437.od
  have ha_4446 : w_4420 D.vf = some (108, dk_cl G 700 (fun i9 => μ.vf i9)) := hm_4437.vf
  have ha_4447 : w_4420 D.bv = some (109, dk_cl G 16 (fun i9 => μ.bv i9)) := hm_4437.bv
  have ha_4448 : w_4420 D.df = some (110, dk_cz G 700 (fun i9 => bo_i (μ.df i9))) := hm_4437.df
  have ha_4449 : w_4420 D.ss = some (111, dk_cz G 6 (fun i9 => bo_i (μ.ss i9))) := hm_4437.ss
  have ha_4450 : w_4420 D.bd = some (112, dk_cz G 16 (fun i9 => bo_i (μ.bd i9))) := hm_4437.bd
  have ha_4451 : w_4420 D.ks = some (113, dk_cz G 700 (fun i9 => bo_i (μ.ks i9))) := hm_4437.ks
  have ha_4452 : w_4420 D.bt = some (114, dk_cz G 6000 (fun i9 => bo_i (μ.bt i9))) := hm_4437.bt
  refine lv_aload_n hx hb de_M_next_5 rfl (lv_at hl 0 rfl) ?_
  refine lv_iload_n hx hb de_M_next_6 rfl (lv_at hl 2 rfl) ?_
  refine lv_iconst (v := nI 0) hx hb de_M_next_7 (by decide) ?_
  refine lv_sipush (v := nI 1023) hx hb de_M_next_8 (by decide) ?_
  refine dk_calli (va_runS (As := [.int (nI k), .int (nI 0), .int (nI 1023)]) (rest := [.ref h]) ⟨hx, hb, hml, hown, hts⟩ (c_M_in l G w_4420 (nI k) (nI 0) (nI 1023)) (va_cwS 3 hts (wd_gS wi_795 wi_793 wi_794 wi_8) rfl rfl rfl (by decide +kernel) ⟨Nat.le_of_ble_eq_true rfl, Nat.le_of_ble_eq_true rfl⟩) (dk_preS hE hP hS) rfl rfl hl.1 rfl (lv_room (Nat.le_of_ble_eq_true rfl)) de_M_next_11 ⟨(by first | exact Nat.le_of_ble_eq_true rfl | (simp only [Nat.zero_add]; omega) | omega), (by first | exact Nat.le_of_ble_eq_true rfl | (simp only [Nat.zero_add]; omega) | omega)⟩) hS (fun r_4455 w_4453 H locs hq_4454 hP hS => ?_)
  rw [im_y (by decide) (by omega)] at hq_4454
  obtain ⟨hr_4456, he_4457⟩ := hq_4454
  subst hr_4456
  rw [he_4457] at hP
  refine bo_if_eq (b := true) (tgt := 30) hx hb de_M_next_14 (by decide) (fun c_4458 => ?_) (fun c_4458 => ?_)
  · exact absurd c_4458 (by decide)
  · refine lv_iload_n hx hb de_M_next_17 rfl (lv_at hl 1 rfl) ?_
    refine lv_iconst (v := (-1)) hx hb de_M_next_18 (by decide) ?_
    refine lv_icmp_eq (tgt := 34) hx hb de_M_next_19 (by decide) (fun c_4459 => ?_) (fun c_4459 => ?_)
    · exact absurd c_4459 hv1
    · refine lv_aload_n hx hb de_M_next_22 rfl (lv_at hl 0 rfl) ?_
      refine lv_iload_n hx hb de_M_next_23 rfl (lv_at hl 1 rfl) ?_
      refine dk_calli (va_runV (As := [.int v]) (rest := [.ref h]) ⟨hx, hb, hml, hown, hts⟩ (c_M_isNone l G w_4420 h D (μ.er' 0) hm_4437 v) (cwV 1 hts (wd_gV (C := "RunKeeperModel") wi_872 wi_869 wi_871 (wd_p (q := (⟨"RunKeeperModel", "isNone", "(I)Z"⟩, 22)) (by decide +kernel) (by decide +kernel)) wi_8) rfl rfl rfl (by decide +kernel) ⟨Nat.le_of_ble_eq_true rfl, Nat.le_of_ble_eq_true rfl⟩) (dk_preV (kn_M, kt_M, 22) hE hP hS hh_4438 rfl) rfl rfl hl.1 rfl (lv_room (Nat.le_of_ble_eq_true rfl)) de_M_next_24 ⟨(by first | exact Nat.le_of_ble_eq_true rfl | (simp only [Nat.zero_add]; omega) | omega), (by first | exact Nat.le_of_ble_eq_true rfl | (simp only [Nat.zero_add]; omega) | omega)⟩) hS (fun r_4462 w_4460 H locs hq_4461 hP hS => ?_)
      rw [show vs_g (μ.er' 0) v = none from hv] at hq_4461
      obtain ⟨hr_4463, he_4464⟩ := hq_4461
      subst hr_4463
      rw [he_4464] at hP
      refine bo_if_eq (b := true) (tgt := 34) hx hb de_M_next_27 (by decide) (fun c_4465 => ?_) (fun c_4465 => ?_)
      · exact absurd c_4465 (by decide)
      · refine lv_iconst (v := nI 1) hx hb de_M_next_30 (by decide) ?_
        refine lv_goto (tgt := 35) hx hb de_M_next_31 (by decide) ?_
        refine lv_iconst (v := nI 1) hx hb de_M_next_35 (by decide) ?_
        rw [show (nI 1) = bo_i true from (by decide)]
        refine dk_calli (va_runV (As := [.int (bo_i true), .int (nI 1)]) (rest := []) ⟨hx, hb, hml, hown, hts⟩ (c_M_fails l G w_4420 h D (μ.er' 0) hm_4437 true 1 (by decide) (by decide) (show (0 : Nat) < 3 by decide)) (cwV 2 hts (wd_gV (C := "RunKeeperModel") wi_799 wi_796 wi_798 (wd_p (q := (⟨"RunKeeperModel", "fails", "(ZI)Z"⟩, 22)) (by decide +kernel) (by decide +kernel)) wi_8) rfl rfl rfl (by decide +kernel) ⟨Nat.le_of_ble_eq_true rfl, Nat.le_of_ble_eq_true rfl⟩) (dk_preV (kn_M, kt_M, 22) hE hP hS hh_4438 rfl) rfl rfl hl.1 rfl (lv_room (Nat.le_of_ble_eq_true rfl)) de_M_next_36 ⟨(by first | exact Nat.le_of_ble_eq_true rfl | (simp only [Nat.zero_add]; omega) | omega), (by first | exact Nat.le_of_ble_eq_true rfl | (simp only [Nat.zero_add]; omega) | omega)⟩) hS (fun r_4468 w_4466 H locs hq_4467 hP hS => ?_)
        obtain ⟨hr_4469, hq_4470, hf_4471⟩ := hq_4467
        subst hr_4469
        have hm_4472 : md_at G w_4466 h D ((μ.er' 0).er' 1) := hq_4470
        have hh_4473 : w_4466 h = some (100, .inr (cx_M, [.int (nI 1), .int (nI μ.n), .int (nI μ.sq), .int (nI μ.sf), .int (nI μ.rs), .int (rI μ.ba), .int (nI μ.pr), .int (nI μ.mi), .ref D.kf, .ref D.nf, .ref D.rf, .ref D.lf, .ref D.sv, .ref D.bk, .ref D.od, .ref D.vf, .ref D.bv, .ref D.df, .ref D.ss, .ref D.bd, .ref D.ks, .ref D.bt])) := hm_4472.o
        have ha_4474 : w_4466 D.kf = some (101, dk_ci G 700 (fun i9 => nI (μ.kf i9))) := hm_4472.kf
        have ha_4475 : w_4466 D.nf = some (102, dk_ci G 700 (fun i9 => nI (μ.nf i9))) := hm_4472.nf
        have ha_4476 : w_4466 D.rf = some (103, dk_ci G 700 (fun i9 => rI (μ.rf i9))) := hm_4472.rf
        have ha_4477 : w_4466 D.lf = some (104, dk_ci G 5000 (fun i9 => rI (μ.lf i9))) := hm_4472.lf
        have ha_4478 : w_4466 D.sv = some (105, dk_ci G 6 (fun i9 => nI (μ.sv i9))) := hm_4472.sv
        have ha_4479 : w_4466 D.bk = some (106, dk_ci G 16 (fun i9 => nI (μ.bk i9))) := hm_4472.bk
        have ha_4480 : w_4466 D.od = some (107, dk_ci G 700 (fun i9 => nI (μ.od i9))) := hm_4472.od
        have ha_4481 : w_4466 D.vf = some (108, dk_cl G 700 (fun i9 => μ.vf i9)) := hm_4472.vf
        have ha_4482 : w_4466 D.bv = some (109, dk_cl G 16 (fun i9 => μ.bv i9)) := hm_4472.bv
        have ha_4483 : w_4466 D.df = some (110, dk_cz G 700 (fun i9 => bo_i (μ.df i9))) := hm_4472.df
        have ha_4484 : w_4466 D.ss = some (111, dk_cz G 6 (fun i9 => bo_i (μ.ss i9))) := hm_4472.ss
        have ha_4485 : w_4466 D.bd = some (112, dk_cz G 16 (fun i9 => bo_i (μ.bd i9))) := hm_4472.bd
        have ha_4486 : w_4466 D.ks = some (113, dk_cz G 700 (fun i9 => bo_i (μ.ks i9))) := hm_4472.ks
        have ha_4487 : w_4466 D.bt = some (114, dk_cz G 6000 (fun i9 => bo_i (μ.bt i9))) := hm_4472.bt
        refine bo_if_eq (b := true) (tgt := 44) hx hb de_M_next_39 (by decide) (fun c_4488 => ?_) (fun c_4488 => ?_)
        · exact absurd c_4488 (by decide)
        · refine lv_iconst (v := nI 0) hx hb de_M_next_42 (by decide) ?_
          exact dk_iret hQ hx hb hr hlocks hP hS (Nat.le_refl _) (Nat.le_refl _) (⟨rfl, hm_4472, ((dk_fr.rf).tr ((dk_fr.up (T := md_T) hh_4419 (by unfold md_T; omega)).eq hw_4421)).tr (hf_4471)⟩) de_M_next_43
set_option maxHeartbeats 4000000 in
set_option maxRecDepth 100000 in
theorem c_M_nextS (l : Launch) (G : dk_G) (w : dk_H) (h : Nat) (D : md_D) (μ : md_S) (hm : md_at G w h D μ) (hmo : md_ok μ) (v : Int32) (k : Nat) (hk0 : k < 1024) (u : Nat) (hu0 : u < 2 ^ 31) (hv : mu_u μ v = some u) : dk_Mi l my_M_next (wd_c my_M_next mb_M_next 5 (some .int)) rm_M_next G w [.ref h, .int v, .int (nI k)] (fun r w1 => nxm_r μ u k r ∧ md_at G w1 h D (μ.er' 0) ∧ dk_fr md_T w w1) 0 0 := by
  obtain ⟨ok1, ok2, ok3, ok4, ok5, ok6, ok7, ok8, ok9, ok10, ok11⟩ := id hmo
  refine dk_enter (lv := [(0, .ref h), (1, .int v), (2, .int (nI k))]) (by decide) (Nat.le_of_ble_eq_true rfl) rfl (fun p e s m args below meth c ls Q hQ C hP hS hl => ?_)
  obtain ⟨hx, hb, hr, hml, hlocks, hown, hnm, hts, hE⟩ := C
  have hK := hE.1
  have hN := hE.2.1
  have hh_4489 : w h = some (100, .inr (cx_M, [.int (nI μ.er), .int (nI μ.n), .int (nI μ.sq), .int (nI μ.sf), .int (nI μ.rs), .int (rI μ.ba), .int (nI μ.pr), .int (nI μ.mi), .ref D.kf, .ref D.nf, .ref D.rf, .ref D.lf, .ref D.sv, .ref D.bk, .ref D.od, .ref D.vf, .ref D.bv, .ref D.df, .ref D.ss, .ref D.bd, .ref D.ks, .ref D.bt])) := hm.o
  refine lv_aload_n hx hb de_M_next_0 rfl (lv_at hl 0 rfl) ?_
  refine lv_iconst (v := nI 0) hx hb de_M_next_1 (by decide) ?_
  refine dk_put (a := h) (v := .int (nI 0)) (ty := .int) (C := kn_M) (T := kt_M) (N := 22) hx hb hts ki_M ky_M kk_M kd_M hown hK hP hS hh_4489 rfl 0 (by decide) (hts _ wi_714) (fun _ h9 => h9) rfl (by decide +kernel) rfl rfl (Nat.le_of_ble_eq_true rfl) de_M_next_2 (fun H locs w_4490 hw_4491 hP hS => ?_)
  have h_4492 : w_4490 h = some (100, .inr (cx_M, [.int (nI 0), .int (nI μ.n), .int (nI μ.sq), .int (nI μ.sf), .int (nI μ.rs), .int (rI μ.ba), .int (nI μ.pr), .int (nI μ.mi), .ref D.kf, .ref D.nf, .ref D.rf, .ref D.lf, .ref D.sv, .ref D.bk, .ref D.od, .ref D.vf, .ref D.bv, .ref D.df, .ref D.ss, .ref D.bd, .ref D.ks, .ref D.bt])) := dk_here hw_4491
  have h_4493 : w_4490 D.kf = some (101, dk_ci G 700 (fun i9 => nI (μ.kf i9))) := dk_keep hw_4491 hh_4489 hm.kf (by decide)
  have h_4494 : w_4490 D.nf = some (102, dk_ci G 700 (fun i9 => nI (μ.nf i9))) := dk_keep hw_4491 hh_4489 hm.nf (by decide)
  have h_4495 : w_4490 D.rf = some (103, dk_ci G 700 (fun i9 => rI (μ.rf i9))) := dk_keep hw_4491 hh_4489 hm.rf (by decide)
  have h_4496 : w_4490 D.lf = some (104, dk_ci G 5000 (fun i9 => rI (μ.lf i9))) := dk_keep hw_4491 hh_4489 hm.lf (by decide)
  have h_4497 : w_4490 D.sv = some (105, dk_ci G 6 (fun i9 => nI (μ.sv i9))) := dk_keep hw_4491 hh_4489 hm.sv (by decide)
  have h_4498 : w_4490 D.bk = some (106, dk_ci G 16 (fun i9 => nI (μ.bk i9))) := dk_keep hw_4491 hh_4489 hm.bk (by decide)
  have h_4499 : w_4490 D.od = some (107, dk_ci G 700 (fun i9 => nI (μ.od i9))) := dk_keep hw_4491 hh_4489 hm.od (by decide)
  have h_4500 : w_4490 D.vf = some (108, dk_cl G 700 (fun i9 => μ.vf i9)) := dk_keep hw_4491 hh_4489 hm.vf (by decide)
  have h_4501 : w_4490 D.bv = some (109, dk_cl G 16 (fun i9 => μ.bv i9)) := dk_keep hw_4491 hh_4489 hm.bv (by decide)
  have h_4502 : w_4490 D.df = some (110, dk_cz G 700 (fun i9 => bo_i (μ.df i9))) := dk_keep hw_4491 hh_4489 hm.df (by decide)
  have h_4503 : w_4490 D.ss = some (111, dk_cz G 6 (fun i9 => bo_i (μ.ss i9))) := dk_keep hw_4491 hh_4489 hm.ss (by decide)
  have h_4504 : w_4490 D.bd = some (112, dk_cz G 16 (fun i9 => bo_i (μ.bd i9))) := dk_keep hw_4491 hh_4489 hm.bd (by decide)
  have h_4505 : w_4490 D.ks = some (113, dk_cz G 700 (fun i9 => bo_i (μ.ks i9))) := dk_keep hw_4491 hh_4489 hm.ks (by decide)
  have h_4506 : w_4490 D.bt = some (114, dk_cz G 6000 (fun i9 => bo_i (μ.bt i9))) := dk_keep hw_4491 hh_4489 hm.bt (by decide)
  have hm_4507 : md_at G w_4490 h D (μ.er' 0) := ⟨h_4492, h_4493, h_4494, h_4495, h_4496, h_4497, h_4498, h_4499, h_4500, h_4501, h_4502, h_4503, h_4504, h_4505, h_4506⟩
  have hh_4508 : w_4490 h = some (100, .inr (cx_M, [.int (nI 0), .int (nI μ.n), .int (nI μ.sq), .int (nI μ.sf), .int (nI μ.rs), .int (rI μ.ba), .int (nI μ.pr), .int (nI μ.mi), .ref D.kf, .ref D.nf, .ref D.rf, .ref D.lf, .ref D.sv, .ref D.bk, .ref D.od, .ref D.vf, .ref D.bv, .ref D.df, .ref D.ss, .ref D.bd, .ref D.ks, .ref D.bt])) := hm_4507.o
  have ha_4509 : w_4490 D.kf = some (101, dk_ci G 700 (fun i9 => nI (μ.kf i9))) := hm_4507.kf
  have ha_4510 : w_4490 D.nf = some (102, dk_ci G 700 (fun i9 => nI (μ.nf i9))) := hm_4507.nf
  have ha_4511 : w_4490 D.rf = some (103, dk_ci G 700 (fun i9 => rI (μ.rf i9))) := hm_4507.rf
  have ha_4512 : w_4490 D.lf = some (104, dk_ci G 5000 (fun i9 => rI (μ.lf i9))) := hm_4507.lf
  have ha_4513 : w_4490 D.sv = some (105, dk_ci G 6 (fun i9 => nI (μ.sv i9))) := hm_4507.sv
  have ha_4514 : w_4490 D.bk = some (106, dk_ci G 16 (fun i9 => nI (μ.bk i9))) := hm_4507.bk
  have ha_4515 : w_4490 D.od = some (107, dk_ci G 700 (fun i9 => nI (μ.od i9))) := hm_4507.od
  have ha_4516 : w_4490 D.vf = some (108, dk_cl G 700 (fun i9 => μ.vf i9)) := hm_4507.vf
  have ha_4517 : w_4490 D.bv = some (109, dk_cl G 16 (fun i9 => μ.bv i9)) := hm_4507.bv
  have ha_4518 : w_4490 D.df = some (110, dk_cz G 700 (fun i9 => bo_i (μ.df i9))) := hm_4507.df
  have ha_4519 : w_4490 D.ss = some (111, dk_cz G 6 (fun i9 => bo_i (μ.ss i9))) := hm_4507.ss
  have ha_4520 : w_4490 D.bd = some (112, dk_cz G 16 (fun i9 => bo_i (μ.bd i9))) := hm_4507.bd
  have ha_4521 : w_4490 D.ks = some (113, dk_cz G 700 (fun i9 => bo_i (μ.ks i9))) := hm_4507.ks
  have ha_4522 : w_4490 D.bt = some (114, dk_cz G 6000 (fun i9 => bo_i (μ.bt i9))) := hm_4507.bt
  refine lv_aload_n hx hb de_M_next_5 rfl (lv_at hl 0 rfl) ?_
  refine lv_iload_n hx hb de_M_next_6 rfl (lv_at hl 2 rfl) ?_
  refine lv_iconst (v := nI 0) hx hb de_M_next_7 (by decide) ?_
  refine lv_sipush (v := nI 1023) hx hb de_M_next_8 (by decide) ?_
  refine dk_calli (va_runS (As := [.int (nI k), .int (nI 0), .int (nI 1023)]) (rest := [.ref h]) ⟨hx, hb, hml, hown, hts⟩ (c_M_in l G w_4490 (nI k) (nI 0) (nI 1023)) (va_cwS 3 hts (wd_gS wi_795 wi_793 wi_794 wi_8) rfl rfl rfl (by decide +kernel) ⟨Nat.le_of_ble_eq_true rfl, Nat.le_of_ble_eq_true rfl⟩) (dk_preS hE hP hS) rfl rfl hl.1 rfl (lv_room (Nat.le_of_ble_eq_true rfl)) de_M_next_11 ⟨(by first | exact Nat.le_of_ble_eq_true rfl | (simp only [Nat.zero_add]; omega) | omega), (by first | exact Nat.le_of_ble_eq_true rfl | (simp only [Nat.zero_add]; omega) | omega)⟩) hS (fun r_4525 w_4523 H locs hq_4524 hP hS => ?_)
  rw [im_y (by decide) (by omega)] at hq_4524
  obtain ⟨hr_4526, he_4527⟩ := hq_4524
  subst hr_4526
  rw [he_4527] at hP
  refine bo_if_eq (b := true) (tgt := 30) hx hb de_M_next_14 (by decide) (fun c_4528 => ?_) (fun c_4528 => ?_)
  · exact absurd c_4528 (by decide)
  · refine lv_iload_n hx hb de_M_next_17 rfl (lv_at hl 1 rfl) ?_
    refine lv_iconst (v := (-1)) hx hb de_M_next_18 (by decide) ?_
    refine lv_icmp_eq (tgt := 34) hx hb de_M_next_19 (by decide) (fun c_4529 => ?_) (fun c_4529 => ?_)
    · refine lv_iconst (v := nI 0) hx hb de_M_next_34 (by decide) ?_
      refine lv_iconst (v := nI 1) hx hb de_M_next_35 (by decide) ?_
      rw [show (nI 0) = bo_i false from (by decide)]
      refine dk_calli (va_runV (As := [.int (bo_i false), .int (nI 1)]) (rest := []) ⟨hx, hb, hml, hown, hts⟩ (c_M_fails l G w_4490 h D (μ.er' 0) hm_4507 false 1 (by decide) (by decide) (show (0 : Nat) < 3 by decide)) (cwV 2 hts (wd_gV (C := "RunKeeperModel") wi_799 wi_796 wi_798 (wd_p (q := (⟨"RunKeeperModel", "fails", "(ZI)Z"⟩, 22)) (by decide +kernel) (by decide +kernel)) wi_8) rfl rfl rfl (by decide +kernel) ⟨Nat.le_of_ble_eq_true rfl, Nat.le_of_ble_eq_true rfl⟩) (dk_preV (kn_M, kt_M, 22) hE hP hS hh_4508 rfl) rfl rfl hl.1 rfl (lv_room (Nat.le_of_ble_eq_true rfl)) de_M_next_36 ⟨(by first | exact Nat.le_of_ble_eq_true rfl | (simp only [Nat.zero_add]; omega) | omega), (by first | exact Nat.le_of_ble_eq_true rfl | (simp only [Nat.zero_add]; omega) | omega)⟩) hS (fun r_4538 w_4536 H locs hq_4537 hP hS => ?_)
      obtain ⟨hr_4539, hq_4540, hf_4541⟩ := hq_4537
      subst hr_4539
      have hm_4542 : md_at G w_4536 h D ((μ.er' 0).er' 0) := hq_4540
      have hh_4543 : w_4536 h = some (100, .inr (cx_M, [.int (nI 0), .int (nI μ.n), .int (nI μ.sq), .int (nI μ.sf), .int (nI μ.rs), .int (rI μ.ba), .int (nI μ.pr), .int (nI μ.mi), .ref D.kf, .ref D.nf, .ref D.rf, .ref D.lf, .ref D.sv, .ref D.bk, .ref D.od, .ref D.vf, .ref D.bv, .ref D.df, .ref D.ss, .ref D.bd, .ref D.ks, .ref D.bt])) := hm_4542.o
      have ha_4544 : w_4536 D.kf = some (101, dk_ci G 700 (fun i9 => nI (μ.kf i9))) := hm_4542.kf
      have ha_4545 : w_4536 D.nf = some (102, dk_ci G 700 (fun i9 => nI (μ.nf i9))) := hm_4542.nf
      have ha_4546 : w_4536 D.rf = some (103, dk_ci G 700 (fun i9 => rI (μ.rf i9))) := hm_4542.rf
      have ha_4547 : w_4536 D.lf = some (104, dk_ci G 5000 (fun i9 => rI (μ.lf i9))) := hm_4542.lf
      have ha_4548 : w_4536 D.sv = some (105, dk_ci G 6 (fun i9 => nI (μ.sv i9))) := hm_4542.sv
      have ha_4549 : w_4536 D.bk = some (106, dk_ci G 16 (fun i9 => nI (μ.bk i9))) := hm_4542.bk
      have ha_4550 : w_4536 D.od = some (107, dk_ci G 700 (fun i9 => nI (μ.od i9))) := hm_4542.od
      have ha_4551 : w_4536 D.vf = some (108, dk_cl G 700 (fun i9 => μ.vf i9)) := hm_4542.vf
      have ha_4552 : w_4536 D.bv = some (109, dk_cl G 16 (fun i9 => μ.bv i9)) := hm_4542.bv
      have ha_4553 : w_4536 D.df = some (110, dk_cz G 700 (fun i9 => bo_i (μ.df i9))) := hm_4542.df
      have ha_4554 : w_4536 D.ss = some (111, dk_cz G 6 (fun i9 => bo_i (μ.ss i9))) := hm_4542.ss
      have ha_4555 : w_4536 D.bd = some (112, dk_cz G 16 (fun i9 => bo_i (μ.bd i9))) := hm_4542.bd
      have ha_4556 : w_4536 D.ks = some (113, dk_cz G 700 (fun i9 => bo_i (μ.ks i9))) := hm_4542.ks
      have ha_4557 : w_4536 D.bt = some (114, dk_cz G 6000 (fun i9 => bo_i (μ.bt i9))) := hm_4542.bt
      refine bo_if_eq (b := false) (tgt := 44) hx hb de_M_next_39 (by decide) (fun c_4558 => ?_) (fun c_4558 => ?_)
      · have hmo2 : md_ok ((μ.er' 0).er' 0) := ⟨ok1, ok2, ok3, ok4, ok5, ok6, ok7, ok8, ok9, ok10, show (0 : Nat) < 3 by decide⟩
        refine lv_iload_n hx hb de_M_next_44 rfl (lv_at hl 2 rfl) ?_
        refine lv_istore_n (lv' := [(3, .int (nI k)), (0, .ref h), (1, .int v), (2, .int (nI k))]) hx hb de_M_next_45 rfl hl (by decide) rfl (fun ls hl => ?_)
        have lp : ∀ (zk : Nat) (i : Nat), 1024 - i < zk → (k ≤ i ∧ i ≤ 1024) → (∀ j, k ≤ j → j < i → lm_k μ u j = false) → ∀ (H : Heap) (locs : List Loc), dk_P G w_4536 H → dk_S G s.heap H locs → ∀ (ls : Array Slot), lv_has ls 5 [(0, .ref h), (1, .int v), (2, .int (nI k)), (3, .int (nI i))] → W p l e rm_M_next s m args below meth c H locs (0 + 0 + 0) (0 + 0 + 0) Q (F0 m 46 ls []) := by
          intro zk
          induction zk with
          | zero =>
            intro i hk
            exact absurd hk (by omega)
          | succ zk ih =>
            intro i hk hi hno
            intro H locs hP hS
            intro ls hl
            refine lv_iload_n hx hb de_M_next_46 rfl (lv_at hl 3 rfl) ?_
            refine lv_sipush (v := nI 1024) hx hb de_M_next_47 (by decide) ?_
            refine nx_icmp_ge (a := i) (b := 1024) (tgt := 88) hx hb (by omega) (by omega) de_M_next_50 (by decide) (fun c_4582 => ?_) (fun c_4582 => ?_)
            · refine lv_iconst (v := (-1)) hx hb de_M_next_88 (by decide) ?_
              exact dk_iret hQ hx hb hr hlocks hP hS (Nat.le_refl _) (Nat.le_refl _) (⟨Or.inr ⟨rfl, fun j h1 h2 => hno j h1 (by omega)⟩, hm_4542, ((dk_fr.rf).tr ((dk_fr.up (T := md_T) hh_4489 (by unfold md_T; omega)).eq hw_4491)).tr (hf_4541)⟩) de_M_next_89
            · refine lv_aload_n hx hb de_M_next_53 rfl (lv_at hl 0 rfl) ?_
              refine lv_iload_n hx hb de_M_next_54 rfl (lv_at hl 3 rfl) ?_
              refine lv_aload_n hx hb de_M_next_55 rfl (lv_at hl 0 rfl) ?_
              refine lv_iload_n hx hb de_M_next_56 rfl (lv_at hl 1 rfl) ?_
              refine dk_calli (va_runV (As := [.int v]) (rest := [.int (nI i), .ref h]) ⟨hx, hb, hml, hown, hts⟩ (c_M_upTo l G w_4536 h D ((μ.er' 0).er' 0) hm_4542 v u hv) (cwV 1 hts (wd_gV (C := "RunKeeperModel") wi_880 wi_877 wi_879 (wd_p (q := (⟨"RunKeeperModel", "upTo", "(I)I"⟩, 22)) (by decide +kernel) (by decide +kernel)) wi_8) rfl rfl rfl (by decide +kernel) ⟨Nat.le_of_ble_eq_true rfl, Nat.le_of_ble_eq_true rfl⟩) (dk_preV (kn_M, kt_M, 22) hE hP hS hh_4543 rfl) rfl rfl hl.1 rfl (lv_room (Nat.le_of_ble_eq_true rfl)) de_M_next_57 ⟨(by first | exact Nat.le_of_ble_eq_true rfl | (simp only [Nat.zero_add]; omega) | omega), (by first | exact Nat.le_of_ble_eq_true rfl | (simp only [Nat.zero_add]; omega) | omega)⟩) hS (fun r_4585 w_4583 H locs hq_4584 hP hS => ?_)
              obtain ⟨hr_4586, he_4587⟩ := hq_4584
              subst hr_4586
              rw [he_4587] at hP
              refine dk_calli (va_runV (As := [.int (nI i), .int (nI u)]) (rest := []) ⟨hx, hb, hml, hown, hts⟩ (c_M_best l G w_4536 h D ((μ.er' 0).er' 0) hm_4542 hmo2 i u (by omega) hu0) (cwV 2 hts (wd_gV (C := "RunKeeperModel") wi_884 wi_881 wi_883 (wd_p (q := (⟨"RunKeeperModel", "best", "(II)I"⟩, 22)) (by decide +kernel) (by decide +kernel)) wi_8) rfl rfl rfl (by decide +kernel) ⟨Nat.le_of_ble_eq_true rfl, Nat.le_of_ble_eq_true rfl⟩) (dk_preV (kn_M, kt_M, 22) hE hP hS hh_4543 rfl) rfl rfl hl.1 rfl (lv_room (Nat.le_of_ble_eq_true rfl)) de_M_next_60 ⟨(by first | exact Nat.le_of_ble_eq_true rfl | (simp only [Nat.zero_add]; omega) | omega), (by first | exact Nat.le_of_ble_eq_true rfl | (simp only [Nat.zero_add]; omega) | omega)⟩) hS (fun r_4590 w_4588 H locs hq_4589 hP hS => ?_)
              obtain ⟨hr_4591, he_4592⟩ := hq_4589
              subst hr_4591
              rw [he_4592] at hP
              have hbe : ∀ b, be_f μ i u μ.n = some b → b < μ.n := fun b hb => be_lt hb
              have hneg := rI_neg (a := be_f μ i u μ.n) (fun b hb => by have := hbe b hb; omega)
              rw [show be_f ((μ.er' 0).er' 0) i u ((μ.er' 0).er' 0).n = be_f μ i u μ.n from be_e μ 0 0 i u]
              refine lv_istore (lv' := [(4, .int (rI (be_f μ i u μ.n))), (0, .ref h), (1, .int v), (2, .int (nI k)), (3, .int (nI i))]) hx hb de_M_next_63 hl (by decide) rfl (fun ls hl => ?_)
              refine lv_iload hx hb de_M_next_65 (lv_at hl 0 rfl) ?_
              refine lv_if_lt (tgt := 82) hx hb de_M_next_67 (by decide) (fun c_4593 => ?_) (fun c_4593 => ?_)
              · refine lv_iinc (v := nI (i + 1)) (lv' := [(3, .int (nI (i + 1))), (4, .int (rI (be_f μ i u μ.n))), (0, .ref h), (1, .int v), (2, .int (nI k))]) hx hb de_M_next_82 hl (k := 4) rfl (nx_inc i) (by decide) rfl (fun ls hl => ?_)
                refine lv_goto (tgt := 46) hx hb de_M_next_85 (by decide) ?_
                have hno2 := lk_s hno (lm_kn (hneg.mp c_4593))
                exact ih (i + 1) (by omega) (by omega) hno2 _ _ hP hS _ (lv_sub hl [2, 3, 4, 0] rfl)
              · obtain ⟨b9, hb9⟩ := rI_so c_4593
                have hb8 := hbe b9 hb9
                rw [hb9] at hl
                replace hl : lv_has ls 5 [(4, .int (nI b9)), (0, .ref h), (1, .int v), (2, .int (nI k)), (3, .int (nI i))] := hl
                refine lv_aload_n hx hb de_M_next_70 rfl (lv_at hl 1 rfl) ?_
                refine dk_get (a := h) (v := .ref D.df) (C := kn_M) (T := kt_M) (N := 22) hx hb hts ki_M hown hK hP hh_4543 rfl 17 (by decide) (hts _ wi_731) (fun _ h9 => h9) rfl de_M_next_71 ?_
                refine lv_iload hx hb de_M_next_74 (lv_at hl 0 rfl) ?_
                refine dk_zald (a := D.df) hx hb hK hP ha_4553 b9 rfl (by omega) (by omega) de_M_next_76 ?_
                refine bo_if_ne (b := (μ.df b9)) (tgt := 82) hx hb de_M_next_77 (by decide) (fun c_4594 => ?_) (fun c_4594 => ?_)
                · refine lv_iinc (v := nI (i + 1)) (lv' := [(3, .int (nI (i + 1))), (4, .int (nI b9)), (0, .ref h), (1, .int v), (2, .int (nI k))]) hx hb de_M_next_82 hl (k := 4) rfl (nx_inc i) (by decide) rfl (fun ls hl => ?_)
                  refine lv_goto (tgt := 46) hx hb de_M_next_85 (by decide) ?_
                  have hno2 := lk_s hno (lm_kd hb9 c_4594)
                  exact ih (i + 1) (by omega) (by omega) hno2 _ _ hP hS _ (lv_sub hl [2, 3, 4, 0] rfl)
                · refine lv_iload_n hx hb de_M_next_80 rfl (lv_at hl 4 rfl) ?_
                  exact dk_iret hQ hx hb hr hlocks hP hS (Nat.le_refl _) (Nat.le_refl _) (⟨Or.inl ⟨i, by omega, by omega, rfl, lm_kl hb9 c_4594, hno⟩, hm_4542, ((dk_fr.rf).tr ((dk_fr.up (T := md_T) hh_4489 (by unfold md_T; omega)).eq hw_4491)).tr (hf_4541)⟩) de_M_next_81
        exact lp 1025 k (by omega) (by omega) (fun j h1 h2 => absurd h1 (by omega)) _ _ hP hS _ (lv_sub hl [1, 2, 3, 0] rfl)
      · exact absurd c_4558 (by decide)
    · refine lv_aload_n hx hb de_M_next_22 rfl (lv_at hl 0 rfl) ?_
      refine lv_iload_n hx hb de_M_next_23 rfl (lv_at hl 1 rfl) ?_
      refine dk_calli (va_runV (As := [.int v]) (rest := [.ref h]) ⟨hx, hb, hml, hown, hts⟩ (c_M_isNone l G w_4490 h D (μ.er' 0) hm_4507 v) (cwV 1 hts (wd_gV (C := "RunKeeperModel") wi_872 wi_869 wi_871 (wd_p (q := (⟨"RunKeeperModel", "isNone", "(I)Z"⟩, 22)) (by decide +kernel) (by decide +kernel)) wi_8) rfl rfl rfl (by decide +kernel) ⟨Nat.le_of_ble_eq_true rfl, Nat.le_of_ble_eq_true rfl⟩) (dk_preV (kn_M, kt_M, 22) hE hP hS hh_4508 rfl) rfl rfl hl.1 rfl (lv_room (Nat.le_of_ble_eq_true rfl)) de_M_next_24 ⟨(by first | exact Nat.le_of_ble_eq_true rfl | (simp only [Nat.zero_add]; omega) | omega), (by first | exact Nat.le_of_ble_eq_true rfl | (simp only [Nat.zero_add]; omega) | omega)⟩) hS (fun r_4532 w_4530 H locs hq_4531 hP hS => ?_)
      rw [show vs_g (μ.er' 0) v = some u from by rw [mu_u, if_neg c_4529] at hv; exact hv] at hq_4531
      obtain ⟨hr_4533, he_4534⟩ := hq_4531
      subst hr_4533
      rw [he_4534] at hP
      refine bo_if_eq (b := false) (tgt := 34) hx hb de_M_next_27 (by decide) (fun c_4535 => ?_) (fun c_4535 => ?_)
      · refine lv_iconst (v := nI 0) hx hb de_M_next_34 (by decide) ?_
        refine lv_iconst (v := nI 1) hx hb de_M_next_35 (by decide) ?_
        rw [show (nI 0) = bo_i false from (by decide)]
        refine dk_calli (va_runV (As := [.int (bo_i false), .int (nI 1)]) (rest := []) ⟨hx, hb, hml, hown, hts⟩ (c_M_fails l G w_4490 h D (μ.er' 0) hm_4507 false 1 (by decide) (by decide) (show (0 : Nat) < 3 by decide)) (cwV 2 hts (wd_gV (C := "RunKeeperModel") wi_799 wi_796 wi_798 (wd_p (q := (⟨"RunKeeperModel", "fails", "(ZI)Z"⟩, 22)) (by decide +kernel) (by decide +kernel)) wi_8) rfl rfl rfl (by decide +kernel) ⟨Nat.le_of_ble_eq_true rfl, Nat.le_of_ble_eq_true rfl⟩) (dk_preV (kn_M, kt_M, 22) hE hP hS hh_4508 rfl) rfl rfl hl.1 rfl (lv_room (Nat.le_of_ble_eq_true rfl)) de_M_next_36 ⟨(by first | exact Nat.le_of_ble_eq_true rfl | (simp only [Nat.zero_add]; omega) | omega), (by first | exact Nat.le_of_ble_eq_true rfl | (simp only [Nat.zero_add]; omega) | omega)⟩) hS (fun r_4561 w_4559 H locs hq_4560 hP hS => ?_)
        obtain ⟨hr_4562, hq_4563, hf_4564⟩ := hq_4560
        subst hr_4562
        have hm_4565 : md_at G w_4559 h D ((μ.er' 0).er' 0) := hq_4563
        have hh_4566 : w_4559 h = some (100, .inr (cx_M, [.int (nI 0), .int (nI μ.n), .int (nI μ.sq), .int (nI μ.sf), .int (nI μ.rs), .int (rI μ.ba), .int (nI μ.pr), .int (nI μ.mi), .ref D.kf, .ref D.nf, .ref D.rf, .ref D.lf, .ref D.sv, .ref D.bk, .ref D.od, .ref D.vf, .ref D.bv, .ref D.df, .ref D.ss, .ref D.bd, .ref D.ks, .ref D.bt])) := hm_4565.o
        have ha_4567 : w_4559 D.kf = some (101, dk_ci G 700 (fun i9 => nI (μ.kf i9))) := hm_4565.kf
        have ha_4568 : w_4559 D.nf = some (102, dk_ci G 700 (fun i9 => nI (μ.nf i9))) := hm_4565.nf
        have ha_4569 : w_4559 D.rf = some (103, dk_ci G 700 (fun i9 => rI (μ.rf i9))) := hm_4565.rf
        have ha_4570 : w_4559 D.lf = some (104, dk_ci G 5000 (fun i9 => rI (μ.lf i9))) := hm_4565.lf
        have ha_4571 : w_4559 D.sv = some (105, dk_ci G 6 (fun i9 => nI (μ.sv i9))) := hm_4565.sv
        have ha_4572 : w_4559 D.bk = some (106, dk_ci G 16 (fun i9 => nI (μ.bk i9))) := hm_4565.bk
        have ha_4573 : w_4559 D.od = some (107, dk_ci G 700 (fun i9 => nI (μ.od i9))) := hm_4565.od
        have ha_4574 : w_4559 D.vf = some (108, dk_cl G 700 (fun i9 => μ.vf i9)) := hm_4565.vf
        have ha_4575 : w_4559 D.bv = some (109, dk_cl G 16 (fun i9 => μ.bv i9)) := hm_4565.bv
        have ha_4576 : w_4559 D.df = some (110, dk_cz G 700 (fun i9 => bo_i (μ.df i9))) := hm_4565.df
        have ha_4577 : w_4559 D.ss = some (111, dk_cz G 6 (fun i9 => bo_i (μ.ss i9))) := hm_4565.ss
        have ha_4578 : w_4559 D.bd = some (112, dk_cz G 16 (fun i9 => bo_i (μ.bd i9))) := hm_4565.bd
        have ha_4579 : w_4559 D.ks = some (113, dk_cz G 700 (fun i9 => bo_i (μ.ks i9))) := hm_4565.ks
        have ha_4580 : w_4559 D.bt = some (114, dk_cz G 6000 (fun i9 => bo_i (μ.bt i9))) := hm_4565.bt
        refine bo_if_eq (b := false) (tgt := 44) hx hb de_M_next_39 (by decide) (fun c_4581 => ?_) (fun c_4581 => ?_)
        · have hmo2 : md_ok ((μ.er' 0).er' 0) := ⟨ok1, ok2, ok3, ok4, ok5, ok6, ok7, ok8, ok9, ok10, show (0 : Nat) < 3 by decide⟩
          refine lv_iload_n hx hb de_M_next_44 rfl (lv_at hl 2 rfl) ?_
          refine lv_istore_n (lv' := [(3, .int (nI k)), (0, .ref h), (1, .int v), (2, .int (nI k))]) hx hb de_M_next_45 rfl hl (by decide) rfl (fun ls hl => ?_)
          have lp : ∀ (zk : Nat) (i : Nat), 1024 - i < zk → (k ≤ i ∧ i ≤ 1024) → (∀ j, k ≤ j → j < i → lm_k μ u j = false) → ∀ (H : Heap) (locs : List Loc), dk_P G w_4559 H → dk_S G s.heap H locs → ∀ (ls : Array Slot), lv_has ls 5 [(0, .ref h), (1, .int v), (2, .int (nI k)), (3, .int (nI i))] → W p l e rm_M_next s m args below meth c H locs (0 + 0 + 0 + 0) (0 + 0 + 0 + 0) Q (F0 m 46 ls []) := by
            intro zk
            induction zk with
            | zero =>
              intro i hk
              exact absurd hk (by omega)
            | succ zk ih =>
              intro i hk hi hno
              intro H locs hP hS
              intro ls hl
              refine lv_iload_n hx hb de_M_next_46 rfl (lv_at hl 3 rfl) ?_
              refine lv_sipush (v := nI 1024) hx hb de_M_next_47 (by decide) ?_
              refine nx_icmp_ge (a := i) (b := 1024) (tgt := 88) hx hb (by omega) (by omega) de_M_next_50 (by decide) (fun c_4595 => ?_) (fun c_4595 => ?_)
              · refine lv_iconst (v := (-1)) hx hb de_M_next_88 (by decide) ?_
                exact dk_iret hQ hx hb hr hlocks hP hS (Nat.le_refl _) (Nat.le_refl _) (⟨Or.inr ⟨rfl, fun j h1 h2 => hno j h1 (by omega)⟩, hm_4565, ((dk_fr.rf).tr ((dk_fr.up (T := md_T) hh_4489 (by unfold md_T; omega)).eq hw_4491)).tr (hf_4564)⟩) de_M_next_89
              · refine lv_aload_n hx hb de_M_next_53 rfl (lv_at hl 0 rfl) ?_
                refine lv_iload_n hx hb de_M_next_54 rfl (lv_at hl 3 rfl) ?_
                refine lv_aload_n hx hb de_M_next_55 rfl (lv_at hl 0 rfl) ?_
                refine lv_iload_n hx hb de_M_next_56 rfl (lv_at hl 1 rfl) ?_
                refine dk_calli (va_runV (As := [.int v]) (rest := [.int (nI i), .ref h]) ⟨hx, hb, hml, hown, hts⟩ (c_M_upTo l G w_4559 h D ((μ.er' 0).er' 0) hm_4565 v u hv) (cwV 1 hts (wd_gV (C := "RunKeeperModel") wi_880 wi_877 wi_879 (wd_p (q := (⟨"RunKeeperModel", "upTo", "(I)I"⟩, 22)) (by decide +kernel) (by decide +kernel)) wi_8) rfl rfl rfl (by decide +kernel) ⟨Nat.le_of_ble_eq_true rfl, Nat.le_of_ble_eq_true rfl⟩) (dk_preV (kn_M, kt_M, 22) hE hP hS hh_4566 rfl) rfl rfl hl.1 rfl (lv_room (Nat.le_of_ble_eq_true rfl)) de_M_next_57 ⟨(by first | exact Nat.le_of_ble_eq_true rfl | (simp only [Nat.zero_add]; omega) | omega), (by first | exact Nat.le_of_ble_eq_true rfl | (simp only [Nat.zero_add]; omega) | omega)⟩) hS (fun r_4598 w_4596 H locs hq_4597 hP hS => ?_)
                obtain ⟨hr_4599, he_4600⟩ := hq_4597
                subst hr_4599
                rw [he_4600] at hP
                refine dk_calli (va_runV (As := [.int (nI i), .int (nI u)]) (rest := []) ⟨hx, hb, hml, hown, hts⟩ (c_M_best l G w_4559 h D ((μ.er' 0).er' 0) hm_4565 hmo2 i u (by omega) hu0) (cwV 2 hts (wd_gV (C := "RunKeeperModel") wi_884 wi_881 wi_883 (wd_p (q := (⟨"RunKeeperModel", "best", "(II)I"⟩, 22)) (by decide +kernel) (by decide +kernel)) wi_8) rfl rfl rfl (by decide +kernel) ⟨Nat.le_of_ble_eq_true rfl, Nat.le_of_ble_eq_true rfl⟩) (dk_preV (kn_M, kt_M, 22) hE hP hS hh_4566 rfl) rfl rfl hl.1 rfl (lv_room (Nat.le_of_ble_eq_true rfl)) de_M_next_60 ⟨(by first | exact Nat.le_of_ble_eq_true rfl | (simp only [Nat.zero_add]; omega) | omega), (by first | exact Nat.le_of_ble_eq_true rfl | (simp only [Nat.zero_add]; omega) | omega)⟩) hS (fun r_4603 w_4601 H locs hq_4602 hP hS => ?_)
                obtain ⟨hr_4604, he_4605⟩ := hq_4602
                subst hr_4604
                rw [he_4605] at hP
                have hbe : ∀ b, be_f μ i u μ.n = some b → b < μ.n := fun b hb => be_lt hb
                have hneg := rI_neg (a := be_f μ i u μ.n) (fun b hb => by have := hbe b hb; omega)
                rw [show be_f ((μ.er' 0).er' 0) i u ((μ.er' 0).er' 0).n = be_f μ i u μ.n from be_e μ 0 0 i u]
                refine lv_istore (lv' := [(4, .int (rI (be_f μ i u μ.n))), (0, .ref h), (1, .int v), (2, .int (nI k)), (3, .int (nI i))]) hx hb de_M_next_63 hl (by decide) rfl (fun ls hl => ?_)
                refine lv_iload hx hb de_M_next_65 (lv_at hl 0 rfl) ?_
                refine lv_if_lt (tgt := 82) hx hb de_M_next_67 (by decide) (fun c_4606 => ?_) (fun c_4606 => ?_)
                · refine lv_iinc (v := nI (i + 1)) (lv' := [(3, .int (nI (i + 1))), (4, .int (rI (be_f μ i u μ.n))), (0, .ref h), (1, .int v), (2, .int (nI k))]) hx hb de_M_next_82 hl (k := 4) rfl (nx_inc i) (by decide) rfl (fun ls hl => ?_)
                  refine lv_goto (tgt := 46) hx hb de_M_next_85 (by decide) ?_
                  have hno2 := lk_s hno (lm_kn (hneg.mp c_4606))
                  exact ih (i + 1) (by omega) (by omega) hno2 _ _ hP hS _ (lv_sub hl [2, 3, 4, 0] rfl)
                · obtain ⟨b9, hb9⟩ := rI_so c_4606
                  have hb8 := hbe b9 hb9
                  rw [hb9] at hl
                  replace hl : lv_has ls 5 [(4, .int (nI b9)), (0, .ref h), (1, .int v), (2, .int (nI k)), (3, .int (nI i))] := hl
                  refine lv_aload_n hx hb de_M_next_70 rfl (lv_at hl 1 rfl) ?_
                  refine dk_get (a := h) (v := .ref D.df) (C := kn_M) (T := kt_M) (N := 22) hx hb hts ki_M hown hK hP hh_4566 rfl 17 (by decide) (hts _ wi_731) (fun _ h9 => h9) rfl de_M_next_71 ?_
                  refine lv_iload hx hb de_M_next_74 (lv_at hl 0 rfl) ?_
                  refine dk_zald (a := D.df) hx hb hK hP ha_4576 b9 rfl (by omega) (by omega) de_M_next_76 ?_
                  refine bo_if_ne (b := (μ.df b9)) (tgt := 82) hx hb de_M_next_77 (by decide) (fun c_4607 => ?_) (fun c_4607 => ?_)
                  · refine lv_iinc (v := nI (i + 1)) (lv' := [(3, .int (nI (i + 1))), (4, .int (nI b9)), (0, .ref h), (1, .int v), (2, .int (nI k))]) hx hb de_M_next_82 hl (k := 4) rfl (nx_inc i) (by decide) rfl (fun ls hl => ?_)
                    refine lv_goto (tgt := 46) hx hb de_M_next_85 (by decide) ?_
                    have hno2 := lk_s hno (lm_kd hb9 c_4607)
                    exact ih (i + 1) (by omega) (by omega) hno2 _ _ hP hS _ (lv_sub hl [2, 3, 4, 0] rfl)
                  · refine lv_iload_n hx hb de_M_next_80 rfl (lv_at hl 4 rfl) ?_
                    exact dk_iret hQ hx hb hr hlocks hP hS (Nat.le_refl _) (Nat.le_refl _) (⟨Or.inl ⟨i, by omega, by omega, rfl, lm_kl hb9 c_4607, hno⟩, hm_4565, ((dk_fr.rf).tr ((dk_fr.up (T := md_T) hh_4489 (by unfold md_T; omega)).eq hw_4491)).tr (hf_4564)⟩) de_M_next_81
          exact lp 1025 k (by omega) (by omega) (fun j h1 h2 => absurd h1 (by omega)) _ _ hP hS _ (lv_sub hl [1, 2, 3, 0] rfl)
        · exact absurd c_4581 (by decide)
      · exact absurd c_4535 (by decide)
