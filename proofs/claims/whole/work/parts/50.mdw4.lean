/-! RunKeeperModel: end, snapshots (printed by gen/c_md4.py) -/
/-- the first i writes of the batch -/
def md_wl (μ : md_S) : Nat → md_S
  | 0 => μ
  | i + 1 => md_w (md_wl μ i) (μ.bk i) (μ.bv i) (μ.bd i)
theorem md_wl_p (μ : md_S) (i : Nat) : (md_wl μ i).n = μ.n + i ∧ (md_wl μ i).sq = μ.sq + i ∧ (md_wl μ i).bk = μ.bk ∧ (md_wl μ i).bv = μ.bv ∧ (md_wl μ i).bd = μ.bd := by
  induction i with
  | zero => exact ⟨rfl, rfl, rfl, rfl, rfl⟩
  | succ i ih =>
    obtain ⟨h1, h2, h3, h4, h5⟩ := ih
    refine ⟨?_, ?_, h3, h4, h5⟩
    · show (md_wl μ i).n + 1 = _
      omega
    · show (md_wl μ i).sq + 1 = _
      omega
theorem md_wl_ok0 {μ : md_S} (h : md_ok μ) : ∀ (i : Nat), μ.n + i ≤ 640 → μ.sq + i < 2 ^ 30 → md_ok (md_wl μ i) := by
  intro i
  induction i with
  | zero => intro _ _; exact h
  | succ i ih =>
    intro h1 h2
    have hp := md_wl_p μ i
    exact md_w_ok (ih (by omega) (by omega)) (h.2.2.2.2.2.2.2.2.2.1 i) (by rw [hp.1]; omega) (by rw [hp.2.1]; omega)
theorem md_wl_ok {μ : md_S} (h : md_ok μ) (i : Nat) (h1 : μ.n + i ≤ 640) (h2 : μ.sq + i < 2 ^ 30) : md_ok ((md_wl μ i).ba' none) := by
  obtain ⟨ok1, ok2, ok3, ok4, ok5, ok6, ok7, ok8, ok9, ok10, ok11⟩ := md_wl_ok0 h i h1 h2
  exact ⟨ok1, ok2, ok3, ok4, ok5, ok6, ok7, ok8, (fun b (hb : (none : Option Nat) = some b) => by cases hb), ok10, ok11⟩
theorem sn_ij {i j : Nat} (h : i ≤ j) (h1 : i < j → False) : i = j := by
  rcases Nat.lt_or_ge i j with h8 | h8
  · exact (h1 h8).elim
  · omega
abbrev rm_M_end : Room := { frames := 1, cells := 0, slots := 0, locals := 24 }
set_option maxHeartbeats 4000000 in
set_option maxRecDepth 100000 in
theorem c_M_endF (l : Launch) (G : dk_G) (w : dk_H) (h : Nat) (D : md_D) (μ : md_S) (hm : md_at G w h D μ) (hmo : md_ok μ) (b : Bool) (hba : μ.ba = none) : dk_Mi l my_M_end (wd_c my_M_end mb_M_end 4 (some .int)) rm_M_end G w [.ref h, .int (bo_i b)] (fun r w1 => r = nI 0 ∧ md_at G w1 h D (μ.er' 1) ∧ dk_fr md_T w w1) 0 0 := by
  obtain ⟨ok1, ok2, ok3, ok4, ok5, ok6, ok7, ok8, ok9, ok10, ok11⟩ := id hmo
  refine dk_enter (lv := [(0, .ref h), (1, .int (bo_i b))]) (by decide) (Nat.le_of_ble_eq_true rfl) rfl (fun p e s m args below meth c ls Q hQ C hP hS hl => ?_)
  obtain ⟨hx, hb, hr, hml, hlocks, hown, hnm, hts, hE⟩ := C
  have hK := hE.1
  have hN := hE.2.1
  have hh_2773 : w h = some (100, .inr (cx_M, [.int (nI μ.er), .int (nI μ.n), .int (nI μ.sq), .int (nI μ.sf), .int (nI μ.rs), .int (rI μ.ba), .int (nI μ.pr), .int (nI μ.mi), .ref D.kf, .ref D.nf, .ref D.rf, .ref D.lf, .ref D.sv, .ref D.bk, .ref D.od, .ref D.vf, .ref D.bv, .ref D.df, .ref D.ss, .ref D.bd, .ref D.ks, .ref D.bt])) := hm.o
  refine lv_aload_n hx hb de_M_end_0 rfl (lv_at hl 0 rfl) ?_
  refine lv_iconst (v := nI 0) hx hb de_M_end_1 (by decide) ?_
  refine dk_put (a := h) (v := .int (nI 0)) (ty := .int) (C := kn_M) (T := kt_M) (N := 22) hx hb hts ki_M ky_M kk_M kd_M hown hK hP hS hh_2773 rfl 0 (by decide) (hts _ wi_714) (fun _ h9 => h9) rfl (by decide +kernel) rfl rfl (Nat.le_of_ble_eq_true rfl) de_M_end_2 (fun H locs w_2774 hw_2775 hP hS => ?_)
  have h_2776 : w_2774 h = some (100, .inr (cx_M, [.int (nI 0), .int (nI μ.n), .int (nI μ.sq), .int (nI μ.sf), .int (nI μ.rs), .int (rI μ.ba), .int (nI μ.pr), .int (nI μ.mi), .ref D.kf, .ref D.nf, .ref D.rf, .ref D.lf, .ref D.sv, .ref D.bk, .ref D.od, .ref D.vf, .ref D.bv, .ref D.df, .ref D.ss, .ref D.bd, .ref D.ks, .ref D.bt])) := dk_here hw_2775
  have h_2777 : w_2774 D.kf = some (101, dk_ci G 700 (fun i9 => nI (μ.kf i9))) := dk_keep hw_2775 hh_2773 hm.kf (by decide)
  have h_2778 : w_2774 D.nf = some (102, dk_ci G 700 (fun i9 => nI (μ.nf i9))) := dk_keep hw_2775 hh_2773 hm.nf (by decide)
  have h_2779 : w_2774 D.rf = some (103, dk_ci G 700 (fun i9 => rI (μ.rf i9))) := dk_keep hw_2775 hh_2773 hm.rf (by decide)
  have h_2780 : w_2774 D.lf = some (104, dk_ci G 5000 (fun i9 => rI (μ.lf i9))) := dk_keep hw_2775 hh_2773 hm.lf (by decide)
  have h_2781 : w_2774 D.sv = some (105, dk_ci G 6 (fun i9 => nI (μ.sv i9))) := dk_keep hw_2775 hh_2773 hm.sv (by decide)
  have h_2782 : w_2774 D.bk = some (106, dk_ci G 16 (fun i9 => nI (μ.bk i9))) := dk_keep hw_2775 hh_2773 hm.bk (by decide)
  have h_2783 : w_2774 D.od = some (107, dk_ci G 700 (fun i9 => nI (μ.od i9))) := dk_keep hw_2775 hh_2773 hm.od (by decide)
  have h_2784 : w_2774 D.vf = some (108, dk_cl G 700 (fun i9 => μ.vf i9)) := dk_keep hw_2775 hh_2773 hm.vf (by decide)
  have h_2785 : w_2774 D.bv = some (109, dk_cl G 16 (fun i9 => μ.bv i9)) := dk_keep hw_2775 hh_2773 hm.bv (by decide)
  have h_2786 : w_2774 D.df = some (110, dk_cz G 700 (fun i9 => bo_i (μ.df i9))) := dk_keep hw_2775 hh_2773 hm.df (by decide)
  have h_2787 : w_2774 D.ss = some (111, dk_cz G 6 (fun i9 => bo_i (μ.ss i9))) := dk_keep hw_2775 hh_2773 hm.ss (by decide)
  have h_2788 : w_2774 D.bd = some (112, dk_cz G 16 (fun i9 => bo_i (μ.bd i9))) := dk_keep hw_2775 hh_2773 hm.bd (by decide)
  have h_2789 : w_2774 D.ks = some (113, dk_cz G 700 (fun i9 => bo_i (μ.ks i9))) := dk_keep hw_2775 hh_2773 hm.ks (by decide)
  have h_2790 : w_2774 D.bt = some (114, dk_cz G 6000 (fun i9 => bo_i (μ.bt i9))) := dk_keep hw_2775 hh_2773 hm.bt (by decide)
  have hm_2791 : md_at G w_2774 h D (μ.er' 0) := ⟨h_2776, h_2777, h_2778, h_2779, h_2780, h_2781, h_2782, h_2783, h_2784, h_2785, h_2786, h_2787, h_2788, h_2789, h_2790⟩
  have hh_2792 : w_2774 h = some (100, .inr (cx_M, [.int (nI 0), .int (nI μ.n), .int (nI μ.sq), .int (nI μ.sf), .int (nI μ.rs), .int (rI μ.ba), .int (nI μ.pr), .int (nI μ.mi), .ref D.kf, .ref D.nf, .ref D.rf, .ref D.lf, .ref D.sv, .ref D.bk, .ref D.od, .ref D.vf, .ref D.bv, .ref D.df, .ref D.ss, .ref D.bd, .ref D.ks, .ref D.bt])) := hm_2791.o
  have ha_2793 : w_2774 D.kf = some (101, dk_ci G 700 (fun i9 => nI (μ.kf i9))) := hm_2791.kf
  have ha_2794 : w_2774 D.nf = some (102, dk_ci G 700 (fun i9 => nI (μ.nf i9))) := hm_2791.nf
  have ha_2795 : w_2774 D.rf = some (103, dk_ci G 700 (fun i9 => rI (μ.rf i9))) := hm_2791.rf
  have ha_2796 : w_2774 D.lf = some (104, dk_ci G 5000 (fun i9 => rI (μ.lf i9))) := hm_2791.lf
  have ha_2797 : w_2774 D.sv = some (105, dk_ci G 6 (fun i9 => nI (μ.sv i9))) := hm_2791.sv
  have ha_2798 : w_2774 D.bk = some (106, dk_ci G 16 (fun i9 => nI (μ.bk i9))) := hm_2791.bk
  have ha_2799 : w_2774 D.od = some (107, dk_ci G 700 (fun i9 => nI (μ.od i9))) := hm_2791.od
  have ha_2800 : w_2774 D.vf = some (108, dk_cl G 700 (fun i9 => μ.vf i9)) := hm_2791.vf
  have ha_2801 : w_2774 D.bv = some (109, dk_cl G 16 (fun i9 => μ.bv i9)) := hm_2791.bv
  have ha_2802 : w_2774 D.df = some (110, dk_cz G 700 (fun i9 => bo_i (μ.df i9))) := hm_2791.df
  have ha_2803 : w_2774 D.ss = some (111, dk_cz G 6 (fun i9 => bo_i (μ.ss i9))) := hm_2791.ss
  have ha_2804 : w_2774 D.bd = some (112, dk_cz G 16 (fun i9 => bo_i (μ.bd i9))) := hm_2791.bd
  have ha_2805 : w_2774 D.ks = some (113, dk_cz G 700 (fun i9 => bo_i (μ.ks i9))) := hm_2791.ks
  have ha_2806 : w_2774 D.bt = some (114, dk_cz G 6000 (fun i9 => bo_i (μ.bt i9))) := hm_2791.bt
  refine lv_aload_n hx hb de_M_end_5 rfl (lv_at hl 0 rfl) ?_
  refine lv_aload_n hx hb de_M_end_6 rfl (lv_at hl 0 rfl) ?_
  refine dk_get (a := h) (v := .int (rI μ.ba)) (C := kn_M) (T := kt_M) (N := 22) hx hb hts ki_M hown hK hP hh_2792 rfl 5 (by decide) (hts _ wi_719) (fun _ h9 => h9) rfl de_M_end_7 ?_
  rw [show rI μ.ba = -1 from by rw [hba]; rfl]
  refine lv_if_ge (tgt := 17) hx hb de_M_end_10 (by decide) (fun c_2807 => ?_) (fun c_2807 => ?_)
  · exact absurd c_2807 (by decide)
  · refine lv_iconst (v := nI 1) hx hb de_M_end_13 (by decide) ?_
    refine lv_goto (tgt := 18) hx hb de_M_end_14 (by decide) ?_
    refine lv_iconst (v := nI 1) hx hb de_M_end_18 (by decide) ?_
    rw [show (nI 1) = bo_i true from (by decide)]
    refine dk_calli (va_runV (As := [.int (bo_i true), .int (nI 1)]) (rest := []) ⟨hx, hb, hml, hown, hts⟩ (c_M_fails l G w_2774 h D (μ.er' 0) hm_2791 true 1 (by decide) (by decide) (show (0 : Nat) < 3 by decide)) (cwV 2 hts (wd_gV (C := "RunKeeperModel") wi_799 wi_796 wi_798 (wd_p (q := (⟨"RunKeeperModel", "fails", "(ZI)Z"⟩, 22)) (by decide +kernel) (by decide +kernel)) wi_8) rfl rfl rfl (by decide +kernel) ⟨Nat.le_of_ble_eq_true rfl, Nat.le_of_ble_eq_true rfl⟩) (dk_preV (kn_M, kt_M, 22) hE hP hS hh_2792 rfl) rfl rfl hl.1 rfl (lv_room (Nat.le_of_ble_eq_true rfl)) de_M_end_19 ⟨(by first | exact Nat.le_of_ble_eq_true rfl | (simp only [Nat.zero_add]; omega) | omega), (by first | exact Nat.le_of_ble_eq_true rfl | (simp only [Nat.zero_add]; omega) | omega)⟩) hS (fun r_2810 w_2808 H locs hq_2809 hP hS => ?_)
    obtain ⟨hr_2811, hq_2812, hf_2813⟩ := hq_2809
    subst hr_2811
    have hm_2814 : md_at G w_2808 h D ((μ.er' 0).er' 1) := hq_2812
    have hh_2815 : w_2808 h = some (100, .inr (cx_M, [.int (nI 1), .int (nI μ.n), .int (nI μ.sq), .int (nI μ.sf), .int (nI μ.rs), .int (rI μ.ba), .int (nI μ.pr), .int (nI μ.mi), .ref D.kf, .ref D.nf, .ref D.rf, .ref D.lf, .ref D.sv, .ref D.bk, .ref D.od, .ref D.vf, .ref D.bv, .ref D.df, .ref D.ss, .ref D.bd, .ref D.ks, .ref D.bt])) := hm_2814.o
    have ha_2816 : w_2808 D.kf = some (101, dk_ci G 700 (fun i9 => nI (μ.kf i9))) := hm_2814.kf
    have ha_2817 : w_2808 D.nf = some (102, dk_ci G 700 (fun i9 => nI (μ.nf i9))) := hm_2814.nf
    have ha_2818 : w_2808 D.rf = some (103, dk_ci G 700 (fun i9 => rI (μ.rf i9))) := hm_2814.rf
    have ha_2819 : w_2808 D.lf = some (104, dk_ci G 5000 (fun i9 => rI (μ.lf i9))) := hm_2814.lf
    have ha_2820 : w_2808 D.sv = some (105, dk_ci G 6 (fun i9 => nI (μ.sv i9))) := hm_2814.sv
    have ha_2821 : w_2808 D.bk = some (106, dk_ci G 16 (fun i9 => nI (μ.bk i9))) := hm_2814.bk
    have ha_2822 : w_2808 D.od = some (107, dk_ci G 700 (fun i9 => nI (μ.od i9))) := hm_2814.od
    have ha_2823 : w_2808 D.vf = some (108, dk_cl G 700 (fun i9 => μ.vf i9)) := hm_2814.vf
    have ha_2824 : w_2808 D.bv = some (109, dk_cl G 16 (fun i9 => μ.bv i9)) := hm_2814.bv
    have ha_2825 : w_2808 D.df = some (110, dk_cz G 700 (fun i9 => bo_i (μ.df i9))) := hm_2814.df
    have ha_2826 : w_2808 D.ss = some (111, dk_cz G 6 (fun i9 => bo_i (μ.ss i9))) := hm_2814.ss
    have ha_2827 : w_2808 D.bd = some (112, dk_cz G 16 (fun i9 => bo_i (μ.bd i9))) := hm_2814.bd
    have ha_2828 : w_2808 D.ks = some (113, dk_cz G 700 (fun i9 => bo_i (μ.ks i9))) := hm_2814.ks
    have ha_2829 : w_2808 D.bt = some (114, dk_cz G 6000 (fun i9 => bo_i (μ.bt i9))) := hm_2814.bt
    refine bo_if_ne (b := true) (tgt := 57) hx hb de_M_end_22 (by decide) (fun c_2830 => ?_) (fun c_2830 => ?_)
    · refine lv_iconst (v := nI 0) hx hb de_M_end_57 (by decide) ?_
      exact dk_iret hQ hx hb hr hlocks hP hS (Nat.le_refl _) (Nat.le_refl _) (⟨rfl, hm_2814, ((dk_fr.rf).tr ((dk_fr.up (T := md_T) hh_2773 (by unfold md_T; omega)).eq hw_2775)).tr (hf_2813)⟩) de_M_end_58
    · exact absurd c_2830 (by decide)
set_option maxHeartbeats 4000000 in
set_option maxRecDepth 100000 in
theorem c_M_endX (l : Launch) (G : dk_G) (w : dk_H) (h : Nat) (D : md_D) (μ : md_S) (hm : md_at G w h D μ) (hmo : md_ok μ) (b9 : Nat) (hba : μ.ba = some b9) (hb9 : b9 ≤ 16) (hn : 600 < μ.n + b9) : dk_Mi l my_M_end (wd_c my_M_end mb_M_end 4 (some .int)) rm_M_end G w [.ref h, .int (bo_i true)] (fun r w1 => r = nI 0 ∧ md_at G w1 h D (μ.er' 2) ∧ dk_fr md_T w w1) 0 0 := by
  obtain ⟨ok1, ok2, ok3, ok4, ok5, ok6, ok7, ok8, ok9, ok10, ok11⟩ := id hmo
  refine dk_enter (lv := [(0, .ref h), (1, .int (bo_i true))]) (by decide) (Nat.le_of_ble_eq_true rfl) rfl (fun p e s m args below meth c ls Q hQ C hP hS hl => ?_)
  obtain ⟨hx, hb, hr, hml, hlocks, hown, hnm, hts, hE⟩ := C
  have hK := hE.1
  have hN := hE.2.1
  have hh_2890 : w h = some (100, .inr (cx_M, [.int (nI μ.er), .int (nI μ.n), .int (nI μ.sq), .int (nI μ.sf), .int (nI μ.rs), .int (rI μ.ba), .int (nI μ.pr), .int (nI μ.mi), .ref D.kf, .ref D.nf, .ref D.rf, .ref D.lf, .ref D.sv, .ref D.bk, .ref D.od, .ref D.vf, .ref D.bv, .ref D.df, .ref D.ss, .ref D.bd, .ref D.ks, .ref D.bt])) := hm.o
  refine lv_aload_n hx hb de_M_end_0 rfl (lv_at hl 0 rfl) ?_
  refine lv_iconst (v := nI 0) hx hb de_M_end_1 (by decide) ?_
  refine dk_put (a := h) (v := .int (nI 0)) (ty := .int) (C := kn_M) (T := kt_M) (N := 22) hx hb hts ki_M ky_M kk_M kd_M hown hK hP hS hh_2890 rfl 0 (by decide) (hts _ wi_714) (fun _ h9 => h9) rfl (by decide +kernel) rfl rfl (Nat.le_of_ble_eq_true rfl) de_M_end_2 (fun H locs w_2891 hw_2892 hP hS => ?_)
  have h_2893 : w_2891 h = some (100, .inr (cx_M, [.int (nI 0), .int (nI μ.n), .int (nI μ.sq), .int (nI μ.sf), .int (nI μ.rs), .int (rI μ.ba), .int (nI μ.pr), .int (nI μ.mi), .ref D.kf, .ref D.nf, .ref D.rf, .ref D.lf, .ref D.sv, .ref D.bk, .ref D.od, .ref D.vf, .ref D.bv, .ref D.df, .ref D.ss, .ref D.bd, .ref D.ks, .ref D.bt])) := dk_here hw_2892
  have h_2894 : w_2891 D.kf = some (101, dk_ci G 700 (fun i9 => nI (μ.kf i9))) := dk_keep hw_2892 hh_2890 hm.kf (by decide)
  have h_2895 : w_2891 D.nf = some (102, dk_ci G 700 (fun i9 => nI (μ.nf i9))) := dk_keep hw_2892 hh_2890 hm.nf (by decide)
  have h_2896 : w_2891 D.rf = some (103, dk_ci G 700 (fun i9 => rI (μ.rf i9))) := dk_keep hw_2892 hh_2890 hm.rf (by decide)
  have h_2897 : w_2891 D.lf = some (104, dk_ci G 5000 (fun i9 => rI (μ.lf i9))) := dk_keep hw_2892 hh_2890 hm.lf (by decide)
  have h_2898 : w_2891 D.sv = some (105, dk_ci G 6 (fun i9 => nI (μ.sv i9))) := dk_keep hw_2892 hh_2890 hm.sv (by decide)
  have h_2899 : w_2891 D.bk = some (106, dk_ci G 16 (fun i9 => nI (μ.bk i9))) := dk_keep hw_2892 hh_2890 hm.bk (by decide)
  have h_2900 : w_2891 D.od = some (107, dk_ci G 700 (fun i9 => nI (μ.od i9))) := dk_keep hw_2892 hh_2890 hm.od (by decide)
  have h_2901 : w_2891 D.vf = some (108, dk_cl G 700 (fun i9 => μ.vf i9)) := dk_keep hw_2892 hh_2890 hm.vf (by decide)
  have h_2902 : w_2891 D.bv = some (109, dk_cl G 16 (fun i9 => μ.bv i9)) := dk_keep hw_2892 hh_2890 hm.bv (by decide)
  have h_2903 : w_2891 D.df = some (110, dk_cz G 700 (fun i9 => bo_i (μ.df i9))) := dk_keep hw_2892 hh_2890 hm.df (by decide)
  have h_2904 : w_2891 D.ss = some (111, dk_cz G 6 (fun i9 => bo_i (μ.ss i9))) := dk_keep hw_2892 hh_2890 hm.ss (by decide)
  have h_2905 : w_2891 D.bd = some (112, dk_cz G 16 (fun i9 => bo_i (μ.bd i9))) := dk_keep hw_2892 hh_2890 hm.bd (by decide)
  have h_2906 : w_2891 D.ks = some (113, dk_cz G 700 (fun i9 => bo_i (μ.ks i9))) := dk_keep hw_2892 hh_2890 hm.ks (by decide)
  have h_2907 : w_2891 D.bt = some (114, dk_cz G 6000 (fun i9 => bo_i (μ.bt i9))) := dk_keep hw_2892 hh_2890 hm.bt (by decide)
  have hm_2908 : md_at G w_2891 h D (μ.er' 0) := ⟨h_2893, h_2894, h_2895, h_2896, h_2897, h_2898, h_2899, h_2900, h_2901, h_2902, h_2903, h_2904, h_2905, h_2906, h_2907⟩
  have hh_2909 : w_2891 h = some (100, .inr (cx_M, [.int (nI 0), .int (nI μ.n), .int (nI μ.sq), .int (nI μ.sf), .int (nI μ.rs), .int (rI μ.ba), .int (nI μ.pr), .int (nI μ.mi), .ref D.kf, .ref D.nf, .ref D.rf, .ref D.lf, .ref D.sv, .ref D.bk, .ref D.od, .ref D.vf, .ref D.bv, .ref D.df, .ref D.ss, .ref D.bd, .ref D.ks, .ref D.bt])) := hm_2908.o
  have ha_2910 : w_2891 D.kf = some (101, dk_ci G 700 (fun i9 => nI (μ.kf i9))) := hm_2908.kf
  have ha_2911 : w_2891 D.nf = some (102, dk_ci G 700 (fun i9 => nI (μ.nf i9))) := hm_2908.nf
  have ha_2912 : w_2891 D.rf = some (103, dk_ci G 700 (fun i9 => rI (μ.rf i9))) := hm_2908.rf
  have ha_2913 : w_2891 D.lf = some (104, dk_ci G 5000 (fun i9 => rI (μ.lf i9))) := hm_2908.lf
  have ha_2914 : w_2891 D.sv = some (105, dk_ci G 6 (fun i9 => nI (μ.sv i9))) := hm_2908.sv
  have ha_2915 : w_2891 D.bk = some (106, dk_ci G 16 (fun i9 => nI (μ.bk i9))) := hm_2908.bk
  have ha_2916 : w_2891 D.od = some (107, dk_ci G 700 (fun i9 => nI (μ.od i9))) := hm_2908.od
  have ha_2917 : w_2891 D.vf = some (108, dk_cl G 700 (fun i9 => μ.vf i9)) := hm_2908.vf
  have ha_2918 : w_2891 D.bv = some (109, dk_cl G 16 (fun i9 => μ.bv i9)) := hm_2908.bv
  have ha_2919 : w_2891 D.df = some (110, dk_cz G 700 (fun i9 => bo_i (μ.df i9))) := hm_2908.df
  have ha_2920 : w_2891 D.ss = some (111, dk_cz G 6 (fun i9 => bo_i (μ.ss i9))) := hm_2908.ss
  have ha_2921 : w_2891 D.bd = some (112, dk_cz G 16 (fun i9 => bo_i (μ.bd i9))) := hm_2908.bd
  have ha_2922 : w_2891 D.ks = some (113, dk_cz G 700 (fun i9 => bo_i (μ.ks i9))) := hm_2908.ks
  have ha_2923 : w_2891 D.bt = some (114, dk_cz G 6000 (fun i9 => bo_i (μ.bt i9))) := hm_2908.bt
  refine lv_aload_n hx hb de_M_end_5 rfl (lv_at hl 0 rfl) ?_
  refine lv_aload_n hx hb de_M_end_6 rfl (lv_at hl 0 rfl) ?_
  refine dk_get (a := h) (v := .int (rI μ.ba)) (C := kn_M) (T := kt_M) (N := 22) hx hb hts ki_M hown hK hP hh_2909 rfl 5 (by decide) (hts _ wi_719) (fun _ h9 => h9) rfl de_M_end_7 ?_
  rw [show rI μ.ba = nI b9 from by rw [hba]; rfl]
  refine nx_if_ge (a := b9) (tgt := 17) hx hb (by omega) de_M_end_10 (by decide) ?_
  refine lv_iconst (v := nI 0) hx hb de_M_end_17 (by decide) ?_
  refine lv_iconst (v := nI 1) hx hb de_M_end_18 (by decide) ?_
  rw [show (nI 0) = bo_i false from (by decide)]
  refine dk_calli (va_runV (As := [.int (bo_i false), .int (nI 1)]) (rest := []) ⟨hx, hb, hml, hown, hts⟩ (c_M_fails l G w_2891 h D (μ.er' 0) hm_2908 false 1 (by decide) (by decide) (show (0 : Nat) < 3 by decide)) (cwV 2 hts (wd_gV (C := "RunKeeperModel") wi_799 wi_796 wi_798 (wd_p (q := (⟨"RunKeeperModel", "fails", "(ZI)Z"⟩, 22)) (by decide +kernel) (by decide +kernel)) wi_8) rfl rfl rfl (by decide +kernel) ⟨Nat.le_of_ble_eq_true rfl, Nat.le_of_ble_eq_true rfl⟩) (dk_preV (kn_M, kt_M, 22) hE hP hS hh_2909 rfl) rfl rfl hl.1 rfl (lv_room (Nat.le_of_ble_eq_true rfl)) de_M_end_19 ⟨(by first | exact Nat.le_of_ble_eq_true rfl | (simp only [Nat.zero_add]; omega) | omega), (by first | exact Nat.le_of_ble_eq_true rfl | (simp only [Nat.zero_add]; omega) | omega)⟩) hS (fun r_2927 w_2925 H locs hq_2926 hP hS => ?_)
  obtain ⟨hr_2928, hq_2929, hf_2930⟩ := hq_2926
  subst hr_2928
  have hm_2931 : md_at G w_2925 h D ((μ.er' 0).er' 0) := hq_2929
  have hh_2932 : w_2925 h = some (100, .inr (cx_M, [.int (nI 0), .int (nI μ.n), .int (nI μ.sq), .int (nI μ.sf), .int (nI μ.rs), .int (rI μ.ba), .int (nI μ.pr), .int (nI μ.mi), .ref D.kf, .ref D.nf, .ref D.rf, .ref D.lf, .ref D.sv, .ref D.bk, .ref D.od, .ref D.vf, .ref D.bv, .ref D.df, .ref D.ss, .ref D.bd, .ref D.ks, .ref D.bt])) := hm_2931.o
  have ha_2933 : w_2925 D.kf = some (101, dk_ci G 700 (fun i9 => nI (μ.kf i9))) := hm_2931.kf
  have ha_2934 : w_2925 D.nf = some (102, dk_ci G 700 (fun i9 => nI (μ.nf i9))) := hm_2931.nf
  have ha_2935 : w_2925 D.rf = some (103, dk_ci G 700 (fun i9 => rI (μ.rf i9))) := hm_2931.rf
  have ha_2936 : w_2925 D.lf = some (104, dk_ci G 5000 (fun i9 => rI (μ.lf i9))) := hm_2931.lf
  have ha_2937 : w_2925 D.sv = some (105, dk_ci G 6 (fun i9 => nI (μ.sv i9))) := hm_2931.sv
  have ha_2938 : w_2925 D.bk = some (106, dk_ci G 16 (fun i9 => nI (μ.bk i9))) := hm_2931.bk
  have ha_2939 : w_2925 D.od = some (107, dk_ci G 700 (fun i9 => nI (μ.od i9))) := hm_2931.od
  have ha_2940 : w_2925 D.vf = some (108, dk_cl G 700 (fun i9 => μ.vf i9)) := hm_2931.vf
  have ha_2941 : w_2925 D.bv = some (109, dk_cl G 16 (fun i9 => μ.bv i9)) := hm_2931.bv
  have ha_2942 : w_2925 D.df = some (110, dk_cz G 700 (fun i9 => bo_i (μ.df i9))) := hm_2931.df
  have ha_2943 : w_2925 D.ss = some (111, dk_cz G 6 (fun i9 => bo_i (μ.ss i9))) := hm_2931.ss
  have ha_2944 : w_2925 D.bd = some (112, dk_cz G 16 (fun i9 => bo_i (μ.bd i9))) := hm_2931.bd
  have ha_2945 : w_2925 D.ks = some (113, dk_cz G 700 (fun i9 => bo_i (μ.ks i9))) := hm_2931.ks
  have ha_2946 : w_2925 D.bt = some (114, dk_cz G 6000 (fun i9 => bo_i (μ.bt i9))) := hm_2931.bt
  refine bo_if_ne (b := false) (tgt := 57) hx hb de_M_end_22 (by decide) (fun c_2947 => ?_) (fun c_2947 => ?_)
  · exact absurd c_2947 (by decide)
  · refine lv_aload_n hx hb de_M_end_25 rfl (lv_at hl 0 rfl) ?_
    refine lv_iload_n hx hb de_M_end_26 rfl (lv_at hl 1 rfl) ?_
    refine bo_if_eq (b := true) (tgt := 49) hx hb de_M_end_27 (by decide) (fun c_2948 => ?_) (fun c_2948 => ?_)
    · exact absurd c_2948 (by decide)
    · refine lv_aload_n hx hb de_M_end_30 rfl (lv_at hl 0 rfl) ?_
      refine dk_get (a := h) (v := .int (nI μ.n)) (C := kn_M) (T := kt_M) (N := 22) hx hb hts ki_M hown hK hP hh_2932 rfl 1 (by decide) (hts _ wi_715) (fun _ h9 => h9) rfl de_M_end_31 ?_
      refine lv_aload_n hx hb de_M_end_34 rfl (lv_at hl 0 rfl) ?_
      refine dk_get (a := h) (v := .int (rI μ.ba)) (C := kn_M) (T := kt_M) (N := 22) hx hb hts ki_M hown hK hP hh_2932 rfl 5 (by decide) (hts _ wi_719) (fun _ h9 => h9) rfl de_M_end_35 ?_
      rw [show rI μ.ba = nI b9 from by rw [hba]; rfl]
      refine nx_iadd (a := μ.n) (b := b9) hx hb de_M_end_38 ?_
      refine lv_sipush (v := nI 600) hx hb de_M_end_39 (by decide) ?_
      refine nx_icmp_le (a := μ.n + b9) (b := 600) (tgt := 49) hx hb (by omega) (by omega) de_M_end_42 (by decide) (fun c_2949 => ?_) (fun c_2949 => ?_)
      · exact absurd c_2949 (by omega)
      · refine lv_iconst (v := nI 1) hx hb de_M_end_45 (by decide) ?_
        refine lv_goto (tgt := 50) hx hb de_M_end_46 (by decide) ?_
        refine lv_iconst (v := nI 2) hx hb de_M_end_50 (by decide) ?_
        rw [show (nI 1) = bo_i true from (by decide)]
        refine dk_calli (va_runV (As := [.int (bo_i true), .int (nI 2)]) (rest := []) ⟨hx, hb, hml, hown, hts⟩ (c_M_fails l G w_2925 h D ((μ.er' 0).er' 0) hm_2931 true 2 (by decide) (by decide) (show (0 : Nat) < 3 by decide)) (cwV 2 hts (wd_gV (C := "RunKeeperModel") wi_799 wi_796 wi_798 (wd_p (q := (⟨"RunKeeperModel", "fails", "(ZI)Z"⟩, 22)) (by decide +kernel) (by decide +kernel)) wi_8) rfl rfl rfl (by decide +kernel) ⟨Nat.le_of_ble_eq_true rfl, Nat.le_of_ble_eq_true rfl⟩) (dk_preV (kn_M, kt_M, 22) hE hP hS hh_2932 rfl) rfl rfl hl.1 rfl (lv_room (Nat.le_of_ble_eq_true rfl)) de_M_end_51 ⟨(by first | exact Nat.le_of_ble_eq_true rfl | (simp only [Nat.zero_add]; omega) | omega), (by first | exact Nat.le_of_ble_eq_true rfl | (simp only [Nat.zero_add]; omega) | omega)⟩) hS (fun r_2952 w_2950 H locs hq_2951 hP hS => ?_)
        obtain ⟨hr_2953, hq_2954, hf_2955⟩ := hq_2951
        subst hr_2953
        have hm_2956 : md_at G w_2950 h D (((μ.er' 0).er' 0).er' 2) := hq_2954
        have hh_2957 : w_2950 h = some (100, .inr (cx_M, [.int (nI 2), .int (nI μ.n), .int (nI μ.sq), .int (nI μ.sf), .int (nI μ.rs), .int (rI μ.ba), .int (nI μ.pr), .int (nI μ.mi), .ref D.kf, .ref D.nf, .ref D.rf, .ref D.lf, .ref D.sv, .ref D.bk, .ref D.od, .ref D.vf, .ref D.bv, .ref D.df, .ref D.ss, .ref D.bd, .ref D.ks, .ref D.bt])) := hm_2956.o
        have ha_2958 : w_2950 D.kf = some (101, dk_ci G 700 (fun i9 => nI (μ.kf i9))) := hm_2956.kf
        have ha_2959 : w_2950 D.nf = some (102, dk_ci G 700 (fun i9 => nI (μ.nf i9))) := hm_2956.nf
        have ha_2960 : w_2950 D.rf = some (103, dk_ci G 700 (fun i9 => rI (μ.rf i9))) := hm_2956.rf
        have ha_2961 : w_2950 D.lf = some (104, dk_ci G 5000 (fun i9 => rI (μ.lf i9))) := hm_2956.lf
        have ha_2962 : w_2950 D.sv = some (105, dk_ci G 6 (fun i9 => nI (μ.sv i9))) := hm_2956.sv
        have ha_2963 : w_2950 D.bk = some (106, dk_ci G 16 (fun i9 => nI (μ.bk i9))) := hm_2956.bk
        have ha_2964 : w_2950 D.od = some (107, dk_ci G 700 (fun i9 => nI (μ.od i9))) := hm_2956.od
        have ha_2965 : w_2950 D.vf = some (108, dk_cl G 700 (fun i9 => μ.vf i9)) := hm_2956.vf
        have ha_2966 : w_2950 D.bv = some (109, dk_cl G 16 (fun i9 => μ.bv i9)) := hm_2956.bv
        have ha_2967 : w_2950 D.df = some (110, dk_cz G 700 (fun i9 => bo_i (μ.df i9))) := hm_2956.df
        have ha_2968 : w_2950 D.ss = some (111, dk_cz G 6 (fun i9 => bo_i (μ.ss i9))) := hm_2956.ss
        have ha_2969 : w_2950 D.bd = some (112, dk_cz G 16 (fun i9 => bo_i (μ.bd i9))) := hm_2956.bd
        have ha_2970 : w_2950 D.ks = some (113, dk_cz G 700 (fun i9 => bo_i (μ.ks i9))) := hm_2956.ks
        have ha_2971 : w_2950 D.bt = some (114, dk_cz G 6000 (fun i9 => bo_i (μ.bt i9))) := hm_2956.bt
        refine bo_if_eq (b := true) (tgt := 59) hx hb de_M_end_54 (by decide) (fun c_2972 => ?_) (fun c_2972 => ?_)
        · exact absurd c_2972 (by decide)
        · refine lv_iconst (v := nI 0) hx hb de_M_end_57 (by decide) ?_
          exact dk_iret hQ hx hb hr hlocks hP hS (Nat.le_refl _) (Nat.le_refl _) (⟨rfl, hm_2956, (((dk_fr.rf).tr ((dk_fr.up (T := md_T) hh_2890 (by unfold md_T; omega)).eq hw_2892)).tr (hf_2930)).tr (hf_2955)⟩) de_M_end_58
set_option maxHeartbeats 4000000 in
set_option maxRecDepth 100000 in
theorem c_M_endC (l : Launch) (G : dk_G) (w : dk_H) (h : Nat) (D : md_D) (μ : md_S) (hm : md_at G w h D μ) (hmo : md_ok μ) (b9 : Nat) (hba : μ.ba = some b9) (hb9 : b9 ≤ 16) (hn : μ.n + b9 ≤ 600) (hs : μ.sq + b9 < 2 ^ 30) : dk_Mi l my_M_end (wd_c my_M_end mb_M_end 4 (some .int)) rm_M_end G w [.ref h, .int (bo_i true)] (fun r w1 => r = nI b9 ∧ md_at G w1 h D (md_ff ((md_wl (μ.er' 0) b9).ba' none)) ∧ dk_fr md_T w w1) 0 0 := by
  obtain ⟨ok1, ok2, ok3, ok4, ok5, ok6, ok7, ok8, ok9, ok10, ok11⟩ := id hmo
  refine dk_enter (lv := [(0, .ref h), (1, .int (bo_i true))]) (by decide) (Nat.le_of_ble_eq_true rfl) rfl (fun p e s m args below meth c ls Q hQ C hP hS hl => ?_)
  obtain ⟨hx, hb, hr, hml, hlocks, hown, hnm, hts, hE⟩ := C
  have hK := hE.1
  have hN := hE.2.1
  have hh_2973 : w h = some (100, .inr (cx_M, [.int (nI μ.er), .int (nI μ.n), .int (nI μ.sq), .int (nI μ.sf), .int (nI μ.rs), .int (rI μ.ba), .int (nI μ.pr), .int (nI μ.mi), .ref D.kf, .ref D.nf, .ref D.rf, .ref D.lf, .ref D.sv, .ref D.bk, .ref D.od, .ref D.vf, .ref D.bv, .ref D.df, .ref D.ss, .ref D.bd, .ref D.ks, .ref D.bt])) := hm.o
  refine lv_aload_n hx hb de_M_end_0 rfl (lv_at hl 0 rfl) ?_
  refine lv_iconst (v := nI 0) hx hb de_M_end_1 (by decide) ?_
  refine dk_put (a := h) (v := .int (nI 0)) (ty := .int) (C := kn_M) (T := kt_M) (N := 22) hx hb hts ki_M ky_M kk_M kd_M hown hK hP hS hh_2973 rfl 0 (by decide) (hts _ wi_714) (fun _ h9 => h9) rfl (by decide +kernel) rfl rfl (Nat.le_of_ble_eq_true rfl) de_M_end_2 (fun H locs w_2974 hw_2975 hP hS => ?_)
  have h_2976 : w_2974 h = some (100, .inr (cx_M, [.int (nI 0), .int (nI μ.n), .int (nI μ.sq), .int (nI μ.sf), .int (nI μ.rs), .int (rI μ.ba), .int (nI μ.pr), .int (nI μ.mi), .ref D.kf, .ref D.nf, .ref D.rf, .ref D.lf, .ref D.sv, .ref D.bk, .ref D.od, .ref D.vf, .ref D.bv, .ref D.df, .ref D.ss, .ref D.bd, .ref D.ks, .ref D.bt])) := dk_here hw_2975
  have h_2977 : w_2974 D.kf = some (101, dk_ci G 700 (fun i9 => nI (μ.kf i9))) := dk_keep hw_2975 hh_2973 hm.kf (by decide)
  have h_2978 : w_2974 D.nf = some (102, dk_ci G 700 (fun i9 => nI (μ.nf i9))) := dk_keep hw_2975 hh_2973 hm.nf (by decide)
  have h_2979 : w_2974 D.rf = some (103, dk_ci G 700 (fun i9 => rI (μ.rf i9))) := dk_keep hw_2975 hh_2973 hm.rf (by decide)
  have h_2980 : w_2974 D.lf = some (104, dk_ci G 5000 (fun i9 => rI (μ.lf i9))) := dk_keep hw_2975 hh_2973 hm.lf (by decide)
  have h_2981 : w_2974 D.sv = some (105, dk_ci G 6 (fun i9 => nI (μ.sv i9))) := dk_keep hw_2975 hh_2973 hm.sv (by decide)
  have h_2982 : w_2974 D.bk = some (106, dk_ci G 16 (fun i9 => nI (μ.bk i9))) := dk_keep hw_2975 hh_2973 hm.bk (by decide)
  have h_2983 : w_2974 D.od = some (107, dk_ci G 700 (fun i9 => nI (μ.od i9))) := dk_keep hw_2975 hh_2973 hm.od (by decide)
  have h_2984 : w_2974 D.vf = some (108, dk_cl G 700 (fun i9 => μ.vf i9)) := dk_keep hw_2975 hh_2973 hm.vf (by decide)
  have h_2985 : w_2974 D.bv = some (109, dk_cl G 16 (fun i9 => μ.bv i9)) := dk_keep hw_2975 hh_2973 hm.bv (by decide)
  have h_2986 : w_2974 D.df = some (110, dk_cz G 700 (fun i9 => bo_i (μ.df i9))) := dk_keep hw_2975 hh_2973 hm.df (by decide)
  have h_2987 : w_2974 D.ss = some (111, dk_cz G 6 (fun i9 => bo_i (μ.ss i9))) := dk_keep hw_2975 hh_2973 hm.ss (by decide)
  have h_2988 : w_2974 D.bd = some (112, dk_cz G 16 (fun i9 => bo_i (μ.bd i9))) := dk_keep hw_2975 hh_2973 hm.bd (by decide)
  have h_2989 : w_2974 D.ks = some (113, dk_cz G 700 (fun i9 => bo_i (μ.ks i9))) := dk_keep hw_2975 hh_2973 hm.ks (by decide)
  have h_2990 : w_2974 D.bt = some (114, dk_cz G 6000 (fun i9 => bo_i (μ.bt i9))) := dk_keep hw_2975 hh_2973 hm.bt (by decide)
  have hm_2991 : md_at G w_2974 h D (μ.er' 0) := ⟨h_2976, h_2977, h_2978, h_2979, h_2980, h_2981, h_2982, h_2983, h_2984, h_2985, h_2986, h_2987, h_2988, h_2989, h_2990⟩
  have hh_2992 : w_2974 h = some (100, .inr (cx_M, [.int (nI 0), .int (nI μ.n), .int (nI μ.sq), .int (nI μ.sf), .int (nI μ.rs), .int (rI μ.ba), .int (nI μ.pr), .int (nI μ.mi), .ref D.kf, .ref D.nf, .ref D.rf, .ref D.lf, .ref D.sv, .ref D.bk, .ref D.od, .ref D.vf, .ref D.bv, .ref D.df, .ref D.ss, .ref D.bd, .ref D.ks, .ref D.bt])) := hm_2991.o
  have ha_2993 : w_2974 D.kf = some (101, dk_ci G 700 (fun i9 => nI (μ.kf i9))) := hm_2991.kf
  have ha_2994 : w_2974 D.nf = some (102, dk_ci G 700 (fun i9 => nI (μ.nf i9))) := hm_2991.nf
  have ha_2995 : w_2974 D.rf = some (103, dk_ci G 700 (fun i9 => rI (μ.rf i9))) := hm_2991.rf
  have ha_2996 : w_2974 D.lf = some (104, dk_ci G 5000 (fun i9 => rI (μ.lf i9))) := hm_2991.lf
  have ha_2997 : w_2974 D.sv = some (105, dk_ci G 6 (fun i9 => nI (μ.sv i9))) := hm_2991.sv
  have ha_2998 : w_2974 D.bk = some (106, dk_ci G 16 (fun i9 => nI (μ.bk i9))) := hm_2991.bk
  have ha_2999 : w_2974 D.od = some (107, dk_ci G 700 (fun i9 => nI (μ.od i9))) := hm_2991.od
  have ha_3000 : w_2974 D.vf = some (108, dk_cl G 700 (fun i9 => μ.vf i9)) := hm_2991.vf
  have ha_3001 : w_2974 D.bv = some (109, dk_cl G 16 (fun i9 => μ.bv i9)) := hm_2991.bv
  have ha_3002 : w_2974 D.df = some (110, dk_cz G 700 (fun i9 => bo_i (μ.df i9))) := hm_2991.df
  have ha_3003 : w_2974 D.ss = some (111, dk_cz G 6 (fun i9 => bo_i (μ.ss i9))) := hm_2991.ss
  have ha_3004 : w_2974 D.bd = some (112, dk_cz G 16 (fun i9 => bo_i (μ.bd i9))) := hm_2991.bd
  have ha_3005 : w_2974 D.ks = some (113, dk_cz G 700 (fun i9 => bo_i (μ.ks i9))) := hm_2991.ks
  have ha_3006 : w_2974 D.bt = some (114, dk_cz G 6000 (fun i9 => bo_i (μ.bt i9))) := hm_2991.bt
  refine lv_aload_n hx hb de_M_end_5 rfl (lv_at hl 0 rfl) ?_
  refine lv_aload_n hx hb de_M_end_6 rfl (lv_at hl 0 rfl) ?_
  refine dk_get (a := h) (v := .int (rI μ.ba)) (C := kn_M) (T := kt_M) (N := 22) hx hb hts ki_M hown hK hP hh_2992 rfl 5 (by decide) (hts _ wi_719) (fun _ h9 => h9) rfl de_M_end_7 ?_
  rw [show rI μ.ba = nI b9 from by rw [hba]; rfl]
  refine nx_if_ge (a := b9) (tgt := 17) hx hb (by omega) de_M_end_10 (by decide) ?_
  refine lv_iconst (v := nI 0) hx hb de_M_end_17 (by decide) ?_
  refine lv_iconst (v := nI 1) hx hb de_M_end_18 (by decide) ?_
  rw [show (nI 0) = bo_i false from (by decide)]
  refine dk_calli (va_runV (As := [.int (bo_i false), .int (nI 1)]) (rest := []) ⟨hx, hb, hml, hown, hts⟩ (c_M_fails l G w_2974 h D (μ.er' 0) hm_2991 false 1 (by decide) (by decide) (show (0 : Nat) < 3 by decide)) (cwV 2 hts (wd_gV (C := "RunKeeperModel") wi_799 wi_796 wi_798 (wd_p (q := (⟨"RunKeeperModel", "fails", "(ZI)Z"⟩, 22)) (by decide +kernel) (by decide +kernel)) wi_8) rfl rfl rfl (by decide +kernel) ⟨Nat.le_of_ble_eq_true rfl, Nat.le_of_ble_eq_true rfl⟩) (dk_preV (kn_M, kt_M, 22) hE hP hS hh_2992 rfl) rfl rfl hl.1 rfl (lv_room (Nat.le_of_ble_eq_true rfl)) de_M_end_19 ⟨(by first | exact Nat.le_of_ble_eq_true rfl | (simp only [Nat.zero_add]; omega) | omega), (by first | exact Nat.le_of_ble_eq_true rfl | (simp only [Nat.zero_add]; omega) | omega)⟩) hS (fun r_3010 w_3008 H locs hq_3009 hP hS => ?_)
  obtain ⟨hr_3011, hq_3012, hf_3013⟩ := hq_3009
  subst hr_3011
  have hm_3014 : md_at G w_3008 h D ((μ.er' 0).er' 0) := hq_3012
  have hh_3015 : w_3008 h = some (100, .inr (cx_M, [.int (nI 0), .int (nI μ.n), .int (nI μ.sq), .int (nI μ.sf), .int (nI μ.rs), .int (rI μ.ba), .int (nI μ.pr), .int (nI μ.mi), .ref D.kf, .ref D.nf, .ref D.rf, .ref D.lf, .ref D.sv, .ref D.bk, .ref D.od, .ref D.vf, .ref D.bv, .ref D.df, .ref D.ss, .ref D.bd, .ref D.ks, .ref D.bt])) := hm_3014.o
  have ha_3016 : w_3008 D.kf = some (101, dk_ci G 700 (fun i9 => nI (μ.kf i9))) := hm_3014.kf
  have ha_3017 : w_3008 D.nf = some (102, dk_ci G 700 (fun i9 => nI (μ.nf i9))) := hm_3014.nf
  have ha_3018 : w_3008 D.rf = some (103, dk_ci G 700 (fun i9 => rI (μ.rf i9))) := hm_3014.rf
  have ha_3019 : w_3008 D.lf = some (104, dk_ci G 5000 (fun i9 => rI (μ.lf i9))) := hm_3014.lf
  have ha_3020 : w_3008 D.sv = some (105, dk_ci G 6 (fun i9 => nI (μ.sv i9))) := hm_3014.sv
  have ha_3021 : w_3008 D.bk = some (106, dk_ci G 16 (fun i9 => nI (μ.bk i9))) := hm_3014.bk
  have ha_3022 : w_3008 D.od = some (107, dk_ci G 700 (fun i9 => nI (μ.od i9))) := hm_3014.od
  have ha_3023 : w_3008 D.vf = some (108, dk_cl G 700 (fun i9 => μ.vf i9)) := hm_3014.vf
  have ha_3024 : w_3008 D.bv = some (109, dk_cl G 16 (fun i9 => μ.bv i9)) := hm_3014.bv
  have ha_3025 : w_3008 D.df = some (110, dk_cz G 700 (fun i9 => bo_i (μ.df i9))) := hm_3014.df
  have ha_3026 : w_3008 D.ss = some (111, dk_cz G 6 (fun i9 => bo_i (μ.ss i9))) := hm_3014.ss
  have ha_3027 : w_3008 D.bd = some (112, dk_cz G 16 (fun i9 => bo_i (μ.bd i9))) := hm_3014.bd
  have ha_3028 : w_3008 D.ks = some (113, dk_cz G 700 (fun i9 => bo_i (μ.ks i9))) := hm_3014.ks
  have ha_3029 : w_3008 D.bt = some (114, dk_cz G 6000 (fun i9 => bo_i (μ.bt i9))) := hm_3014.bt
  refine bo_if_ne (b := false) (tgt := 57) hx hb de_M_end_22 (by decide) (fun c_3030 => ?_) (fun c_3030 => ?_)
  · exact absurd c_3030 (by decide)
  · refine lv_aload_n hx hb de_M_end_25 rfl (lv_at hl 0 rfl) ?_
    refine lv_iload_n hx hb de_M_end_26 rfl (lv_at hl 1 rfl) ?_
    refine bo_if_eq (b := true) (tgt := 49) hx hb de_M_end_27 (by decide) (fun c_3031 => ?_) (fun c_3031 => ?_)
    · exact absurd c_3031 (by decide)
    · refine lv_aload_n hx hb de_M_end_30 rfl (lv_at hl 0 rfl) ?_
      refine dk_get (a := h) (v := .int (nI μ.n)) (C := kn_M) (T := kt_M) (N := 22) hx hb hts ki_M hown hK hP hh_3015 rfl 1 (by decide) (hts _ wi_715) (fun _ h9 => h9) rfl de_M_end_31 ?_
      refine lv_aload_n hx hb de_M_end_34 rfl (lv_at hl 0 rfl) ?_
      refine dk_get (a := h) (v := .int (rI μ.ba)) (C := kn_M) (T := kt_M) (N := 22) hx hb hts ki_M hown hK hP hh_3015 rfl 5 (by decide) (hts _ wi_719) (fun _ h9 => h9) rfl de_M_end_35 ?_
      rw [show rI μ.ba = nI b9 from by rw [hba]; rfl]
      refine nx_iadd (a := μ.n) (b := b9) hx hb de_M_end_38 ?_
      refine lv_sipush (v := nI 600) hx hb de_M_end_39 (by decide) ?_
      refine nx_icmp_le (a := μ.n + b9) (b := 600) (tgt := 49) hx hb (by omega) (by omega) de_M_end_42 (by decide) (fun c_3032 => ?_) (fun c_3032 => ?_)
      · refine lv_iconst (v := nI 0) hx hb de_M_end_49 (by decide) ?_
        refine lv_iconst (v := nI 2) hx hb de_M_end_50 (by decide) ?_
        rw [show (nI 0) = bo_i false from (by decide)]
        refine dk_calli (va_runV (As := [.int (bo_i false), .int (nI 2)]) (rest := []) ⟨hx, hb, hml, hown, hts⟩ (c_M_fails l G w_3008 h D ((μ.er' 0).er' 0) hm_3014 false 2 (by decide) (by decide) (show (0 : Nat) < 3 by decide)) (cwV 2 hts (wd_gV (C := "RunKeeperModel") wi_799 wi_796 wi_798 (wd_p (q := (⟨"RunKeeperModel", "fails", "(ZI)Z"⟩, 22)) (by decide +kernel) (by decide +kernel)) wi_8) rfl rfl rfl (by decide +kernel) ⟨Nat.le_of_ble_eq_true rfl, Nat.le_of_ble_eq_true rfl⟩) (dk_preV (kn_M, kt_M, 22) hE hP hS hh_3015 rfl) rfl rfl hl.1 rfl (lv_room (Nat.le_of_ble_eq_true rfl)) de_M_end_51 ⟨(by first | exact Nat.le_of_ble_eq_true rfl | (simp only [Nat.zero_add]; omega) | omega), (by first | exact Nat.le_of_ble_eq_true rfl | (simp only [Nat.zero_add]; omega) | omega)⟩) hS (fun r_3035 w_3033 H locs hq_3034 hP hS => ?_)
        obtain ⟨hr_3036, hq_3037, hf_3038⟩ := hq_3034
        subst hr_3036
        have hm_3039 : md_at G w_3033 h D (((μ.er' 0).er' 0).er' 0) := hq_3037
        have hh_3040 : w_3033 h = some (100, .inr (cx_M, [.int (nI 0), .int (nI μ.n), .int (nI μ.sq), .int (nI μ.sf), .int (nI μ.rs), .int (rI μ.ba), .int (nI μ.pr), .int (nI μ.mi), .ref D.kf, .ref D.nf, .ref D.rf, .ref D.lf, .ref D.sv, .ref D.bk, .ref D.od, .ref D.vf, .ref D.bv, .ref D.df, .ref D.ss, .ref D.bd, .ref D.ks, .ref D.bt])) := hm_3039.o
        have ha_3041 : w_3033 D.kf = some (101, dk_ci G 700 (fun i9 => nI (μ.kf i9))) := hm_3039.kf
        have ha_3042 : w_3033 D.nf = some (102, dk_ci G 700 (fun i9 => nI (μ.nf i9))) := hm_3039.nf
        have ha_3043 : w_3033 D.rf = some (103, dk_ci G 700 (fun i9 => rI (μ.rf i9))) := hm_3039.rf
        have ha_3044 : w_3033 D.lf = some (104, dk_ci G 5000 (fun i9 => rI (μ.lf i9))) := hm_3039.lf
        have ha_3045 : w_3033 D.sv = some (105, dk_ci G 6 (fun i9 => nI (μ.sv i9))) := hm_3039.sv
        have ha_3046 : w_3033 D.bk = some (106, dk_ci G 16 (fun i9 => nI (μ.bk i9))) := hm_3039.bk
        have ha_3047 : w_3033 D.od = some (107, dk_ci G 700 (fun i9 => nI (μ.od i9))) := hm_3039.od
        have ha_3048 : w_3033 D.vf = some (108, dk_cl G 700 (fun i9 => μ.vf i9)) := hm_3039.vf
        have ha_3049 : w_3033 D.bv = some (109, dk_cl G 16 (fun i9 => μ.bv i9)) := hm_3039.bv
        have ha_3050 : w_3033 D.df = some (110, dk_cz G 700 (fun i9 => bo_i (μ.df i9))) := hm_3039.df
        have ha_3051 : w_3033 D.ss = some (111, dk_cz G 6 (fun i9 => bo_i (μ.ss i9))) := hm_3039.ss
        have ha_3052 : w_3033 D.bd = some (112, dk_cz G 16 (fun i9 => bo_i (μ.bd i9))) := hm_3039.bd
        have ha_3053 : w_3033 D.ks = some (113, dk_cz G 700 (fun i9 => bo_i (μ.ks i9))) := hm_3039.ks
        have ha_3054 : w_3033 D.bt = some (114, dk_cz G 6000 (fun i9 => bo_i (μ.bt i9))) := hm_3039.bt
        refine bo_if_eq (b := false) (tgt := 59) hx hb de_M_end_54 (by decide) (fun c_3055 => ?_) (fun c_3055 => ?_)
        · refine lv_iload_n hx hb de_M_end_59 rfl (lv_at hl 1 rfl) ?_
          refine bo_if_eq (b := true) (tgt := 70) hx hb de_M_end_60 (by decide) (fun c_3056 => ?_) (fun c_3056 => ?_)
          · exact absurd c_3056 (by decide)
          · refine lv_aload_n hx hb de_M_end_63 rfl (lv_at hl 0 rfl) ?_
            refine dk_get (a := h) (v := .int (rI μ.ba)) (C := kn_M) (T := kt_M) (N := 22) hx hb hts ki_M hown hK hP hh_3040 rfl 5 (by decide) (hts _ wi_719) (fun _ h9 => h9) rfl de_M_end_64 ?_
            rw [show rI μ.ba = nI b9 from by rw [hba]; rfl]
            refine lv_goto (tgt := 71) hx hb de_M_end_67 (by decide) ?_
            refine lv_istore_n (lv' := [(2, .int (nI b9)), (0, .ref h), (1, .int (bo_i true))]) hx hb de_M_end_71 rfl hl (by decide) rfl (fun ls hl => ?_)
            refine lv_iconst (v := nI 0) hx hb de_M_end_72 (by decide) ?_
            refine lv_istore_n (lv' := [(3, .int (nI 0)), (2, .int (nI b9)), (0, .ref h), (1, .int (bo_i true))]) hx hb de_M_end_73 rfl hl (by decide) rfl (fun ls hl => ?_)
            have hmo2 : md_ok (μ.er' 0) := ⟨ok1, ok2, ok3, ok4, ok5, ok6, ok7, ok8, ok9, ok10, show (0 : Nat) < 3 by decide⟩
            have lp : ∀ (zk : Nat) (i : Nat), b9 - i < zk → (i ≤ b9) → ∀ (H : Heap) (locs : List Loc) (v : dk_H), (md_at G v h D (md_wl (μ.er' 0) i)) → (dk_fr md_T w v) → dk_P G v H → dk_S G s.heap H locs → ∀ (ls : Array Slot), lv_has ls 4 [(0, .ref h), (1, .int (bo_i true)), (2, .int (nI b9)), (3, .int (nI i))] → W p l e rm_M_end s m args below meth c H locs (0 + 0 + 0) (0 + 0 + 0) Q (F0 m 74 ls []) := by
              intro zk
              induction zk with
              | zero =>
                intro i hk
                exact absurd hk (by omega)
              | succ zk ih =>
                intro i hk hi
                intro H locs v hmv hg hP hS
                intro ls hl
                have hh_3057 : v h = some (100, .inr (cx_M, [.int (nI ((md_wl (μ.er' 0) i).er)), .int (nI ((md_wl (μ.er' 0) i).n)), .int (nI ((md_wl (μ.er' 0) i).sq)), .int (nI ((md_wl (μ.er' 0) i).sf)), .int (nI ((md_wl (μ.er' 0) i).rs)), .int (rI ((md_wl (μ.er' 0) i).ba)), .int (nI ((md_wl (μ.er' 0) i).pr)), .int (nI ((md_wl (μ.er' 0) i).mi)), .ref D.kf, .ref D.nf, .ref D.rf, .ref D.lf, .ref D.sv, .ref D.bk, .ref D.od, .ref D.vf, .ref D.bv, .ref D.df, .ref D.ss, .ref D.bd, .ref D.ks, .ref D.bt])) := hmv.o
                have ha_3058 : v D.kf = some (101, dk_ci G 700 (fun i9 => nI ((md_wl (μ.er' 0) i).kf i9))) := hmv.kf
                have ha_3059 : v D.nf = some (102, dk_ci G 700 (fun i9 => nI ((md_wl (μ.er' 0) i).nf i9))) := hmv.nf
                have ha_3060 : v D.rf = some (103, dk_ci G 700 (fun i9 => rI ((md_wl (μ.er' 0) i).rf i9))) := hmv.rf
                have ha_3061 : v D.lf = some (104, dk_ci G 5000 (fun i9 => rI ((md_wl (μ.er' 0) i).lf i9))) := hmv.lf
                have ha_3062 : v D.sv = some (105, dk_ci G 6 (fun i9 => nI ((md_wl (μ.er' 0) i).sv i9))) := hmv.sv
                have ha_3063 : v D.bk = some (106, dk_ci G 16 (fun i9 => nI ((md_wl (μ.er' 0) i).bk i9))) := hmv.bk
                have ha_3064 : v D.od = some (107, dk_ci G 700 (fun i9 => nI ((md_wl (μ.er' 0) i).od i9))) := hmv.od
                have ha_3065 : v D.vf = some (108, dk_cl G 700 (fun i9 => (md_wl (μ.er' 0) i).vf i9)) := hmv.vf
                have ha_3066 : v D.bv = some (109, dk_cl G 16 (fun i9 => (md_wl (μ.er' 0) i).bv i9)) := hmv.bv
                have ha_3067 : v D.df = some (110, dk_cz G 700 (fun i9 => bo_i ((md_wl (μ.er' 0) i).df i9))) := hmv.df
                have ha_3068 : v D.ss = some (111, dk_cz G 6 (fun i9 => bo_i ((md_wl (μ.er' 0) i).ss i9))) := hmv.ss
                have ha_3069 : v D.bd = some (112, dk_cz G 16 (fun i9 => bo_i ((md_wl (μ.er' 0) i).bd i9))) := hmv.bd
                have ha_3070 : v D.ks = some (113, dk_cz G 700 (fun i9 => bo_i ((md_wl (μ.er' 0) i).ks i9))) := hmv.ks
                have ha_3071 : v D.bt = some (114, dk_cz G 6000 (fun i9 => bo_i ((md_wl (μ.er' 0) i).bt i9))) := hmv.bt
                have hwl := md_wl_p (μ.er' 0) i
                refine lv_iload_n hx hb de_M_end_74 rfl (lv_at hl 3 rfl) ?_
                refine lv_iload_n hx hb de_M_end_75 rfl (lv_at hl 2 rfl) ?_
                refine nx_icmp_ge (a := i) (b := b9) (tgt := 107) hx hb (by omega) (by omega) de_M_end_76 (by decide) (fun c_3072 => ?_) (fun c_3072 => ?_)
                · have e9 : i = b9 := by omega
                  have hwe : md_wl (μ.er' 0) b9 = md_wl (μ.er' 0) i := by rw [e9]
                  refine lv_aload_n hx hb de_M_end_107 rfl (lv_at hl 0 rfl) ?_
                  refine lv_iconst (v := (-1)) hx hb de_M_end_108 (by decide) ?_
                  refine dk_put (a := h) (v := .int (-1)) (ty := .int) (C := kn_M) (T := kt_M) (N := 22) hx hb hts ki_M ky_M kk_M kd_M hown hK hP hS hh_3057 rfl 5 (by decide) (hts _ wi_719) (fun _ h9 => h9) rfl (by decide +kernel) rfl rfl (Nat.le_of_ble_eq_true rfl) de_M_end_109 (fun H locs w_3073 hw_3074 hP hS => ?_)
                  have h_3075 : w_3073 h = some (100, .inr (cx_M, [.int (nI ((md_wl (μ.er' 0) i).er)), .int (nI ((md_wl (μ.er' 0) i).n)), .int (nI ((md_wl (μ.er' 0) i).sq)), .int (nI ((md_wl (μ.er' 0) i).sf)), .int (nI ((md_wl (μ.er' 0) i).rs)), .int (-1), .int (nI ((md_wl (μ.er' 0) i).pr)), .int (nI ((md_wl (μ.er' 0) i).mi)), .ref D.kf, .ref D.nf, .ref D.rf, .ref D.lf, .ref D.sv, .ref D.bk, .ref D.od, .ref D.vf, .ref D.bv, .ref D.df, .ref D.ss, .ref D.bd, .ref D.ks, .ref D.bt])) := dk_here hw_3074
                  have h_3076 : w_3073 D.kf = some (101, dk_ci G 700 (fun i9 => nI ((md_wl (μ.er' 0) i).kf i9))) := dk_keep hw_3074 hh_3057 ha_3058 (by decide)
                  have h_3077 : w_3073 D.nf = some (102, dk_ci G 700 (fun i9 => nI ((md_wl (μ.er' 0) i).nf i9))) := dk_keep hw_3074 hh_3057 ha_3059 (by decide)
                  have h_3078 : w_3073 D.rf = some (103, dk_ci G 700 (fun i9 => rI ((md_wl (μ.er' 0) i).rf i9))) := dk_keep hw_3074 hh_3057 ha_3060 (by decide)
                  have h_3079 : w_3073 D.lf = some (104, dk_ci G 5000 (fun i9 => rI ((md_wl (μ.er' 0) i).lf i9))) := dk_keep hw_3074 hh_3057 ha_3061 (by decide)
                  have h_3080 : w_3073 D.sv = some (105, dk_ci G 6 (fun i9 => nI ((md_wl (μ.er' 0) i).sv i9))) := dk_keep hw_3074 hh_3057 ha_3062 (by decide)
                  have h_3081 : w_3073 D.bk = some (106, dk_ci G 16 (fun i9 => nI ((md_wl (μ.er' 0) i).bk i9))) := dk_keep hw_3074 hh_3057 ha_3063 (by decide)
                  have h_3082 : w_3073 D.od = some (107, dk_ci G 700 (fun i9 => nI ((md_wl (μ.er' 0) i).od i9))) := dk_keep hw_3074 hh_3057 ha_3064 (by decide)
                  have h_3083 : w_3073 D.vf = some (108, dk_cl G 700 (fun i9 => (md_wl (μ.er' 0) i).vf i9)) := dk_keep hw_3074 hh_3057 ha_3065 (by decide)
                  have h_3084 : w_3073 D.bv = some (109, dk_cl G 16 (fun i9 => (md_wl (μ.er' 0) i).bv i9)) := dk_keep hw_3074 hh_3057 ha_3066 (by decide)
                  have h_3085 : w_3073 D.df = some (110, dk_cz G 700 (fun i9 => bo_i ((md_wl (μ.er' 0) i).df i9))) := dk_keep hw_3074 hh_3057 ha_3067 (by decide)
                  have h_3086 : w_3073 D.ss = some (111, dk_cz G 6 (fun i9 => bo_i ((md_wl (μ.er' 0) i).ss i9))) := dk_keep hw_3074 hh_3057 ha_3068 (by decide)
                  have h_3087 : w_3073 D.bd = some (112, dk_cz G 16 (fun i9 => bo_i ((md_wl (μ.er' 0) i).bd i9))) := dk_keep hw_3074 hh_3057 ha_3069 (by decide)
                  have h_3088 : w_3073 D.ks = some (113, dk_cz G 700 (fun i9 => bo_i ((md_wl (μ.er' 0) i).ks i9))) := dk_keep hw_3074 hh_3057 ha_3070 (by decide)
                  have h_3089 : w_3073 D.bt = some (114, dk_cz G 6000 (fun i9 => bo_i ((md_wl (μ.er' 0) i).bt i9))) := dk_keep hw_3074 hh_3057 ha_3071 (by decide)
                  have hm_3090 : md_at G w_3073 h D ((md_wl (μ.er' 0) i).ba' none) := ⟨h_3075, h_3076, h_3077, h_3078, h_3079, h_3080, h_3081, h_3082, h_3083, h_3084, h_3085, h_3086, h_3087, h_3088, h_3089⟩
                  have hh_3091 : w_3073 h = some (100, .inr (cx_M, [.int (nI ((md_wl (μ.er' 0) i).er)), .int (nI ((md_wl (μ.er' 0) i).n)), .int (nI ((md_wl (μ.er' 0) i).sq)), .int (nI ((md_wl (μ.er' 0) i).sf)), .int (nI ((md_wl (μ.er' 0) i).rs)), .int (rI none), .int (nI ((md_wl (μ.er' 0) i).pr)), .int (nI ((md_wl (μ.er' 0) i).mi)), .ref D.kf, .ref D.nf, .ref D.rf, .ref D.lf, .ref D.sv, .ref D.bk, .ref D.od, .ref D.vf, .ref D.bv, .ref D.df, .ref D.ss, .ref D.bd, .ref D.ks, .ref D.bt])) := hm_3090.o
                  have ha_3092 : w_3073 D.kf = some (101, dk_ci G 700 (fun i9 => nI ((md_wl (μ.er' 0) i).kf i9))) := hm_3090.kf
                  have ha_3093 : w_3073 D.nf = some (102, dk_ci G 700 (fun i9 => nI ((md_wl (μ.er' 0) i).nf i9))) := hm_3090.nf
                  have ha_3094 : w_3073 D.rf = some (103, dk_ci G 700 (fun i9 => rI ((md_wl (μ.er' 0) i).rf i9))) := hm_3090.rf
                  have ha_3095 : w_3073 D.lf = some (104, dk_ci G 5000 (fun i9 => rI ((md_wl (μ.er' 0) i).lf i9))) := hm_3090.lf
                  have ha_3096 : w_3073 D.sv = some (105, dk_ci G 6 (fun i9 => nI ((md_wl (μ.er' 0) i).sv i9))) := hm_3090.sv
                  have ha_3097 : w_3073 D.bk = some (106, dk_ci G 16 (fun i9 => nI ((md_wl (μ.er' 0) i).bk i9))) := hm_3090.bk
                  have ha_3098 : w_3073 D.od = some (107, dk_ci G 700 (fun i9 => nI ((md_wl (μ.er' 0) i).od i9))) := hm_3090.od
                  have ha_3099 : w_3073 D.vf = some (108, dk_cl G 700 (fun i9 => (md_wl (μ.er' 0) i).vf i9)) := hm_3090.vf
                  have ha_3100 : w_3073 D.bv = some (109, dk_cl G 16 (fun i9 => (md_wl (μ.er' 0) i).bv i9)) := hm_3090.bv
                  have ha_3101 : w_3073 D.df = some (110, dk_cz G 700 (fun i9 => bo_i ((md_wl (μ.er' 0) i).df i9))) := hm_3090.df
                  have ha_3102 : w_3073 D.ss = some (111, dk_cz G 6 (fun i9 => bo_i ((md_wl (μ.er' 0) i).ss i9))) := hm_3090.ss
                  have ha_3103 : w_3073 D.bd = some (112, dk_cz G 16 (fun i9 => bo_i ((md_wl (μ.er' 0) i).bd i9))) := hm_3090.bd
                  have ha_3104 : w_3073 D.ks = some (113, dk_cz G 700 (fun i9 => bo_i ((md_wl (μ.er' 0) i).ks i9))) := hm_3090.ks
                  have ha_3105 : w_3073 D.bt = some (114, dk_cz G 6000 (fun i9 => bo_i ((md_wl (μ.er' 0) i).bt i9))) := hm_3090.bt
                  have hmo3 : md_ok ((md_wl (μ.er' 0) i).ba' none) := md_wl_ok hmo2 i (by show μ.n + i ≤ 640; omega) (by show μ.sq + i < 2 ^ 30; omega)
                  refine lv_aload_n hx hb de_M_end_112 rfl (lv_at hl 0 rfl) ?_
                  refine lv_iconst (v := (-1)) hx hb de_M_end_113 (by decide) ?_
                  refine dk_calli (va_runV (As := [.int (-1)]) (rest := []) ⟨hx, hb, hml, hown, hts⟩ (c_M_inRun l G w_3073 h D ((md_wl (μ.er' 0) i).ba' none) hm_3090 hmo3 none (fun r hr => by cases hr)) (cwV 1 hts (wd_gV (C := "RunKeeperModel") wi_807 wi_804 wi_806 (wd_p (q := (⟨"RunKeeperModel", "inRun", "(I)I"⟩, 22)) (by decide +kernel) (by decide +kernel)) wi_8) rfl rfl rfl (by decide +kernel) ⟨Nat.le_of_ble_eq_true rfl, Nat.le_of_ble_eq_true rfl⟩) (dk_preV (kn_M, kt_M, 22) hE hP hS hh_3091 rfl) rfl rfl hl.1 rfl (lv_room (Nat.le_of_ble_eq_true rfl)) de_M_end_114 ⟨(by first | exact Nat.le_of_ble_eq_true rfl | (simp only [Nat.zero_add]; omega) | omega), (by first | exact Nat.le_of_ble_eq_true rfl | (simp only [Nat.zero_add]; omega) | omega)⟩) hS (fun r_3108 w_3106 H locs hq_3107 hP hS => ?_)
                  obtain ⟨hr_3109, he_3110⟩ := hq_3107
                  subst hr_3109
                  rw [he_3110] at hP
                  have hck := md_k_le ((md_wl (μ.er' 0) i).ba' none)
                  have hn9 : ((md_wl (μ.er' 0) i).ba' none).n = μ.n + i := hwl.1
                  refine lv_bipush (v := nI 24) hx hb de_M_end_117 (by decide) ?_
                  refine nx_icmp_lt (a := md_k ((md_wl (μ.er' 0) i).ba' none)) (b := 24) (tgt := 127) hx hb (by omega) (by omega) de_M_end_119 (by decide) (fun c_3111 => ?_) (fun c_3111 => ?_)
                  · refine lv_iload_n hx hb de_M_end_127 rfl (lv_at hl 2 rfl) ?_
                    exact dk_iret hQ hx hb hr hlocks hP hS (Nat.le_refl _) (Nat.le_refl _) (⟨rfl, by rw [hwe, md_ff, if_neg (by omega)]; exact hm_3090, hg.tr ((dk_fr.rf).tr ((dk_fr.up (T := md_T) hh_3057 (by unfold md_T; omega)).eq hw_3074))⟩) de_M_end_128
                  · refine lv_aload_n hx hb de_M_end_122 rfl (lv_at hl 0 rfl) ?_
                    refine dk_calli (va_runV (As := []) (rest := []) ⟨hx, hb, hml, hown, hts⟩ (c_M_flushed l G w_3073 h D ((md_wl (μ.er' 0) i).ba' none) hm_3090 hmo3) (cwV 0 hts (wd_gV (C := "RunKeeperModel") wi_811 wi_808 wi_810 (wd_p (q := (⟨"RunKeeperModel", "flushed", "()I"⟩, 22)) (by decide +kernel) (by decide +kernel)) wi_8) rfl rfl rfl (by decide +kernel) ⟨Nat.le_of_ble_eq_true rfl, Nat.le_of_ble_eq_true rfl⟩) (dk_preV (kn_M, kt_M, 22) hE hP hS hh_3091 rfl) rfl rfl hl.1 rfl (lv_room (Nat.le_of_ble_eq_true rfl)) de_M_end_123 ⟨(by first | exact Nat.le_of_ble_eq_true rfl | (simp only [Nat.zero_add]; omega) | omega), (by first | exact Nat.le_of_ble_eq_true rfl | (simp only [Nat.zero_add]; omega) | omega)⟩) hS (fun r_3114 w_3112 H locs hq_3113 hP hS => ?_)
                    obtain ⟨-, hq2, hq3⟩ := hq_3113
                    refine lv_pop hx hb de_M_end_126 rfl ?_
                    refine lv_iload_n hx hb de_M_end_127 rfl (lv_at hl 2 rfl) ?_
                    exact dk_iret hQ hx hb hr hlocks hP hS (Nat.le_refl _) (Nat.le_refl _) (⟨rfl, by rw [hwe, md_ff, if_pos (by omega)]; exact hq2, hg.tr (((dk_fr.rf).tr ((dk_fr.up (T := md_T) hh_3057 (by unfold md_T; omega)).eq hw_3074)).tr hq3)⟩) de_M_end_128
                · have hmo3 : md_ok (md_wl (μ.er' 0) i) := md_wl_ok0 hmo2 i (by show μ.n + i ≤ 640; omega) (by show μ.sq + i < 2 ^ 30; omega)
                  refine lv_aload_n hx hb de_M_end_79 rfl (lv_at hl 0 rfl) ?_
                  refine lv_aload_n hx hb de_M_end_80 rfl (lv_at hl 0 rfl) ?_
                  refine dk_get (a := h) (v := .ref D.bk) (C := kn_M) (T := kt_M) (N := 22) hx hb hts ki_M hown hK hP hh_3057 rfl 13 (by decide) (hts _ wi_727) (fun _ h9 => h9) rfl de_M_end_81 ?_
                  refine lv_iload_n hx hb de_M_end_84 rfl (lv_at hl 3 rfl) ?_
                  refine dk_iald (a := D.bk) hx hb hK hP ha_3063 i rfl (by omega) (by omega) de_M_end_85 ?_
                  refine lv_aload_n hx hb de_M_end_86 rfl (lv_at hl 0 rfl) ?_
                  refine dk_get (a := h) (v := .ref D.bv) (C := kn_M) (T := kt_M) (N := 22) hx hb hts ki_M hown hK hP hh_3057 rfl 16 (by decide) (hts _ wi_730) (fun _ h9 => h9) rfl de_M_end_87 ?_
                  refine lv_iload_n hx hb de_M_end_90 rfl (lv_at hl 3 rfl) ?_
                  refine dk_lald (a := D.bv) hx hb hK hP ha_3066 i rfl (by omega) (by omega) de_M_end_91 ?_
                  refine lv_aload_n hx hb de_M_end_92 rfl (lv_at hl 0 rfl) ?_
                  refine dk_get (a := h) (v := .ref D.bd) (C := kn_M) (T := kt_M) (N := 22) hx hb hts ki_M hown hK hP hh_3057 rfl 19 (by decide) (hts _ wi_733) (fun _ h9 => h9) rfl de_M_end_93 ?_
                  refine lv_iload_n hx hb de_M_end_96 rfl (lv_at hl 3 rfl) ?_
                  refine dk_zald (a := D.bd) hx hb hK hP ha_3069 i rfl (by omega) (by omega) de_M_end_97 ?_
                  refine dk_callv (va_runV (As := [.int (nI ((md_wl (μ.er' 0) i).bk i)), .long ((md_wl (μ.er' 0) i).bv i), .int (bo_i ((md_wl (μ.er' 0) i).bd i))]) (rest := []) ⟨hx, hb, hml, hown, hts⟩ (c_M_write l G v h D (md_wl (μ.er' 0) i) hmv hmo3 ((md_wl (μ.er' 0) i).bk i) ((md_wl (μ.er' 0) i).bv i) ((md_wl (μ.er' 0) i).bd i)) (cwV 3 hts (wd_gV (C := "RunKeeperModel") wi_803 wi_800 wi_802 (wd_p (q := (⟨"RunKeeperModel", "write", "(IJZ)V"⟩, 22)) (by decide +kernel) (by decide +kernel)) wi_8) rfl rfl rfl (by decide +kernel) ⟨Nat.le_of_ble_eq_true rfl, Nat.le_of_ble_eq_true rfl⟩) (dk_preV (kn_M, kt_M, 22) hE hP hS hh_3057 rfl) rfl rfl hl.1 rfl (lv_room (Nat.le_of_ble_eq_true rfl)) de_M_end_98 ⟨(by first | exact Nat.le_of_ble_eq_true rfl | (simp only [Nat.zero_add]; omega) | omega), (by first | exact Nat.le_of_ble_eq_true rfl | (simp only [Nat.zero_add]; omega) | omega)⟩) hS (fun w_3115 H locs hq_3116 hP hS => ?_)
                  have hm7 : md_at G w_3115 h D (md_wl (μ.er' 0) (i + 1)) := by rw [md_wl, ← hwl.2.2.1, ← hwl.2.2.2.1, ← hwl.2.2.2.2]; exact hq_3116.1
                  refine lv_iinc (v := nI (i + 1)) (lv' := [(3, .int (nI (i + 1))), (0, .ref h), (1, .int (bo_i true)), (2, .int (nI b9))]) hx hb de_M_end_101 hl (k := 3) rfl (nx_inc i) (by decide) rfl (fun ls hl => ?_)
                  refine lv_goto (tgt := 74) hx hb de_M_end_104 (by decide) ?_
                  exact ih (i + 1) (by omega) (by omega) _ _ _ hm7 (hg.tr hq_3116.2) hP hS _ (lv_sub hl [1, 2, 3, 0] rfl)
            exact lp (b9 + 1) 0 (by omega) (Nat.zero_le _) _ _ _ (by exact hm_3039) ((((dk_fr.rf).tr ((dk_fr.up (T := md_T) hh_2973 (by unfold md_T; omega)).eq hw_2975)).tr (hf_3013)).tr (hf_3038)) hP hS _ (lv_sub hl [2, 3, 1, 0] rfl)
        · exact absurd c_3055 (by decide)
      · exact absurd c_3032 (by omega)
set_option maxHeartbeats 4000000 in
set_option maxRecDepth 100000 in
theorem c_M_endR (l : Launch) (G : dk_G) (w : dk_H) (h : Nat) (D : md_D) (μ : md_S) (hm : md_at G w h D μ) (hmo : md_ok μ) (b9 : Nat) (hba : μ.ba = some b9) (hb9 : b9 ≤ 16) : dk_Mi l my_M_end (wd_c my_M_end mb_M_end 4 (some .int)) rm_M_end G w [.ref h, .int (bo_i false)] (fun r w1 => r = nI 0 ∧ md_at G w1 h D (md_ff ((md_wl (μ.er' 0) 0).ba' none)) ∧ dk_fr md_T w w1) 0 0 := by
  obtain ⟨ok1, ok2, ok3, ok4, ok5, ok6, ok7, ok8, ok9, ok10, ok11⟩ := id hmo
  refine dk_enter (lv := [(0, .ref h), (1, .int (bo_i false))]) (by decide) (Nat.le_of_ble_eq_true rfl) rfl (fun p e s m args below meth c ls Q hQ C hP hS hl => ?_)
  obtain ⟨hx, hb, hr, hml, hlocks, hown, hnm, hts, hE⟩ := C
  have hK := hE.1
  have hN := hE.2.1
  have hh_3118 : w h = some (100, .inr (cx_M, [.int (nI μ.er), .int (nI μ.n), .int (nI μ.sq), .int (nI μ.sf), .int (nI μ.rs), .int (rI μ.ba), .int (nI μ.pr), .int (nI μ.mi), .ref D.kf, .ref D.nf, .ref D.rf, .ref D.lf, .ref D.sv, .ref D.bk, .ref D.od, .ref D.vf, .ref D.bv, .ref D.df, .ref D.ss, .ref D.bd, .ref D.ks, .ref D.bt])) := hm.o
  refine lv_aload_n hx hb de_M_end_0 rfl (lv_at hl 0 rfl) ?_
  refine lv_iconst (v := nI 0) hx hb de_M_end_1 (by decide) ?_
  refine dk_put (a := h) (v := .int (nI 0)) (ty := .int) (C := kn_M) (T := kt_M) (N := 22) hx hb hts ki_M ky_M kk_M kd_M hown hK hP hS hh_3118 rfl 0 (by decide) (hts _ wi_714) (fun _ h9 => h9) rfl (by decide +kernel) rfl rfl (Nat.le_of_ble_eq_true rfl) de_M_end_2 (fun H locs w_3119 hw_3120 hP hS => ?_)
  have h_3121 : w_3119 h = some (100, .inr (cx_M, [.int (nI 0), .int (nI μ.n), .int (nI μ.sq), .int (nI μ.sf), .int (nI μ.rs), .int (rI μ.ba), .int (nI μ.pr), .int (nI μ.mi), .ref D.kf, .ref D.nf, .ref D.rf, .ref D.lf, .ref D.sv, .ref D.bk, .ref D.od, .ref D.vf, .ref D.bv, .ref D.df, .ref D.ss, .ref D.bd, .ref D.ks, .ref D.bt])) := dk_here hw_3120
  have h_3122 : w_3119 D.kf = some (101, dk_ci G 700 (fun i9 => nI (μ.kf i9))) := dk_keep hw_3120 hh_3118 hm.kf (by decide)
  have h_3123 : w_3119 D.nf = some (102, dk_ci G 700 (fun i9 => nI (μ.nf i9))) := dk_keep hw_3120 hh_3118 hm.nf (by decide)
  have h_3124 : w_3119 D.rf = some (103, dk_ci G 700 (fun i9 => rI (μ.rf i9))) := dk_keep hw_3120 hh_3118 hm.rf (by decide)
  have h_3125 : w_3119 D.lf = some (104, dk_ci G 5000 (fun i9 => rI (μ.lf i9))) := dk_keep hw_3120 hh_3118 hm.lf (by decide)
  have h_3126 : w_3119 D.sv = some (105, dk_ci G 6 (fun i9 => nI (μ.sv i9))) := dk_keep hw_3120 hh_3118 hm.sv (by decide)
  have h_3127 : w_3119 D.bk = some (106, dk_ci G 16 (fun i9 => nI (μ.bk i9))) := dk_keep hw_3120 hh_3118 hm.bk (by decide)
  have h_3128 : w_3119 D.od = some (107, dk_ci G 700 (fun i9 => nI (μ.od i9))) := dk_keep hw_3120 hh_3118 hm.od (by decide)
  have h_3129 : w_3119 D.vf = some (108, dk_cl G 700 (fun i9 => μ.vf i9)) := dk_keep hw_3120 hh_3118 hm.vf (by decide)
  have h_3130 : w_3119 D.bv = some (109, dk_cl G 16 (fun i9 => μ.bv i9)) := dk_keep hw_3120 hh_3118 hm.bv (by decide)
  have h_3131 : w_3119 D.df = some (110, dk_cz G 700 (fun i9 => bo_i (μ.df i9))) := dk_keep hw_3120 hh_3118 hm.df (by decide)
  have h_3132 : w_3119 D.ss = some (111, dk_cz G 6 (fun i9 => bo_i (μ.ss i9))) := dk_keep hw_3120 hh_3118 hm.ss (by decide)
  have h_3133 : w_3119 D.bd = some (112, dk_cz G 16 (fun i9 => bo_i (μ.bd i9))) := dk_keep hw_3120 hh_3118 hm.bd (by decide)
  have h_3134 : w_3119 D.ks = some (113, dk_cz G 700 (fun i9 => bo_i (μ.ks i9))) := dk_keep hw_3120 hh_3118 hm.ks (by decide)
  have h_3135 : w_3119 D.bt = some (114, dk_cz G 6000 (fun i9 => bo_i (μ.bt i9))) := dk_keep hw_3120 hh_3118 hm.bt (by decide)
  have hm_3136 : md_at G w_3119 h D (μ.er' 0) := ⟨h_3121, h_3122, h_3123, h_3124, h_3125, h_3126, h_3127, h_3128, h_3129, h_3130, h_3131, h_3132, h_3133, h_3134, h_3135⟩
  have hh_3137 : w_3119 h = some (100, .inr (cx_M, [.int (nI 0), .int (nI μ.n), .int (nI μ.sq), .int (nI μ.sf), .int (nI μ.rs), .int (rI μ.ba), .int (nI μ.pr), .int (nI μ.mi), .ref D.kf, .ref D.nf, .ref D.rf, .ref D.lf, .ref D.sv, .ref D.bk, .ref D.od, .ref D.vf, .ref D.bv, .ref D.df, .ref D.ss, .ref D.bd, .ref D.ks, .ref D.bt])) := hm_3136.o
  have ha_3138 : w_3119 D.kf = some (101, dk_ci G 700 (fun i9 => nI (μ.kf i9))) := hm_3136.kf
  have ha_3139 : w_3119 D.nf = some (102, dk_ci G 700 (fun i9 => nI (μ.nf i9))) := hm_3136.nf
  have ha_3140 : w_3119 D.rf = some (103, dk_ci G 700 (fun i9 => rI (μ.rf i9))) := hm_3136.rf
  have ha_3141 : w_3119 D.lf = some (104, dk_ci G 5000 (fun i9 => rI (μ.lf i9))) := hm_3136.lf
  have ha_3142 : w_3119 D.sv = some (105, dk_ci G 6 (fun i9 => nI (μ.sv i9))) := hm_3136.sv
  have ha_3143 : w_3119 D.bk = some (106, dk_ci G 16 (fun i9 => nI (μ.bk i9))) := hm_3136.bk
  have ha_3144 : w_3119 D.od = some (107, dk_ci G 700 (fun i9 => nI (μ.od i9))) := hm_3136.od
  have ha_3145 : w_3119 D.vf = some (108, dk_cl G 700 (fun i9 => μ.vf i9)) := hm_3136.vf
  have ha_3146 : w_3119 D.bv = some (109, dk_cl G 16 (fun i9 => μ.bv i9)) := hm_3136.bv
  have ha_3147 : w_3119 D.df = some (110, dk_cz G 700 (fun i9 => bo_i (μ.df i9))) := hm_3136.df
  have ha_3148 : w_3119 D.ss = some (111, dk_cz G 6 (fun i9 => bo_i (μ.ss i9))) := hm_3136.ss
  have ha_3149 : w_3119 D.bd = some (112, dk_cz G 16 (fun i9 => bo_i (μ.bd i9))) := hm_3136.bd
  have ha_3150 : w_3119 D.ks = some (113, dk_cz G 700 (fun i9 => bo_i (μ.ks i9))) := hm_3136.ks
  have ha_3151 : w_3119 D.bt = some (114, dk_cz G 6000 (fun i9 => bo_i (μ.bt i9))) := hm_3136.bt
  refine lv_aload_n hx hb de_M_end_5 rfl (lv_at hl 0 rfl) ?_
  refine lv_aload_n hx hb de_M_end_6 rfl (lv_at hl 0 rfl) ?_
  refine dk_get (a := h) (v := .int (rI μ.ba)) (C := kn_M) (T := kt_M) (N := 22) hx hb hts ki_M hown hK hP hh_3137 rfl 5 (by decide) (hts _ wi_719) (fun _ h9 => h9) rfl de_M_end_7 ?_
  rw [show rI μ.ba = nI b9 from by rw [hba]; rfl]
  refine nx_if_ge (a := b9) (tgt := 17) hx hb (by omega) de_M_end_10 (by decide) ?_
  refine lv_iconst (v := nI 0) hx hb de_M_end_17 (by decide) ?_
  refine lv_iconst (v := nI 1) hx hb de_M_end_18 (by decide) ?_
  rw [show (nI 0) = bo_i false from (by decide)]
  refine dk_calli (va_runV (As := [.int (bo_i false), .int (nI 1)]) (rest := []) ⟨hx, hb, hml, hown, hts⟩ (c_M_fails l G w_3119 h D (μ.er' 0) hm_3136 false 1 (by decide) (by decide) (show (0 : Nat) < 3 by decide)) (cwV 2 hts (wd_gV (C := "RunKeeperModel") wi_799 wi_796 wi_798 (wd_p (q := (⟨"RunKeeperModel", "fails", "(ZI)Z"⟩, 22)) (by decide +kernel) (by decide +kernel)) wi_8) rfl rfl rfl (by decide +kernel) ⟨Nat.le_of_ble_eq_true rfl, Nat.le_of_ble_eq_true rfl⟩) (dk_preV (kn_M, kt_M, 22) hE hP hS hh_3137 rfl) rfl rfl hl.1 rfl (lv_room (Nat.le_of_ble_eq_true rfl)) de_M_end_19 ⟨(by first | exact Nat.le_of_ble_eq_true rfl | (simp only [Nat.zero_add]; omega) | omega), (by first | exact Nat.le_of_ble_eq_true rfl | (simp only [Nat.zero_add]; omega) | omega)⟩) hS (fun r_3155 w_3153 H locs hq_3154 hP hS => ?_)
  obtain ⟨hr_3156, hq_3157, hf_3158⟩ := hq_3154
  subst hr_3156
  have hm_3159 : md_at G w_3153 h D ((μ.er' 0).er' 0) := hq_3157
  have hh_3160 : w_3153 h = some (100, .inr (cx_M, [.int (nI 0), .int (nI μ.n), .int (nI μ.sq), .int (nI μ.sf), .int (nI μ.rs), .int (rI μ.ba), .int (nI μ.pr), .int (nI μ.mi), .ref D.kf, .ref D.nf, .ref D.rf, .ref D.lf, .ref D.sv, .ref D.bk, .ref D.od, .ref D.vf, .ref D.bv, .ref D.df, .ref D.ss, .ref D.bd, .ref D.ks, .ref D.bt])) := hm_3159.o
  have ha_3161 : w_3153 D.kf = some (101, dk_ci G 700 (fun i9 => nI (μ.kf i9))) := hm_3159.kf
  have ha_3162 : w_3153 D.nf = some (102, dk_ci G 700 (fun i9 => nI (μ.nf i9))) := hm_3159.nf
  have ha_3163 : w_3153 D.rf = some (103, dk_ci G 700 (fun i9 => rI (μ.rf i9))) := hm_3159.rf
  have ha_3164 : w_3153 D.lf = some (104, dk_ci G 5000 (fun i9 => rI (μ.lf i9))) := hm_3159.lf
  have ha_3165 : w_3153 D.sv = some (105, dk_ci G 6 (fun i9 => nI (μ.sv i9))) := hm_3159.sv
  have ha_3166 : w_3153 D.bk = some (106, dk_ci G 16 (fun i9 => nI (μ.bk i9))) := hm_3159.bk
  have ha_3167 : w_3153 D.od = some (107, dk_ci G 700 (fun i9 => nI (μ.od i9))) := hm_3159.od
  have ha_3168 : w_3153 D.vf = some (108, dk_cl G 700 (fun i9 => μ.vf i9)) := hm_3159.vf
  have ha_3169 : w_3153 D.bv = some (109, dk_cl G 16 (fun i9 => μ.bv i9)) := hm_3159.bv
  have ha_3170 : w_3153 D.df = some (110, dk_cz G 700 (fun i9 => bo_i (μ.df i9))) := hm_3159.df
  have ha_3171 : w_3153 D.ss = some (111, dk_cz G 6 (fun i9 => bo_i (μ.ss i9))) := hm_3159.ss
  have ha_3172 : w_3153 D.bd = some (112, dk_cz G 16 (fun i9 => bo_i (μ.bd i9))) := hm_3159.bd
  have ha_3173 : w_3153 D.ks = some (113, dk_cz G 700 (fun i9 => bo_i (μ.ks i9))) := hm_3159.ks
  have ha_3174 : w_3153 D.bt = some (114, dk_cz G 6000 (fun i9 => bo_i (μ.bt i9))) := hm_3159.bt
  refine bo_if_ne (b := false) (tgt := 57) hx hb de_M_end_22 (by decide) (fun c_3175 => ?_) (fun c_3175 => ?_)
  · exact absurd c_3175 (by decide)
  · refine lv_aload_n hx hb de_M_end_25 rfl (lv_at hl 0 rfl) ?_
    refine lv_iload_n hx hb de_M_end_26 rfl (lv_at hl 1 rfl) ?_
    refine bo_if_eq (b := false) (tgt := 49) hx hb de_M_end_27 (by decide) (fun c_3176 => ?_) (fun c_3176 => ?_)
    · refine lv_iconst (v := nI 0) hx hb de_M_end_49 (by decide) ?_
      refine lv_iconst (v := nI 2) hx hb de_M_end_50 (by decide) ?_
      rw [show (nI 0) = bo_i false from (by decide)]
      refine dk_calli (va_runV (As := [.int (bo_i false), .int (nI 2)]) (rest := []) ⟨hx, hb, hml, hown, hts⟩ (c_M_fails l G w_3153 h D ((μ.er' 0).er' 0) hm_3159 false 2 (by decide) (by decide) (show (0 : Nat) < 3 by decide)) (cwV 2 hts (wd_gV (C := "RunKeeperModel") wi_799 wi_796 wi_798 (wd_p (q := (⟨"RunKeeperModel", "fails", "(ZI)Z"⟩, 22)) (by decide +kernel) (by decide +kernel)) wi_8) rfl rfl rfl (by decide +kernel) ⟨Nat.le_of_ble_eq_true rfl, Nat.le_of_ble_eq_true rfl⟩) (dk_preV (kn_M, kt_M, 22) hE hP hS hh_3160 rfl) rfl rfl hl.1 rfl (lv_room (Nat.le_of_ble_eq_true rfl)) de_M_end_51 ⟨(by first | exact Nat.le_of_ble_eq_true rfl | (simp only [Nat.zero_add]; omega) | omega), (by first | exact Nat.le_of_ble_eq_true rfl | (simp only [Nat.zero_add]; omega) | omega)⟩) hS (fun r_3179 w_3177 H locs hq_3178 hP hS => ?_)
      obtain ⟨hr_3180, hq_3181, hf_3182⟩ := hq_3178
      subst hr_3180
      have hm_3183 : md_at G w_3177 h D (((μ.er' 0).er' 0).er' 0) := hq_3181
      have hh_3184 : w_3177 h = some (100, .inr (cx_M, [.int (nI 0), .int (nI μ.n), .int (nI μ.sq), .int (nI μ.sf), .int (nI μ.rs), .int (rI μ.ba), .int (nI μ.pr), .int (nI μ.mi), .ref D.kf, .ref D.nf, .ref D.rf, .ref D.lf, .ref D.sv, .ref D.bk, .ref D.od, .ref D.vf, .ref D.bv, .ref D.df, .ref D.ss, .ref D.bd, .ref D.ks, .ref D.bt])) := hm_3183.o
      have ha_3185 : w_3177 D.kf = some (101, dk_ci G 700 (fun i9 => nI (μ.kf i9))) := hm_3183.kf
      have ha_3186 : w_3177 D.nf = some (102, dk_ci G 700 (fun i9 => nI (μ.nf i9))) := hm_3183.nf
      have ha_3187 : w_3177 D.rf = some (103, dk_ci G 700 (fun i9 => rI (μ.rf i9))) := hm_3183.rf
      have ha_3188 : w_3177 D.lf = some (104, dk_ci G 5000 (fun i9 => rI (μ.lf i9))) := hm_3183.lf
      have ha_3189 : w_3177 D.sv = some (105, dk_ci G 6 (fun i9 => nI (μ.sv i9))) := hm_3183.sv
      have ha_3190 : w_3177 D.bk = some (106, dk_ci G 16 (fun i9 => nI (μ.bk i9))) := hm_3183.bk
      have ha_3191 : w_3177 D.od = some (107, dk_ci G 700 (fun i9 => nI (μ.od i9))) := hm_3183.od
      have ha_3192 : w_3177 D.vf = some (108, dk_cl G 700 (fun i9 => μ.vf i9)) := hm_3183.vf
      have ha_3193 : w_3177 D.bv = some (109, dk_cl G 16 (fun i9 => μ.bv i9)) := hm_3183.bv
      have ha_3194 : w_3177 D.df = some (110, dk_cz G 700 (fun i9 => bo_i (μ.df i9))) := hm_3183.df
      have ha_3195 : w_3177 D.ss = some (111, dk_cz G 6 (fun i9 => bo_i (μ.ss i9))) := hm_3183.ss
      have ha_3196 : w_3177 D.bd = some (112, dk_cz G 16 (fun i9 => bo_i (μ.bd i9))) := hm_3183.bd
      have ha_3197 : w_3177 D.ks = some (113, dk_cz G 700 (fun i9 => bo_i (μ.ks i9))) := hm_3183.ks
      have ha_3198 : w_3177 D.bt = some (114, dk_cz G 6000 (fun i9 => bo_i (μ.bt i9))) := hm_3183.bt
      refine bo_if_eq (b := false) (tgt := 59) hx hb de_M_end_54 (by decide) (fun c_3199 => ?_) (fun c_3199 => ?_)
      · refine lv_iload_n hx hb de_M_end_59 rfl (lv_at hl 1 rfl) ?_
        refine bo_if_eq (b := false) (tgt := 70) hx hb de_M_end_60 (by decide) (fun c_3200 => ?_) (fun c_3200 => ?_)
        · refine lv_iconst (v := nI 0) hx hb de_M_end_70 (by decide) ?_
          refine lv_istore_n (lv' := [(2, .int (nI 0)), (0, .ref h), (1, .int (bo_i false))]) hx hb de_M_end_71 rfl hl (by decide) rfl (fun ls hl => ?_)
          refine lv_iconst (v := nI 0) hx hb de_M_end_72 (by decide) ?_
          refine lv_istore_n (lv' := [(3, .int (nI 0)), (2, .int (nI 0)), (0, .ref h), (1, .int (bo_i false))]) hx hb de_M_end_73 rfl hl (by decide) rfl (fun ls hl => ?_)
          have hmo2 : md_ok (μ.er' 0) := ⟨ok1, ok2, ok3, ok4, ok5, ok6, ok7, ok8, ok9, ok10, show (0 : Nat) < 3 by decide⟩
          have lp : ∀ (zk : Nat) (i : Nat), 0 - i < zk → (i ≤ 0) → ∀ (H : Heap) (locs : List Loc) (v : dk_H), (md_at G v h D (md_wl (μ.er' 0) i)) → (dk_fr md_T w v) → dk_P G v H → dk_S G s.heap H locs → ∀ (ls : Array Slot), lv_has ls 4 [(0, .ref h), (1, .int (bo_i false)), (2, .int (nI 0)), (3, .int (nI i))] → W p l e rm_M_end s m args below meth c H locs (0 + 0 + 0) (0 + 0 + 0) Q (F0 m 74 ls []) := by
            intro zk
            induction zk with
            | zero =>
              intro i hk
              exact absurd hk (by omega)
            | succ zk ih =>
              intro i hk hi
              intro H locs v hmv hg hP hS
              intro ls hl
              have hh_3201 : v h = some (100, .inr (cx_M, [.int (nI ((md_wl (μ.er' 0) i).er)), .int (nI ((md_wl (μ.er' 0) i).n)), .int (nI ((md_wl (μ.er' 0) i).sq)), .int (nI ((md_wl (μ.er' 0) i).sf)), .int (nI ((md_wl (μ.er' 0) i).rs)), .int (rI ((md_wl (μ.er' 0) i).ba)), .int (nI ((md_wl (μ.er' 0) i).pr)), .int (nI ((md_wl (μ.er' 0) i).mi)), .ref D.kf, .ref D.nf, .ref D.rf, .ref D.lf, .ref D.sv, .ref D.bk, .ref D.od, .ref D.vf, .ref D.bv, .ref D.df, .ref D.ss, .ref D.bd, .ref D.ks, .ref D.bt])) := hmv.o
              have ha_3202 : v D.kf = some (101, dk_ci G 700 (fun i9 => nI ((md_wl (μ.er' 0) i).kf i9))) := hmv.kf
              have ha_3203 : v D.nf = some (102, dk_ci G 700 (fun i9 => nI ((md_wl (μ.er' 0) i).nf i9))) := hmv.nf
              have ha_3204 : v D.rf = some (103, dk_ci G 700 (fun i9 => rI ((md_wl (μ.er' 0) i).rf i9))) := hmv.rf
              have ha_3205 : v D.lf = some (104, dk_ci G 5000 (fun i9 => rI ((md_wl (μ.er' 0) i).lf i9))) := hmv.lf
              have ha_3206 : v D.sv = some (105, dk_ci G 6 (fun i9 => nI ((md_wl (μ.er' 0) i).sv i9))) := hmv.sv
              have ha_3207 : v D.bk = some (106, dk_ci G 16 (fun i9 => nI ((md_wl (μ.er' 0) i).bk i9))) := hmv.bk
              have ha_3208 : v D.od = some (107, dk_ci G 700 (fun i9 => nI ((md_wl (μ.er' 0) i).od i9))) := hmv.od
              have ha_3209 : v D.vf = some (108, dk_cl G 700 (fun i9 => (md_wl (μ.er' 0) i).vf i9)) := hmv.vf
              have ha_3210 : v D.bv = some (109, dk_cl G 16 (fun i9 => (md_wl (μ.er' 0) i).bv i9)) := hmv.bv
              have ha_3211 : v D.df = some (110, dk_cz G 700 (fun i9 => bo_i ((md_wl (μ.er' 0) i).df i9))) := hmv.df
              have ha_3212 : v D.ss = some (111, dk_cz G 6 (fun i9 => bo_i ((md_wl (μ.er' 0) i).ss i9))) := hmv.ss
              have ha_3213 : v D.bd = some (112, dk_cz G 16 (fun i9 => bo_i ((md_wl (μ.er' 0) i).bd i9))) := hmv.bd
              have ha_3214 : v D.ks = some (113, dk_cz G 700 (fun i9 => bo_i ((md_wl (μ.er' 0) i).ks i9))) := hmv.ks
              have ha_3215 : v D.bt = some (114, dk_cz G 6000 (fun i9 => bo_i ((md_wl (μ.er' 0) i).bt i9))) := hmv.bt
              have hwl := md_wl_p (μ.er' 0) i
              refine lv_iload_n hx hb de_M_end_74 rfl (lv_at hl 3 rfl) ?_
              refine lv_iload_n hx hb de_M_end_75 rfl (lv_at hl 2 rfl) ?_
              refine nx_icmp_ge (a := i) (b := 0) (tgt := 107) hx hb (by omega) (by omega) de_M_end_76 (by decide) (fun c_3216 => ?_) (fun c_3216 => ?_)
              · have e9 : i = 0 := by omega
                have hwe : md_wl (μ.er' 0) 0 = md_wl (μ.er' 0) i := by rw [e9]
                refine lv_aload_n hx hb de_M_end_107 rfl (lv_at hl 0 rfl) ?_
                refine lv_iconst (v := (-1)) hx hb de_M_end_108 (by decide) ?_
                refine dk_put (a := h) (v := .int (-1)) (ty := .int) (C := kn_M) (T := kt_M) (N := 22) hx hb hts ki_M ky_M kk_M kd_M hown hK hP hS hh_3201 rfl 5 (by decide) (hts _ wi_719) (fun _ h9 => h9) rfl (by decide +kernel) rfl rfl (Nat.le_of_ble_eq_true rfl) de_M_end_109 (fun H locs w_3217 hw_3218 hP hS => ?_)
                have h_3219 : w_3217 h = some (100, .inr (cx_M, [.int (nI ((md_wl (μ.er' 0) i).er)), .int (nI ((md_wl (μ.er' 0) i).n)), .int (nI ((md_wl (μ.er' 0) i).sq)), .int (nI ((md_wl (μ.er' 0) i).sf)), .int (nI ((md_wl (μ.er' 0) i).rs)), .int (-1), .int (nI ((md_wl (μ.er' 0) i).pr)), .int (nI ((md_wl (μ.er' 0) i).mi)), .ref D.kf, .ref D.nf, .ref D.rf, .ref D.lf, .ref D.sv, .ref D.bk, .ref D.od, .ref D.vf, .ref D.bv, .ref D.df, .ref D.ss, .ref D.bd, .ref D.ks, .ref D.bt])) := dk_here hw_3218
                have h_3220 : w_3217 D.kf = some (101, dk_ci G 700 (fun i9 => nI ((md_wl (μ.er' 0) i).kf i9))) := dk_keep hw_3218 hh_3201 ha_3202 (by decide)
                have h_3221 : w_3217 D.nf = some (102, dk_ci G 700 (fun i9 => nI ((md_wl (μ.er' 0) i).nf i9))) := dk_keep hw_3218 hh_3201 ha_3203 (by decide)
                have h_3222 : w_3217 D.rf = some (103, dk_ci G 700 (fun i9 => rI ((md_wl (μ.er' 0) i).rf i9))) := dk_keep hw_3218 hh_3201 ha_3204 (by decide)
                have h_3223 : w_3217 D.lf = some (104, dk_ci G 5000 (fun i9 => rI ((md_wl (μ.er' 0) i).lf i9))) := dk_keep hw_3218 hh_3201 ha_3205 (by decide)
                have h_3224 : w_3217 D.sv = some (105, dk_ci G 6 (fun i9 => nI ((md_wl (μ.er' 0) i).sv i9))) := dk_keep hw_3218 hh_3201 ha_3206 (by decide)
                have h_3225 : w_3217 D.bk = some (106, dk_ci G 16 (fun i9 => nI ((md_wl (μ.er' 0) i).bk i9))) := dk_keep hw_3218 hh_3201 ha_3207 (by decide)
                have h_3226 : w_3217 D.od = some (107, dk_ci G 700 (fun i9 => nI ((md_wl (μ.er' 0) i).od i9))) := dk_keep hw_3218 hh_3201 ha_3208 (by decide)
                have h_3227 : w_3217 D.vf = some (108, dk_cl G 700 (fun i9 => (md_wl (μ.er' 0) i).vf i9)) := dk_keep hw_3218 hh_3201 ha_3209 (by decide)
                have h_3228 : w_3217 D.bv = some (109, dk_cl G 16 (fun i9 => (md_wl (μ.er' 0) i).bv i9)) := dk_keep hw_3218 hh_3201 ha_3210 (by decide)
                have h_3229 : w_3217 D.df = some (110, dk_cz G 700 (fun i9 => bo_i ((md_wl (μ.er' 0) i).df i9))) := dk_keep hw_3218 hh_3201 ha_3211 (by decide)
                have h_3230 : w_3217 D.ss = some (111, dk_cz G 6 (fun i9 => bo_i ((md_wl (μ.er' 0) i).ss i9))) := dk_keep hw_3218 hh_3201 ha_3212 (by decide)
                have h_3231 : w_3217 D.bd = some (112, dk_cz G 16 (fun i9 => bo_i ((md_wl (μ.er' 0) i).bd i9))) := dk_keep hw_3218 hh_3201 ha_3213 (by decide)
                have h_3232 : w_3217 D.ks = some (113, dk_cz G 700 (fun i9 => bo_i ((md_wl (μ.er' 0) i).ks i9))) := dk_keep hw_3218 hh_3201 ha_3214 (by decide)
                have h_3233 : w_3217 D.bt = some (114, dk_cz G 6000 (fun i9 => bo_i ((md_wl (μ.er' 0) i).bt i9))) := dk_keep hw_3218 hh_3201 ha_3215 (by decide)
                have hm_3234 : md_at G w_3217 h D ((md_wl (μ.er' 0) i).ba' none) := ⟨h_3219, h_3220, h_3221, h_3222, h_3223, h_3224, h_3225, h_3226, h_3227, h_3228, h_3229, h_3230, h_3231, h_3232, h_3233⟩
                have hh_3235 : w_3217 h = some (100, .inr (cx_M, [.int (nI ((md_wl (μ.er' 0) i).er)), .int (nI ((md_wl (μ.er' 0) i).n)), .int (nI ((md_wl (μ.er' 0) i).sq)), .int (nI ((md_wl (μ.er' 0) i).sf)), .int (nI ((md_wl (μ.er' 0) i).rs)), .int (rI none), .int (nI ((md_wl (μ.er' 0) i).pr)), .int (nI ((md_wl (μ.er' 0) i).mi)), .ref D.kf, .ref D.nf, .ref D.rf, .ref D.lf, .ref D.sv, .ref D.bk, .ref D.od, .ref D.vf, .ref D.bv, .ref D.df, .ref D.ss, .ref D.bd, .ref D.ks, .ref D.bt])) := hm_3234.o
                have ha_3236 : w_3217 D.kf = some (101, dk_ci G 700 (fun i9 => nI ((md_wl (μ.er' 0) i).kf i9))) := hm_3234.kf
                have ha_3237 : w_3217 D.nf = some (102, dk_ci G 700 (fun i9 => nI ((md_wl (μ.er' 0) i).nf i9))) := hm_3234.nf
                have ha_3238 : w_3217 D.rf = some (103, dk_ci G 700 (fun i9 => rI ((md_wl (μ.er' 0) i).rf i9))) := hm_3234.rf
                have ha_3239 : w_3217 D.lf = some (104, dk_ci G 5000 (fun i9 => rI ((md_wl (μ.er' 0) i).lf i9))) := hm_3234.lf
                have ha_3240 : w_3217 D.sv = some (105, dk_ci G 6 (fun i9 => nI ((md_wl (μ.er' 0) i).sv i9))) := hm_3234.sv
                have ha_3241 : w_3217 D.bk = some (106, dk_ci G 16 (fun i9 => nI ((md_wl (μ.er' 0) i).bk i9))) := hm_3234.bk
                have ha_3242 : w_3217 D.od = some (107, dk_ci G 700 (fun i9 => nI ((md_wl (μ.er' 0) i).od i9))) := hm_3234.od
                have ha_3243 : w_3217 D.vf = some (108, dk_cl G 700 (fun i9 => (md_wl (μ.er' 0) i).vf i9)) := hm_3234.vf
                have ha_3244 : w_3217 D.bv = some (109, dk_cl G 16 (fun i9 => (md_wl (μ.er' 0) i).bv i9)) := hm_3234.bv
                have ha_3245 : w_3217 D.df = some (110, dk_cz G 700 (fun i9 => bo_i ((md_wl (μ.er' 0) i).df i9))) := hm_3234.df
                have ha_3246 : w_3217 D.ss = some (111, dk_cz G 6 (fun i9 => bo_i ((md_wl (μ.er' 0) i).ss i9))) := hm_3234.ss
                have ha_3247 : w_3217 D.bd = some (112, dk_cz G 16 (fun i9 => bo_i ((md_wl (μ.er' 0) i).bd i9))) := hm_3234.bd
                have ha_3248 : w_3217 D.ks = some (113, dk_cz G 700 (fun i9 => bo_i ((md_wl (μ.er' 0) i).ks i9))) := hm_3234.ks
                have ha_3249 : w_3217 D.bt = some (114, dk_cz G 6000 (fun i9 => bo_i ((md_wl (μ.er' 0) i).bt i9))) := hm_3234.bt
                have hmo3 : md_ok ((md_wl (μ.er' 0) i).ba' none) := md_wl_ok hmo2 i (by show μ.n + i ≤ 640; omega) (by show μ.sq + i < 2 ^ 30; omega)
                refine lv_aload_n hx hb de_M_end_112 rfl (lv_at hl 0 rfl) ?_
                refine lv_iconst (v := (-1)) hx hb de_M_end_113 (by decide) ?_
                refine dk_calli (va_runV (As := [.int (-1)]) (rest := []) ⟨hx, hb, hml, hown, hts⟩ (c_M_inRun l G w_3217 h D ((md_wl (μ.er' 0) i).ba' none) hm_3234 hmo3 none (fun r hr => by cases hr)) (cwV 1 hts (wd_gV (C := "RunKeeperModel") wi_807 wi_804 wi_806 (wd_p (q := (⟨"RunKeeperModel", "inRun", "(I)I"⟩, 22)) (by decide +kernel) (by decide +kernel)) wi_8) rfl rfl rfl (by decide +kernel) ⟨Nat.le_of_ble_eq_true rfl, Nat.le_of_ble_eq_true rfl⟩) (dk_preV (kn_M, kt_M, 22) hE hP hS hh_3235 rfl) rfl rfl hl.1 rfl (lv_room (Nat.le_of_ble_eq_true rfl)) de_M_end_114 ⟨(by first | exact Nat.le_of_ble_eq_true rfl | (simp only [Nat.zero_add]; omega) | omega), (by first | exact Nat.le_of_ble_eq_true rfl | (simp only [Nat.zero_add]; omega) | omega)⟩) hS (fun r_3252 w_3250 H locs hq_3251 hP hS => ?_)
                obtain ⟨hr_3253, he_3254⟩ := hq_3251
                subst hr_3253
                rw [he_3254] at hP
                have hck := md_k_le ((md_wl (μ.er' 0) i).ba' none)
                have hn9 : ((md_wl (μ.er' 0) i).ba' none).n = μ.n + i := hwl.1
                refine lv_bipush (v := nI 24) hx hb de_M_end_117 (by decide) ?_
                refine nx_icmp_lt (a := md_k ((md_wl (μ.er' 0) i).ba' none)) (b := 24) (tgt := 127) hx hb (by omega) (by omega) de_M_end_119 (by decide) (fun c_3255 => ?_) (fun c_3255 => ?_)
                · refine lv_iload_n hx hb de_M_end_127 rfl (lv_at hl 2 rfl) ?_
                  exact dk_iret hQ hx hb hr hlocks hP hS (Nat.le_refl _) (Nat.le_refl _) (⟨rfl, by rw [hwe, md_ff, if_neg (by omega)]; exact hm_3234, hg.tr ((dk_fr.rf).tr ((dk_fr.up (T := md_T) hh_3201 (by unfold md_T; omega)).eq hw_3218))⟩) de_M_end_128
                · refine lv_aload_n hx hb de_M_end_122 rfl (lv_at hl 0 rfl) ?_
                  refine dk_calli (va_runV (As := []) (rest := []) ⟨hx, hb, hml, hown, hts⟩ (c_M_flushed l G w_3217 h D ((md_wl (μ.er' 0) i).ba' none) hm_3234 hmo3) (cwV 0 hts (wd_gV (C := "RunKeeperModel") wi_811 wi_808 wi_810 (wd_p (q := (⟨"RunKeeperModel", "flushed", "()I"⟩, 22)) (by decide +kernel) (by decide +kernel)) wi_8) rfl rfl rfl (by decide +kernel) ⟨Nat.le_of_ble_eq_true rfl, Nat.le_of_ble_eq_true rfl⟩) (dk_preV (kn_M, kt_M, 22) hE hP hS hh_3235 rfl) rfl rfl hl.1 rfl (lv_room (Nat.le_of_ble_eq_true rfl)) de_M_end_123 ⟨(by first | exact Nat.le_of_ble_eq_true rfl | (simp only [Nat.zero_add]; omega) | omega), (by first | exact Nat.le_of_ble_eq_true rfl | (simp only [Nat.zero_add]; omega) | omega)⟩) hS (fun r_3258 w_3256 H locs hq_3257 hP hS => ?_)
                  obtain ⟨-, hq2, hq3⟩ := hq_3257
                  refine lv_pop hx hb de_M_end_126 rfl ?_
                  refine lv_iload_n hx hb de_M_end_127 rfl (lv_at hl 2 rfl) ?_
                  exact dk_iret hQ hx hb hr hlocks hP hS (Nat.le_refl _) (Nat.le_refl _) (⟨rfl, by rw [hwe, md_ff, if_pos (by omega)]; exact hq2, hg.tr (((dk_fr.rf).tr ((dk_fr.up (T := md_T) hh_3201 (by unfold md_T; omega)).eq hw_3218)).tr hq3)⟩) de_M_end_128
              · exact absurd c_3216 (by omega)
          exact lp (0 + 1) 0 (by omega) (Nat.zero_le _) _ _ _ (by exact hm_3183) ((((dk_fr.rf).tr ((dk_fr.up (T := md_T) hh_3118 (by unfold md_T; omega)).eq hw_3120)).tr (hf_3158)).tr (hf_3182)) hP hS _ (lv_sub hl [2, 3, 1, 0] rfl)
        · exact absurd c_3200 (by decide)
      · exact absurd c_3199 (by decide)
    · exact absurd c_3176 (by decide)
abbrev rm_M_snapshot : Room := { frames := 1, cells := 0, slots := 0, locals := 22 }
set_option maxHeartbeats 4000000 in
set_option maxRecDepth 100000 in
theorem c_M_snapshotF (l : Launch) (G : dk_G) (w : dk_H) (h : Nat) (D : md_D) (μ : md_S) (hm : md_at G w h D μ) (hmo : md_ok μ) (ha : ∀ i, i < 6 → μ.ss i = true) : dk_Mi l my_M_snapshot (wd_c my_M_snapshot mb_M_snapshot 2 (some .int)) rm_M_snapshot G w [.ref h] (fun r w1 => r = nI 0 ∧ md_at G w1 h D (μ.er' 1) ∧ dk_fr md_T w w1) 0 0 := by
  obtain ⟨ok1, ok2, ok3, ok4, ok5, ok6, ok7, ok8, ok9, ok10, ok11⟩ := id hmo
  refine dk_enter (lv := [(0, .ref h)]) (by decide) (Nat.le_of_ble_eq_true rfl) rfl (fun p e s m args below meth c ls Q hQ C hP hS hl => ?_)
  obtain ⟨hx, hb, hr, hml, hlocks, hown, hnm, hts, hE⟩ := C
  have hK := hE.1
  have hN := hE.2.1
  have hh_3259 : w h = some (100, .inr (cx_M, [.int (nI μ.er), .int (nI μ.n), .int (nI μ.sq), .int (nI μ.sf), .int (nI μ.rs), .int (rI μ.ba), .int (nI μ.pr), .int (nI μ.mi), .ref D.kf, .ref D.nf, .ref D.rf, .ref D.lf, .ref D.sv, .ref D.bk, .ref D.od, .ref D.vf, .ref D.bv, .ref D.df, .ref D.ss, .ref D.bd, .ref D.ks, .ref D.bt])) := hm.o
  refine lv_aload_n hx hb de_M_snapshot_0 rfl (lv_at hl 0 rfl) ?_
  refine lv_iconst (v := nI 0) hx hb de_M_snapshot_1 (by decide) ?_
  refine dk_put (a := h) (v := .int (nI 0)) (ty := .int) (C := kn_M) (T := kt_M) (N := 22) hx hb hts ki_M ky_M kk_M kd_M hown hK hP hS hh_3259 rfl 0 (by decide) (hts _ wi_714) (fun _ h9 => h9) rfl (by decide +kernel) rfl rfl (Nat.le_of_ble_eq_true rfl) de_M_snapshot_2 (fun H locs w_3260 hw_3261 hP hS => ?_)
  have h_3262 : w_3260 h = some (100, .inr (cx_M, [.int (nI 0), .int (nI μ.n), .int (nI μ.sq), .int (nI μ.sf), .int (nI μ.rs), .int (rI μ.ba), .int (nI μ.pr), .int (nI μ.mi), .ref D.kf, .ref D.nf, .ref D.rf, .ref D.lf, .ref D.sv, .ref D.bk, .ref D.od, .ref D.vf, .ref D.bv, .ref D.df, .ref D.ss, .ref D.bd, .ref D.ks, .ref D.bt])) := dk_here hw_3261
  have h_3263 : w_3260 D.kf = some (101, dk_ci G 700 (fun i9 => nI (μ.kf i9))) := dk_keep hw_3261 hh_3259 hm.kf (by decide)
  have h_3264 : w_3260 D.nf = some (102, dk_ci G 700 (fun i9 => nI (μ.nf i9))) := dk_keep hw_3261 hh_3259 hm.nf (by decide)
  have h_3265 : w_3260 D.rf = some (103, dk_ci G 700 (fun i9 => rI (μ.rf i9))) := dk_keep hw_3261 hh_3259 hm.rf (by decide)
  have h_3266 : w_3260 D.lf = some (104, dk_ci G 5000 (fun i9 => rI (μ.lf i9))) := dk_keep hw_3261 hh_3259 hm.lf (by decide)
  have h_3267 : w_3260 D.sv = some (105, dk_ci G 6 (fun i9 => nI (μ.sv i9))) := dk_keep hw_3261 hh_3259 hm.sv (by decide)
  have h_3268 : w_3260 D.bk = some (106, dk_ci G 16 (fun i9 => nI (μ.bk i9))) := dk_keep hw_3261 hh_3259 hm.bk (by decide)
  have h_3269 : w_3260 D.od = some (107, dk_ci G 700 (fun i9 => nI (μ.od i9))) := dk_keep hw_3261 hh_3259 hm.od (by decide)
  have h_3270 : w_3260 D.vf = some (108, dk_cl G 700 (fun i9 => μ.vf i9)) := dk_keep hw_3261 hh_3259 hm.vf (by decide)
  have h_3271 : w_3260 D.bv = some (109, dk_cl G 16 (fun i9 => μ.bv i9)) := dk_keep hw_3261 hh_3259 hm.bv (by decide)
  have h_3272 : w_3260 D.df = some (110, dk_cz G 700 (fun i9 => bo_i (μ.df i9))) := dk_keep hw_3261 hh_3259 hm.df (by decide)
  have h_3273 : w_3260 D.ss = some (111, dk_cz G 6 (fun i9 => bo_i (μ.ss i9))) := dk_keep hw_3261 hh_3259 hm.ss (by decide)
  have h_3274 : w_3260 D.bd = some (112, dk_cz G 16 (fun i9 => bo_i (μ.bd i9))) := dk_keep hw_3261 hh_3259 hm.bd (by decide)
  have h_3275 : w_3260 D.ks = some (113, dk_cz G 700 (fun i9 => bo_i (μ.ks i9))) := dk_keep hw_3261 hh_3259 hm.ks (by decide)
  have h_3276 : w_3260 D.bt = some (114, dk_cz G 6000 (fun i9 => bo_i (μ.bt i9))) := dk_keep hw_3261 hh_3259 hm.bt (by decide)
  have hm_3277 : md_at G w_3260 h D (μ.er' 0) := ⟨h_3262, h_3263, h_3264, h_3265, h_3266, h_3267, h_3268, h_3269, h_3270, h_3271, h_3272, h_3273, h_3274, h_3275, h_3276⟩
  have hh_3278 : w_3260 h = some (100, .inr (cx_M, [.int (nI 0), .int (nI μ.n), .int (nI μ.sq), .int (nI μ.sf), .int (nI μ.rs), .int (rI μ.ba), .int (nI μ.pr), .int (nI μ.mi), .ref D.kf, .ref D.nf, .ref D.rf, .ref D.lf, .ref D.sv, .ref D.bk, .ref D.od, .ref D.vf, .ref D.bv, .ref D.df, .ref D.ss, .ref D.bd, .ref D.ks, .ref D.bt])) := hm_3277.o
  have ha_3279 : w_3260 D.kf = some (101, dk_ci G 700 (fun i9 => nI (μ.kf i9))) := hm_3277.kf
  have ha_3280 : w_3260 D.nf = some (102, dk_ci G 700 (fun i9 => nI (μ.nf i9))) := hm_3277.nf
  have ha_3281 : w_3260 D.rf = some (103, dk_ci G 700 (fun i9 => rI (μ.rf i9))) := hm_3277.rf
  have ha_3282 : w_3260 D.lf = some (104, dk_ci G 5000 (fun i9 => rI (μ.lf i9))) := hm_3277.lf
  have ha_3283 : w_3260 D.sv = some (105, dk_ci G 6 (fun i9 => nI (μ.sv i9))) := hm_3277.sv
  have ha_3284 : w_3260 D.bk = some (106, dk_ci G 16 (fun i9 => nI (μ.bk i9))) := hm_3277.bk
  have ha_3285 : w_3260 D.od = some (107, dk_ci G 700 (fun i9 => nI (μ.od i9))) := hm_3277.od
  have ha_3286 : w_3260 D.vf = some (108, dk_cl G 700 (fun i9 => μ.vf i9)) := hm_3277.vf
  have ha_3287 : w_3260 D.bv = some (109, dk_cl G 16 (fun i9 => μ.bv i9)) := hm_3277.bv
  have ha_3288 : w_3260 D.df = some (110, dk_cz G 700 (fun i9 => bo_i (μ.df i9))) := hm_3277.df
  have ha_3289 : w_3260 D.ss = some (111, dk_cz G 6 (fun i9 => bo_i (μ.ss i9))) := hm_3277.ss
  have ha_3290 : w_3260 D.bd = some (112, dk_cz G 16 (fun i9 => bo_i (μ.bd i9))) := hm_3277.bd
  have ha_3291 : w_3260 D.ks = some (113, dk_cz G 700 (fun i9 => bo_i (μ.ks i9))) := hm_3277.ks
  have ha_3292 : w_3260 D.bt = some (114, dk_cz G 6000 (fun i9 => bo_i (μ.bt i9))) := hm_3277.bt
  refine lv_iconst (v := nI 0) hx hb de_M_snapshot_5 (by decide) ?_
  refine lv_istore_n (lv' := [(1, .int (nI 0)), (0, .ref h)]) hx hb de_M_snapshot_6 rfl hl (by decide) rfl (fun ls hl => ?_)
  have lp : ∀ (zk : Nat) (i : Nat), 6 - i < zk → (i ≤ 6) → ∀ (ls : Array Slot), lv_has ls 2 [(0, .ref h), (1, .int (nI i))] → W p l e rm_M_snapshot s m args below meth c H locs 0 0 Q (F0 m 7 ls []) := by
    intro zk
    induction zk with
    | zero =>
      intro i hk
      exact absurd hk (by omega)
    | succ zk ih =>
      intro i hk hi
      intro ls hl
      refine lv_iload_n hx hb de_M_snapshot_7 rfl (lv_at hl 1 rfl) ?_
      refine lv_bipush (v := nI 6) hx hb de_M_snapshot_8 (by decide) ?_
      refine nx_icmp_ge (a := i) (b := 6) (tgt := 28) hx hb (by omega) (by omega) de_M_snapshot_10 (by decide) (fun c_3293 => ?_) (fun c_3293 => ?_)
      · refine lv_aload_n hx hb de_M_snapshot_28 rfl (lv_at hl 0 rfl) ?_
        refine lv_iload_n hx hb de_M_snapshot_29 rfl (lv_at hl 1 rfl) ?_
        refine lv_bipush (v := nI 6) hx hb de_M_snapshot_30 (by decide) ?_
        refine nx_icmp_ne (a := i) (b := 6) (tgt := 39) hx hb (by omega) (by omega) de_M_snapshot_32 (by decide) (fun c_3294 => ?_) (fun c_3294 => ?_)
        · exact absurd c_3294 (by omega)
        · refine lv_iconst (v := nI 1) hx hb de_M_snapshot_35 (by decide) ?_
          refine lv_goto (tgt := 40) hx hb de_M_snapshot_36 (by decide) ?_
          refine lv_iconst (v := nI 1) hx hb de_M_snapshot_40 (by decide) ?_
          rw [show (nI 1) = bo_i true from (by decide)]
          refine dk_calli (va_runV (As := [.int (bo_i true), .int (nI 1)]) (rest := []) ⟨hx, hb, hml, hown, hts⟩ (c_M_fails l G w_3260 h D (μ.er' 0) hm_3277 true 1 (by decide) (by decide) (show (0 : Nat) < 3 by decide)) (cwV 2 hts (wd_gV (C := "RunKeeperModel") wi_799 wi_796 wi_798 (wd_p (q := (⟨"RunKeeperModel", "fails", "(ZI)Z"⟩, 22)) (by decide +kernel) (by decide +kernel)) wi_8) rfl rfl rfl (by decide +kernel) ⟨Nat.le_of_ble_eq_true rfl, Nat.le_of_ble_eq_true rfl⟩) (dk_preV (kn_M, kt_M, 22) hE hP hS hh_3278 rfl) rfl rfl hl.1 rfl (lv_room (Nat.le_of_ble_eq_true rfl)) de_M_snapshot_41 ⟨(by first | exact Nat.le_of_ble_eq_true rfl | (simp only [Nat.zero_add]; omega) | omega), (by first | exact Nat.le_of_ble_eq_true rfl | (simp only [Nat.zero_add]; omega) | omega)⟩) hS (fun r_3297 w_3295 H locs hq_3296 hP hS => ?_)
          obtain ⟨hr_3298, hq_3299, hf_3300⟩ := hq_3296
          subst hr_3298
          have hm_3301 : md_at G w_3295 h D ((μ.er' 0).er' 1) := hq_3299
          have hh_3302 : w_3295 h = some (100, .inr (cx_M, [.int (nI 1), .int (nI μ.n), .int (nI μ.sq), .int (nI μ.sf), .int (nI μ.rs), .int (rI μ.ba), .int (nI μ.pr), .int (nI μ.mi), .ref D.kf, .ref D.nf, .ref D.rf, .ref D.lf, .ref D.sv, .ref D.bk, .ref D.od, .ref D.vf, .ref D.bv, .ref D.df, .ref D.ss, .ref D.bd, .ref D.ks, .ref D.bt])) := hm_3301.o
          have ha_3303 : w_3295 D.kf = some (101, dk_ci G 700 (fun i9 => nI (μ.kf i9))) := hm_3301.kf
          have ha_3304 : w_3295 D.nf = some (102, dk_ci G 700 (fun i9 => nI (μ.nf i9))) := hm_3301.nf
          have ha_3305 : w_3295 D.rf = some (103, dk_ci G 700 (fun i9 => rI (μ.rf i9))) := hm_3301.rf
          have ha_3306 : w_3295 D.lf = some (104, dk_ci G 5000 (fun i9 => rI (μ.lf i9))) := hm_3301.lf
          have ha_3307 : w_3295 D.sv = some (105, dk_ci G 6 (fun i9 => nI (μ.sv i9))) := hm_3301.sv
          have ha_3308 : w_3295 D.bk = some (106, dk_ci G 16 (fun i9 => nI (μ.bk i9))) := hm_3301.bk
          have ha_3309 : w_3295 D.od = some (107, dk_ci G 700 (fun i9 => nI (μ.od i9))) := hm_3301.od
          have ha_3310 : w_3295 D.vf = some (108, dk_cl G 700 (fun i9 => μ.vf i9)) := hm_3301.vf
          have ha_3311 : w_3295 D.bv = some (109, dk_cl G 16 (fun i9 => μ.bv i9)) := hm_3301.bv
          have ha_3312 : w_3295 D.df = some (110, dk_cz G 700 (fun i9 => bo_i (μ.df i9))) := hm_3301.df
          have ha_3313 : w_3295 D.ss = some (111, dk_cz G 6 (fun i9 => bo_i (μ.ss i9))) := hm_3301.ss
          have ha_3314 : w_3295 D.bd = some (112, dk_cz G 16 (fun i9 => bo_i (μ.bd i9))) := hm_3301.bd
          have ha_3315 : w_3295 D.ks = some (113, dk_cz G 700 (fun i9 => bo_i (μ.ks i9))) := hm_3301.ks
          have ha_3316 : w_3295 D.bt = some (114, dk_cz G 6000 (fun i9 => bo_i (μ.bt i9))) := hm_3301.bt
          refine bo_if_eq (b := true) (tgt := 49) hx hb de_M_snapshot_44 (by decide) (fun c_3317 => ?_) (fun c_3317 => ?_)
          · exact absurd c_3317 (by decide)
          · refine lv_iconst (v := nI 0) hx hb de_M_snapshot_47 (by decide) ?_
            exact dk_iret hQ hx hb hr hlocks hP hS (Nat.le_refl _) (Nat.le_refl _) (⟨rfl, hm_3301, ((dk_fr.rf).tr ((dk_fr.up (T := md_T) hh_3259 (by unfold md_T; omega)).eq hw_3261)).tr (hf_3300)⟩) de_M_snapshot_48
      · refine lv_aload_n hx hb de_M_snapshot_13 rfl (lv_at hl 0 rfl) ?_
        refine dk_get (a := h) (v := .ref D.ss) (C := kn_M) (T := kt_M) (N := 22) hx hb hts ki_M hown hK hP hh_3278 rfl 18 (by decide) (hts _ wi_732) (fun _ h9 => h9) rfl de_M_snapshot_14 ?_
        refine lv_iload_n hx hb de_M_snapshot_17 rfl (lv_at hl 1 rfl) ?_
        refine dk_zald (a := D.ss) hx hb hK hP ha_3289 i rfl (by omega) (by omega) de_M_snapshot_18 ?_
        refine bo_if_eq (b := (μ.ss i)) (tgt := 28) hx hb de_M_snapshot_19 (by decide) (fun c_3318 => ?_) (fun c_3318 => ?_)
        · exact absurd c_3318 (by rw [ha i (by omega)]; decide)
        · refine lv_iinc (v := nI (i + 1)) (lv' := [(1, .int (nI (i + 1))), (0, .ref h)]) hx hb de_M_snapshot_22 hl (k := 1) rfl (nx_inc i) (by decide) rfl (fun ls hl => ?_)
          refine lv_goto (tgt := 7) hx hb de_M_snapshot_25 (by decide) ?_
          exact ih (i + 1) (by omega) (by omega) _ (lv_sub hl [1, 0] rfl)
  exact lp (6 + 1) 0 (by omega) (Nat.zero_le _) _ (lv_sub hl [1, 0] rfl)
set_option maxHeartbeats 4000000 in
set_option maxRecDepth 100000 in
theorem c_M_snapshotS (l : Launch) (G : dk_G) (w : dk_H) (h : Nat) (D : md_D) (μ : md_S) (hm : md_at G w h D μ) (hmo : md_ok μ) (j : Nat) (hj : j < 6) (hj0 : μ.ss j = false) (ha : ∀ i, i < j → μ.ss i = true) : dk_Mi l my_M_snapshot (wd_c my_M_snapshot mb_M_snapshot 2 (some .int)) rm_M_snapshot G w [.ref h] (fun r w1 => r = nI j ∧ md_at G w1 h D (((μ.er' 0).ss' (va_up μ.ss j true)).sv' (va_up μ.sv j μ.sq)) ∧ dk_fr md_T w w1) 0 0 := by
  obtain ⟨ok1, ok2, ok3, ok4, ok5, ok6, ok7, ok8, ok9, ok10, ok11⟩ := id hmo
  refine dk_enter (lv := [(0, .ref h)]) (by decide) (Nat.le_of_ble_eq_true rfl) rfl (fun p e s m args below meth c ls Q hQ C hP hS hl => ?_)
  obtain ⟨hx, hb, hr, hml, hlocks, hown, hnm, hts, hE⟩ := C
  have hK := hE.1
  have hN := hE.2.1
  have hh_3319 : w h = some (100, .inr (cx_M, [.int (nI μ.er), .int (nI μ.n), .int (nI μ.sq), .int (nI μ.sf), .int (nI μ.rs), .int (rI μ.ba), .int (nI μ.pr), .int (nI μ.mi), .ref D.kf, .ref D.nf, .ref D.rf, .ref D.lf, .ref D.sv, .ref D.bk, .ref D.od, .ref D.vf, .ref D.bv, .ref D.df, .ref D.ss, .ref D.bd, .ref D.ks, .ref D.bt])) := hm.o
  refine lv_aload_n hx hb de_M_snapshot_0 rfl (lv_at hl 0 rfl) ?_
  refine lv_iconst (v := nI 0) hx hb de_M_snapshot_1 (by decide) ?_
  refine dk_put (a := h) (v := .int (nI 0)) (ty := .int) (C := kn_M) (T := kt_M) (N := 22) hx hb hts ki_M ky_M kk_M kd_M hown hK hP hS hh_3319 rfl 0 (by decide) (hts _ wi_714) (fun _ h9 => h9) rfl (by decide +kernel) rfl rfl (Nat.le_of_ble_eq_true rfl) de_M_snapshot_2 (fun H locs w_3320 hw_3321 hP hS => ?_)
  have h_3322 : w_3320 h = some (100, .inr (cx_M, [.int (nI 0), .int (nI μ.n), .int (nI μ.sq), .int (nI μ.sf), .int (nI μ.rs), .int (rI μ.ba), .int (nI μ.pr), .int (nI μ.mi), .ref D.kf, .ref D.nf, .ref D.rf, .ref D.lf, .ref D.sv, .ref D.bk, .ref D.od, .ref D.vf, .ref D.bv, .ref D.df, .ref D.ss, .ref D.bd, .ref D.ks, .ref D.bt])) := dk_here hw_3321
  have h_3323 : w_3320 D.kf = some (101, dk_ci G 700 (fun i9 => nI (μ.kf i9))) := dk_keep hw_3321 hh_3319 hm.kf (by decide)
  have h_3324 : w_3320 D.nf = some (102, dk_ci G 700 (fun i9 => nI (μ.nf i9))) := dk_keep hw_3321 hh_3319 hm.nf (by decide)
  have h_3325 : w_3320 D.rf = some (103, dk_ci G 700 (fun i9 => rI (μ.rf i9))) := dk_keep hw_3321 hh_3319 hm.rf (by decide)
  have h_3326 : w_3320 D.lf = some (104, dk_ci G 5000 (fun i9 => rI (μ.lf i9))) := dk_keep hw_3321 hh_3319 hm.lf (by decide)
  have h_3327 : w_3320 D.sv = some (105, dk_ci G 6 (fun i9 => nI (μ.sv i9))) := dk_keep hw_3321 hh_3319 hm.sv (by decide)
  have h_3328 : w_3320 D.bk = some (106, dk_ci G 16 (fun i9 => nI (μ.bk i9))) := dk_keep hw_3321 hh_3319 hm.bk (by decide)
  have h_3329 : w_3320 D.od = some (107, dk_ci G 700 (fun i9 => nI (μ.od i9))) := dk_keep hw_3321 hh_3319 hm.od (by decide)
  have h_3330 : w_3320 D.vf = some (108, dk_cl G 700 (fun i9 => μ.vf i9)) := dk_keep hw_3321 hh_3319 hm.vf (by decide)
  have h_3331 : w_3320 D.bv = some (109, dk_cl G 16 (fun i9 => μ.bv i9)) := dk_keep hw_3321 hh_3319 hm.bv (by decide)
  have h_3332 : w_3320 D.df = some (110, dk_cz G 700 (fun i9 => bo_i (μ.df i9))) := dk_keep hw_3321 hh_3319 hm.df (by decide)
  have h_3333 : w_3320 D.ss = some (111, dk_cz G 6 (fun i9 => bo_i (μ.ss i9))) := dk_keep hw_3321 hh_3319 hm.ss (by decide)
  have h_3334 : w_3320 D.bd = some (112, dk_cz G 16 (fun i9 => bo_i (μ.bd i9))) := dk_keep hw_3321 hh_3319 hm.bd (by decide)
  have h_3335 : w_3320 D.ks = some (113, dk_cz G 700 (fun i9 => bo_i (μ.ks i9))) := dk_keep hw_3321 hh_3319 hm.ks (by decide)
  have h_3336 : w_3320 D.bt = some (114, dk_cz G 6000 (fun i9 => bo_i (μ.bt i9))) := dk_keep hw_3321 hh_3319 hm.bt (by decide)
  have hm_3337 : md_at G w_3320 h D (μ.er' 0) := ⟨h_3322, h_3323, h_3324, h_3325, h_3326, h_3327, h_3328, h_3329, h_3330, h_3331, h_3332, h_3333, h_3334, h_3335, h_3336⟩
  have hh_3338 : w_3320 h = some (100, .inr (cx_M, [.int (nI 0), .int (nI μ.n), .int (nI μ.sq), .int (nI μ.sf), .int (nI μ.rs), .int (rI μ.ba), .int (nI μ.pr), .int (nI μ.mi), .ref D.kf, .ref D.nf, .ref D.rf, .ref D.lf, .ref D.sv, .ref D.bk, .ref D.od, .ref D.vf, .ref D.bv, .ref D.df, .ref D.ss, .ref D.bd, .ref D.ks, .ref D.bt])) := hm_3337.o
  have ha_3339 : w_3320 D.kf = some (101, dk_ci G 700 (fun i9 => nI (μ.kf i9))) := hm_3337.kf
  have ha_3340 : w_3320 D.nf = some (102, dk_ci G 700 (fun i9 => nI (μ.nf i9))) := hm_3337.nf
  have ha_3341 : w_3320 D.rf = some (103, dk_ci G 700 (fun i9 => rI (μ.rf i9))) := hm_3337.rf
  have ha_3342 : w_3320 D.lf = some (104, dk_ci G 5000 (fun i9 => rI (μ.lf i9))) := hm_3337.lf
  have ha_3343 : w_3320 D.sv = some (105, dk_ci G 6 (fun i9 => nI (μ.sv i9))) := hm_3337.sv
  have ha_3344 : w_3320 D.bk = some (106, dk_ci G 16 (fun i9 => nI (μ.bk i9))) := hm_3337.bk
  have ha_3345 : w_3320 D.od = some (107, dk_ci G 700 (fun i9 => nI (μ.od i9))) := hm_3337.od
  have ha_3346 : w_3320 D.vf = some (108, dk_cl G 700 (fun i9 => μ.vf i9)) := hm_3337.vf
  have ha_3347 : w_3320 D.bv = some (109, dk_cl G 16 (fun i9 => μ.bv i9)) := hm_3337.bv
  have ha_3348 : w_3320 D.df = some (110, dk_cz G 700 (fun i9 => bo_i (μ.df i9))) := hm_3337.df
  have ha_3349 : w_3320 D.ss = some (111, dk_cz G 6 (fun i9 => bo_i (μ.ss i9))) := hm_3337.ss
  have ha_3350 : w_3320 D.bd = some (112, dk_cz G 16 (fun i9 => bo_i (μ.bd i9))) := hm_3337.bd
  have ha_3351 : w_3320 D.ks = some (113, dk_cz G 700 (fun i9 => bo_i (μ.ks i9))) := hm_3337.ks
  have ha_3352 : w_3320 D.bt = some (114, dk_cz G 6000 (fun i9 => bo_i (μ.bt i9))) := hm_3337.bt
  refine lv_iconst (v := nI 0) hx hb de_M_snapshot_5 (by decide) ?_
  refine lv_istore_n (lv' := [(1, .int (nI 0)), (0, .ref h)]) hx hb de_M_snapshot_6 rfl hl (by decide) rfl (fun ls hl => ?_)
  have lp : ∀ (zk : Nat) (i : Nat), j - i < zk → (i ≤ j) → ∀ (ls : Array Slot), lv_has ls 2 [(0, .ref h), (1, .int (nI i))] → W p l e rm_M_snapshot s m args below meth c H locs 0 0 Q (F0 m 7 ls []) := by
    intro zk
    induction zk with
    | zero =>
      intro i hk
      exact absurd hk (by omega)
    | succ zk ih =>
      intro i hk hi
      intro ls hl
      refine lv_iload_n hx hb de_M_snapshot_7 rfl (lv_at hl 1 rfl) ?_
      refine lv_bipush (v := nI 6) hx hb de_M_snapshot_8 (by decide) ?_
      refine nx_icmp_ge (a := i) (b := 6) (tgt := 28) hx hb (by omega) (by omega) de_M_snapshot_10 (by decide) (fun c_3353 => ?_) (fun c_3353 => ?_)
      · exact absurd c_3353 (by omega)
      · refine lv_aload_n hx hb de_M_snapshot_13 rfl (lv_at hl 0 rfl) ?_
        refine dk_get (a := h) (v := .ref D.ss) (C := kn_M) (T := kt_M) (N := 22) hx hb hts ki_M hown hK hP hh_3338 rfl 18 (by decide) (hts _ wi_732) (fun _ h9 => h9) rfl de_M_snapshot_14 ?_
        refine lv_iload_n hx hb de_M_snapshot_17 rfl (lv_at hl 1 rfl) ?_
        refine dk_zald (a := D.ss) hx hb hK hP ha_3349 i rfl (by omega) (by omega) de_M_snapshot_18 ?_
        refine bo_if_eq (b := (μ.ss i)) (tgt := 28) hx hb de_M_snapshot_19 (by decide) (fun c_3354 => ?_) (fun c_3354 => ?_)
        · have h9 : i = j := sn_ij hi (fun h8 => by rw [ha i h8] at c_3354; exact absurd c_3354 (by decide))
          refine lv_aload_n hx hb de_M_snapshot_28 rfl (lv_at hl 0 rfl) ?_
          refine lv_iload_n hx hb de_M_snapshot_29 rfl (lv_at hl 1 rfl) ?_
          refine lv_bipush (v := nI 6) hx hb de_M_snapshot_30 (by decide) ?_
          refine nx_icmp_ne (a := i) (b := 6) (tgt := 39) hx hb (by omega) (by omega) de_M_snapshot_32 (by decide) (fun c_3355 => ?_) (fun c_3355 => ?_)
          · refine lv_iconst (v := nI 0) hx hb de_M_snapshot_39 (by decide) ?_
            refine lv_iconst (v := nI 1) hx hb de_M_snapshot_40 (by decide) ?_
            rw [show (nI 0) = bo_i false from (by decide)]
            refine dk_calli (va_runV (As := [.int (bo_i false), .int (nI 1)]) (rest := []) ⟨hx, hb, hml, hown, hts⟩ (c_M_fails l G w_3320 h D (μ.er' 0) hm_3337 false 1 (by decide) (by decide) (show (0 : Nat) < 3 by decide)) (cwV 2 hts (wd_gV (C := "RunKeeperModel") wi_799 wi_796 wi_798 (wd_p (q := (⟨"RunKeeperModel", "fails", "(ZI)Z"⟩, 22)) (by decide +kernel) (by decide +kernel)) wi_8) rfl rfl rfl (by decide +kernel) ⟨Nat.le_of_ble_eq_true rfl, Nat.le_of_ble_eq_true rfl⟩) (dk_preV (kn_M, kt_M, 22) hE hP hS hh_3338 rfl) rfl rfl hl.1 rfl (lv_room (Nat.le_of_ble_eq_true rfl)) de_M_snapshot_41 ⟨(by first | exact Nat.le_of_ble_eq_true rfl | (simp only [Nat.zero_add]; omega) | omega), (by first | exact Nat.le_of_ble_eq_true rfl | (simp only [Nat.zero_add]; omega) | omega)⟩) hS (fun r_3358 w_3356 H locs hq_3357 hP hS => ?_)
            obtain ⟨hr_3359, hq_3360, hf_3361⟩ := hq_3357
            subst hr_3359
            have hm_3362 : md_at G w_3356 h D ((μ.er' 0).er' 0) := hq_3360
            have hh_3363 : w_3356 h = some (100, .inr (cx_M, [.int (nI 0), .int (nI μ.n), .int (nI μ.sq), .int (nI μ.sf), .int (nI μ.rs), .int (rI μ.ba), .int (nI μ.pr), .int (nI μ.mi), .ref D.kf, .ref D.nf, .ref D.rf, .ref D.lf, .ref D.sv, .ref D.bk, .ref D.od, .ref D.vf, .ref D.bv, .ref D.df, .ref D.ss, .ref D.bd, .ref D.ks, .ref D.bt])) := hm_3362.o
            have ha_3364 : w_3356 D.kf = some (101, dk_ci G 700 (fun i9 => nI (μ.kf i9))) := hm_3362.kf
            have ha_3365 : w_3356 D.nf = some (102, dk_ci G 700 (fun i9 => nI (μ.nf i9))) := hm_3362.nf
            have ha_3366 : w_3356 D.rf = some (103, dk_ci G 700 (fun i9 => rI (μ.rf i9))) := hm_3362.rf
            have ha_3367 : w_3356 D.lf = some (104, dk_ci G 5000 (fun i9 => rI (μ.lf i9))) := hm_3362.lf
            have ha_3368 : w_3356 D.sv = some (105, dk_ci G 6 (fun i9 => nI (μ.sv i9))) := hm_3362.sv
            have ha_3369 : w_3356 D.bk = some (106, dk_ci G 16 (fun i9 => nI (μ.bk i9))) := hm_3362.bk
            have ha_3370 : w_3356 D.od = some (107, dk_ci G 700 (fun i9 => nI (μ.od i9))) := hm_3362.od
            have ha_3371 : w_3356 D.vf = some (108, dk_cl G 700 (fun i9 => μ.vf i9)) := hm_3362.vf
            have ha_3372 : w_3356 D.bv = some (109, dk_cl G 16 (fun i9 => μ.bv i9)) := hm_3362.bv
            have ha_3373 : w_3356 D.df = some (110, dk_cz G 700 (fun i9 => bo_i (μ.df i9))) := hm_3362.df
            have ha_3374 : w_3356 D.ss = some (111, dk_cz G 6 (fun i9 => bo_i (μ.ss i9))) := hm_3362.ss
            have ha_3375 : w_3356 D.bd = some (112, dk_cz G 16 (fun i9 => bo_i (μ.bd i9))) := hm_3362.bd
            have ha_3376 : w_3356 D.ks = some (113, dk_cz G 700 (fun i9 => bo_i (μ.ks i9))) := hm_3362.ks
            have ha_3377 : w_3356 D.bt = some (114, dk_cz G 6000 (fun i9 => bo_i (μ.bt i9))) := hm_3362.bt
            refine bo_if_eq (b := false) (tgt := 49) hx hb de_M_snapshot_44 (by decide) (fun c_3378 => ?_) (fun c_3378 => ?_)
            · refine lv_aload_n hx hb de_M_snapshot_49 rfl (lv_at hl 0 rfl) ?_
              refine dk_get (a := h) (v := .ref D.ss) (C := kn_M) (T := kt_M) (N := 22) hx hb hts ki_M hown hK hP hh_3363 rfl 18 (by decide) (hts _ wi_732) (fun _ h9 => h9) rfl de_M_snapshot_50 ?_
              refine lv_iload_n hx hb de_M_snapshot_53 rfl (lv_at hl 1 rfl) ?_
              refine lv_iconst (v := nI 1) hx hb de_M_snapshot_54 (by decide) ?_
              refine dk_zast (a := D.ss) (x := (bo_i true)) hx hb hK hP hS ha_3374 i rfl (by omega) (by omega) (bo_vn true) de_M_snapshot_55 (fun H locs w_3379 hw_3380 hP hS => ?_)
              rw [up_bo] at hw_3380
              have h_3381 : w_3379 D.ss = some (111, dk_cz G 6 (fun i9 => bo_i ((va_up μ.ss i true) i9))) := dk_here hw_3380
              have h_3382 : w_3379 h = some (100, .inr (cx_M, [.int (nI 0), .int (nI μ.n), .int (nI μ.sq), .int (nI μ.sf), .int (nI μ.rs), .int (rI μ.ba), .int (nI μ.pr), .int (nI μ.mi), .ref D.kf, .ref D.nf, .ref D.rf, .ref D.lf, .ref D.sv, .ref D.bk, .ref D.od, .ref D.vf, .ref D.bv, .ref D.df, .ref D.ss, .ref D.bd, .ref D.ks, .ref D.bt])) := dk_keep hw_3380 ha_3374 hh_3363 (by decide)
              have h_3383 : w_3379 D.kf = some (101, dk_ci G 700 (fun i9 => nI (μ.kf i9))) := dk_keep hw_3380 ha_3374 ha_3364 (by decide)
              have h_3384 : w_3379 D.nf = some (102, dk_ci G 700 (fun i9 => nI (μ.nf i9))) := dk_keep hw_3380 ha_3374 ha_3365 (by decide)
              have h_3385 : w_3379 D.rf = some (103, dk_ci G 700 (fun i9 => rI (μ.rf i9))) := dk_keep hw_3380 ha_3374 ha_3366 (by decide)
              have h_3386 : w_3379 D.lf = some (104, dk_ci G 5000 (fun i9 => rI (μ.lf i9))) := dk_keep hw_3380 ha_3374 ha_3367 (by decide)
              have h_3387 : w_3379 D.sv = some (105, dk_ci G 6 (fun i9 => nI (μ.sv i9))) := dk_keep hw_3380 ha_3374 ha_3368 (by decide)
              have h_3388 : w_3379 D.bk = some (106, dk_ci G 16 (fun i9 => nI (μ.bk i9))) := dk_keep hw_3380 ha_3374 ha_3369 (by decide)
              have h_3389 : w_3379 D.od = some (107, dk_ci G 700 (fun i9 => nI (μ.od i9))) := dk_keep hw_3380 ha_3374 ha_3370 (by decide)
              have h_3390 : w_3379 D.vf = some (108, dk_cl G 700 (fun i9 => μ.vf i9)) := dk_keep hw_3380 ha_3374 ha_3371 (by decide)
              have h_3391 : w_3379 D.bv = some (109, dk_cl G 16 (fun i9 => μ.bv i9)) := dk_keep hw_3380 ha_3374 ha_3372 (by decide)
              have h_3392 : w_3379 D.df = some (110, dk_cz G 700 (fun i9 => bo_i (μ.df i9))) := dk_keep hw_3380 ha_3374 ha_3373 (by decide)
              have h_3393 : w_3379 D.bd = some (112, dk_cz G 16 (fun i9 => bo_i (μ.bd i9))) := dk_keep hw_3380 ha_3374 ha_3375 (by decide)
              have h_3394 : w_3379 D.ks = some (113, dk_cz G 700 (fun i9 => bo_i (μ.ks i9))) := dk_keep hw_3380 ha_3374 ha_3376 (by decide)
              have h_3395 : w_3379 D.bt = some (114, dk_cz G 6000 (fun i9 => bo_i (μ.bt i9))) := dk_keep hw_3380 ha_3374 ha_3377 (by decide)
              refine lv_aload_n hx hb de_M_snapshot_56 rfl (lv_at hl 0 rfl) ?_
              refine dk_get (a := h) (v := .ref D.sv) (C := kn_M) (T := kt_M) (N := 22) hx hb hts ki_M hown hK hP h_3382 rfl 12 (by decide) (hts _ wi_726) (fun _ h9 => h9) rfl de_M_snapshot_57 ?_
              refine lv_iload_n hx hb de_M_snapshot_60 rfl (lv_at hl 1 rfl) ?_
              refine lv_aload_n hx hb de_M_snapshot_61 rfl (lv_at hl 0 rfl) ?_
              refine dk_get (a := h) (v := .int (nI μ.sq)) (C := kn_M) (T := kt_M) (N := 22) hx hb hts ki_M hown hK hP h_3382 rfl 2 (by decide) (hts _ wi_716) (fun _ h9 => h9) rfl de_M_snapshot_62 ?_
              refine dk_iast (a := D.sv) (x := (nI μ.sq)) hx hb hK hP hS h_3387 i rfl (by omega) (by omega) de_M_snapshot_65 (fun H locs w_3396 hw_3397 hP hS => ?_)
              rw [up_nI] at hw_3397
              have h_3398 : w_3396 D.sv = some (105, dk_ci G 6 (fun i9 => nI ((va_up μ.sv i μ.sq) i9))) := dk_here hw_3397
              have h_3399 : w_3396 h = some (100, .inr (cx_M, [.int (nI 0), .int (nI μ.n), .int (nI μ.sq), .int (nI μ.sf), .int (nI μ.rs), .int (rI μ.ba), .int (nI μ.pr), .int (nI μ.mi), .ref D.kf, .ref D.nf, .ref D.rf, .ref D.lf, .ref D.sv, .ref D.bk, .ref D.od, .ref D.vf, .ref D.bv, .ref D.df, .ref D.ss, .ref D.bd, .ref D.ks, .ref D.bt])) := dk_keep hw_3397 h_3387 h_3382 (by decide)
              have h_3400 : w_3396 D.kf = some (101, dk_ci G 700 (fun i9 => nI (μ.kf i9))) := dk_keep hw_3397 h_3387 h_3383 (by decide)
              have h_3401 : w_3396 D.nf = some (102, dk_ci G 700 (fun i9 => nI (μ.nf i9))) := dk_keep hw_3397 h_3387 h_3384 (by decide)
              have h_3402 : w_3396 D.rf = some (103, dk_ci G 700 (fun i9 => rI (μ.rf i9))) := dk_keep hw_3397 h_3387 h_3385 (by decide)
              have h_3403 : w_3396 D.lf = some (104, dk_ci G 5000 (fun i9 => rI (μ.lf i9))) := dk_keep hw_3397 h_3387 h_3386 (by decide)
              have h_3404 : w_3396 D.bk = some (106, dk_ci G 16 (fun i9 => nI (μ.bk i9))) := dk_keep hw_3397 h_3387 h_3388 (by decide)
              have h_3405 : w_3396 D.od = some (107, dk_ci G 700 (fun i9 => nI (μ.od i9))) := dk_keep hw_3397 h_3387 h_3389 (by decide)
              have h_3406 : w_3396 D.vf = some (108, dk_cl G 700 (fun i9 => μ.vf i9)) := dk_keep hw_3397 h_3387 h_3390 (by decide)
              have h_3407 : w_3396 D.bv = some (109, dk_cl G 16 (fun i9 => μ.bv i9)) := dk_keep hw_3397 h_3387 h_3391 (by decide)
              have h_3408 : w_3396 D.df = some (110, dk_cz G 700 (fun i9 => bo_i (μ.df i9))) := dk_keep hw_3397 h_3387 h_3392 (by decide)
              have h_3409 : w_3396 D.ss = some (111, dk_cz G 6 (fun i9 => bo_i ((va_up μ.ss i true) i9))) := dk_keep hw_3397 h_3387 h_3381 (by decide)
              have h_3410 : w_3396 D.bd = some (112, dk_cz G 16 (fun i9 => bo_i (μ.bd i9))) := dk_keep hw_3397 h_3387 h_3393 (by decide)
              have h_3411 : w_3396 D.ks = some (113, dk_cz G 700 (fun i9 => bo_i (μ.ks i9))) := dk_keep hw_3397 h_3387 h_3394 (by decide)
              have h_3412 : w_3396 D.bt = some (114, dk_cz G 6000 (fun i9 => bo_i (μ.bt i9))) := dk_keep hw_3397 h_3387 h_3395 (by decide)
              refine lv_iload_n hx hb de_M_snapshot_66 rfl (lv_at hl 1 rfl) ?_
              have hm_3413 : md_at G w_3396 h D ((((μ.er' 0).er' 0).ss' (va_up μ.ss i true)).sv' (va_up μ.sv i μ.sq)) := ⟨h_3399, h_3400, h_3401, h_3402, h_3403, h_3398, h_3404, h_3405, h_3406, h_3407, h_3408, h_3409, h_3410, h_3411, h_3412⟩
              exact dk_iret hQ hx hb hr hlocks hP hS (Nat.le_refl _) (Nat.le_refl _) (⟨by rw [h9], by rw [← h9]; exact hm_3413, ((((dk_fr.rf).tr ((dk_fr.up (T := md_T) hh_3319 (by unfold md_T; omega)).eq hw_3321)).tr (hf_3361)).tr ((dk_fr.up (T := md_T) ha_3374 (by unfold md_T; omega)).eq hw_3380)).tr ((dk_fr.up (T := md_T) h_3387 (by unfold md_T; omega)).eq hw_3397)⟩) de_M_snapshot_67
            · exact absurd c_3378 (by decide)
          · exact absurd c_3355 (by omega)
        · have h9 : i ≠ j := fun z => by rw [z, hj0] at c_3354; exact absurd c_3354 (by decide)
          refine lv_iinc (v := nI (i + 1)) (lv' := [(1, .int (nI (i + 1))), (0, .ref h)]) hx hb de_M_snapshot_22 hl (k := 1) rfl (nx_inc i) (by decide) rfl (fun ls hl => ?_)
          refine lv_goto (tgt := 7) hx hb de_M_snapshot_25 (by decide) ?_
          exact ih (i + 1) (by omega) (by omega) _ (lv_sub hl [1, 0] rfl)
  exact lp (j + 1) 0 (by omega) (Nat.zero_le _) _ (lv_sub hl [1, 0] rfl)
abbrev rm_M_release : Room := { frames := 2, cells := 0, slots := 0, locals := 43 }
set_option maxHeartbeats 4000000 in
set_option maxRecDepth 100000 in
theorem c_M_releaseF (l : Launch) (G : dk_G) (w : dk_H) (h : Nat) (D : md_D) (μ : md_S) (hm : md_at G w h D μ) (hmo : md_ok μ) (k : Int32) (hv : vs_g μ k = none) : dk_Mv l my_M_release (wd_c my_M_release mb_M_release 2 none) rm_M_release G w [.ref h, .int k] (fun w1 => md_at G w1 h D (μ.er' 1) ∧ dk_fr md_T w w1) 0 0 := by
  refine dk_enter (lv := [(0, .ref h), (1, .int k)]) (by decide) (Nat.le_of_ble_eq_true rfl) rfl (fun p e s m args below meth c ls Q hQ C hP hS hl => ?_)
  obtain ⟨hx, hb, hr, hml, hlocks, hown, hnm, hts, hE⟩ := C
  have hK := hE.1
  have hN := hE.2.1
  have hh_3414 : w h = some (100, .inr (cx_M, [.int (nI μ.er), .int (nI μ.n), .int (nI μ.sq), .int (nI μ.sf), .int (nI μ.rs), .int (rI μ.ba), .int (nI μ.pr), .int (nI μ.mi), .ref D.kf, .ref D.nf, .ref D.rf, .ref D.lf, .ref D.sv, .ref D.bk, .ref D.od, .ref D.vf, .ref D.bv, .ref D.df, .ref D.ss, .ref D.bd, .ref D.ks, .ref D.bt])) := hm.o
  refine lv_aload_n hx hb de_M_release_0 rfl (lv_at hl 0 rfl) ?_
  refine lv_iconst (v := nI 0) hx hb de_M_release_1 (by decide) ?_
  refine dk_put (a := h) (v := .int (nI 0)) (ty := .int) (C := kn_M) (T := kt_M) (N := 22) hx hb hts ki_M ky_M kk_M kd_M hown hK hP hS hh_3414 rfl 0 (by decide) (hts _ wi_714) (fun _ h9 => h9) rfl (by decide +kernel) rfl rfl (Nat.le_of_ble_eq_true rfl) de_M_release_2 (fun H locs w_3415 hw_3416 hP hS => ?_)
  have h_3417 : w_3415 h = some (100, .inr (cx_M, [.int (nI 0), .int (nI μ.n), .int (nI μ.sq), .int (nI μ.sf), .int (nI μ.rs), .int (rI μ.ba), .int (nI μ.pr), .int (nI μ.mi), .ref D.kf, .ref D.nf, .ref D.rf, .ref D.lf, .ref D.sv, .ref D.bk, .ref D.od, .ref D.vf, .ref D.bv, .ref D.df, .ref D.ss, .ref D.bd, .ref D.ks, .ref D.bt])) := dk_here hw_3416
  have h_3418 : w_3415 D.kf = some (101, dk_ci G 700 (fun i9 => nI (μ.kf i9))) := dk_keep hw_3416 hh_3414 hm.kf (by decide)
  have h_3419 : w_3415 D.nf = some (102, dk_ci G 700 (fun i9 => nI (μ.nf i9))) := dk_keep hw_3416 hh_3414 hm.nf (by decide)
  have h_3420 : w_3415 D.rf = some (103, dk_ci G 700 (fun i9 => rI (μ.rf i9))) := dk_keep hw_3416 hh_3414 hm.rf (by decide)
  have h_3421 : w_3415 D.lf = some (104, dk_ci G 5000 (fun i9 => rI (μ.lf i9))) := dk_keep hw_3416 hh_3414 hm.lf (by decide)
  have h_3422 : w_3415 D.sv = some (105, dk_ci G 6 (fun i9 => nI (μ.sv i9))) := dk_keep hw_3416 hh_3414 hm.sv (by decide)
  have h_3423 : w_3415 D.bk = some (106, dk_ci G 16 (fun i9 => nI (μ.bk i9))) := dk_keep hw_3416 hh_3414 hm.bk (by decide)
  have h_3424 : w_3415 D.od = some (107, dk_ci G 700 (fun i9 => nI (μ.od i9))) := dk_keep hw_3416 hh_3414 hm.od (by decide)
  have h_3425 : w_3415 D.vf = some (108, dk_cl G 700 (fun i9 => μ.vf i9)) := dk_keep hw_3416 hh_3414 hm.vf (by decide)
  have h_3426 : w_3415 D.bv = some (109, dk_cl G 16 (fun i9 => μ.bv i9)) := dk_keep hw_3416 hh_3414 hm.bv (by decide)
  have h_3427 : w_3415 D.df = some (110, dk_cz G 700 (fun i9 => bo_i (μ.df i9))) := dk_keep hw_3416 hh_3414 hm.df (by decide)
  have h_3428 : w_3415 D.ss = some (111, dk_cz G 6 (fun i9 => bo_i (μ.ss i9))) := dk_keep hw_3416 hh_3414 hm.ss (by decide)
  have h_3429 : w_3415 D.bd = some (112, dk_cz G 16 (fun i9 => bo_i (μ.bd i9))) := dk_keep hw_3416 hh_3414 hm.bd (by decide)
  have h_3430 : w_3415 D.ks = some (113, dk_cz G 700 (fun i9 => bo_i (μ.ks i9))) := dk_keep hw_3416 hh_3414 hm.ks (by decide)
  have h_3431 : w_3415 D.bt = some (114, dk_cz G 6000 (fun i9 => bo_i (μ.bt i9))) := dk_keep hw_3416 hh_3414 hm.bt (by decide)
  have hm_3432 : md_at G w_3415 h D (μ.er' 0) := ⟨h_3417, h_3418, h_3419, h_3420, h_3421, h_3422, h_3423, h_3424, h_3425, h_3426, h_3427, h_3428, h_3429, h_3430, h_3431⟩
  have hh_3433 : w_3415 h = some (100, .inr (cx_M, [.int (nI 0), .int (nI μ.n), .int (nI μ.sq), .int (nI μ.sf), .int (nI μ.rs), .int (rI μ.ba), .int (nI μ.pr), .int (nI μ.mi), .ref D.kf, .ref D.nf, .ref D.rf, .ref D.lf, .ref D.sv, .ref D.bk, .ref D.od, .ref D.vf, .ref D.bv, .ref D.df, .ref D.ss, .ref D.bd, .ref D.ks, .ref D.bt])) := hm_3432.o
  have ha_3434 : w_3415 D.kf = some (101, dk_ci G 700 (fun i9 => nI (μ.kf i9))) := hm_3432.kf
  have ha_3435 : w_3415 D.nf = some (102, dk_ci G 700 (fun i9 => nI (μ.nf i9))) := hm_3432.nf
  have ha_3436 : w_3415 D.rf = some (103, dk_ci G 700 (fun i9 => rI (μ.rf i9))) := hm_3432.rf
  have ha_3437 : w_3415 D.lf = some (104, dk_ci G 5000 (fun i9 => rI (μ.lf i9))) := hm_3432.lf
  have ha_3438 : w_3415 D.sv = some (105, dk_ci G 6 (fun i9 => nI (μ.sv i9))) := hm_3432.sv
  have ha_3439 : w_3415 D.bk = some (106, dk_ci G 16 (fun i9 => nI (μ.bk i9))) := hm_3432.bk
  have ha_3440 : w_3415 D.od = some (107, dk_ci G 700 (fun i9 => nI (μ.od i9))) := hm_3432.od
  have ha_3441 : w_3415 D.vf = some (108, dk_cl G 700 (fun i9 => μ.vf i9)) := hm_3432.vf
  have ha_3442 : w_3415 D.bv = some (109, dk_cl G 16 (fun i9 => μ.bv i9)) := hm_3432.bv
  have ha_3443 : w_3415 D.df = some (110, dk_cz G 700 (fun i9 => bo_i (μ.df i9))) := hm_3432.df
  have ha_3444 : w_3415 D.ss = some (111, dk_cz G 6 (fun i9 => bo_i (μ.ss i9))) := hm_3432.ss
  have ha_3445 : w_3415 D.bd = some (112, dk_cz G 16 (fun i9 => bo_i (μ.bd i9))) := hm_3432.bd
  have ha_3446 : w_3415 D.ks = some (113, dk_cz G 700 (fun i9 => bo_i (μ.ks i9))) := hm_3432.ks
  have ha_3447 : w_3415 D.bt = some (114, dk_cz G 6000 (fun i9 => bo_i (μ.bt i9))) := hm_3432.bt
  refine lv_aload_n hx hb de_M_release_5 rfl (lv_at hl 0 rfl) ?_
  refine lv_aload_n hx hb de_M_release_6 rfl (lv_at hl 0 rfl) ?_
  refine lv_iload_n hx hb de_M_release_7 rfl (lv_at hl 1 rfl) ?_
  refine dk_calli (va_runV (As := [.int k]) (rest := [.ref h]) ⟨hx, hb, hml, hown, hts⟩ (c_M_isNone l G w_3415 h D (μ.er' 0) hm_3432 k) (cwV 1 hts (wd_gV (C := "RunKeeperModel") wi_872 wi_869 wi_871 (wd_p (q := (⟨"RunKeeperModel", "isNone", "(I)Z"⟩, 22)) (by decide +kernel) (by decide +kernel)) wi_8) rfl rfl rfl (by decide +kernel) ⟨Nat.le_of_ble_eq_true rfl, Nat.le_of_ble_eq_true rfl⟩) (dk_preV (kn_M, kt_M, 22) hE hP hS hh_3433 rfl) rfl rfl hl.1 rfl (lv_room (Nat.le_of_ble_eq_true rfl)) de_M_release_8 ⟨(by first | exact Nat.le_of_ble_eq_true rfl | (simp only [Nat.zero_add]; omega) | omega), (by first | exact Nat.le_of_ble_eq_true rfl | (simp only [Nat.zero_add]; omega) | omega)⟩) hS (fun r_3450 w_3448 H locs hq_3449 hP hS => ?_)
  rw [show vs_g (μ.er' 0) k = none from hv] at hq_3449
  obtain ⟨hr_3451, he_3452⟩ := hq_3449
  subst hr_3451
  rw [he_3452] at hP
  refine lv_iconst (v := nI 1) hx hb de_M_release_11 (by decide) ?_
  refine dk_calli (va_runV (As := [.int (bo_i true), .int (nI 1)]) (rest := []) ⟨hx, hb, hml, hown, hts⟩ (c_M_fails l G w_3415 h D (μ.er' 0) hm_3432 true 1 (by decide) (by decide) (show (0 : Nat) < 3 by decide)) (cwV 2 hts (wd_gV (C := "RunKeeperModel") wi_799 wi_796 wi_798 (wd_p (q := (⟨"RunKeeperModel", "fails", "(ZI)Z"⟩, 22)) (by decide +kernel) (by decide +kernel)) wi_8) rfl rfl rfl (by decide +kernel) ⟨Nat.le_of_ble_eq_true rfl, Nat.le_of_ble_eq_true rfl⟩) (dk_preV (kn_M, kt_M, 22) hE hP hS hh_3433 rfl) rfl rfl hl.1 rfl (lv_room (Nat.le_of_ble_eq_true rfl)) de_M_release_12 ⟨(by first | exact Nat.le_of_ble_eq_true rfl | (simp only [Nat.zero_add]; omega) | omega), (by first | exact Nat.le_of_ble_eq_true rfl | (simp only [Nat.zero_add]; omega) | omega)⟩) hS (fun r_3455 w_3453 H locs hq_3454 hP hS => ?_)
  obtain ⟨hr_3456, hq_3457, hf_3458⟩ := hq_3454
  subst hr_3456
  have hm_3459 : md_at G w_3453 h D ((μ.er' 0).er' 1) := hq_3457
  have hh_3460 : w_3453 h = some (100, .inr (cx_M, [.int (nI 1), .int (nI μ.n), .int (nI μ.sq), .int (nI μ.sf), .int (nI μ.rs), .int (rI μ.ba), .int (nI μ.pr), .int (nI μ.mi), .ref D.kf, .ref D.nf, .ref D.rf, .ref D.lf, .ref D.sv, .ref D.bk, .ref D.od, .ref D.vf, .ref D.bv, .ref D.df, .ref D.ss, .ref D.bd, .ref D.ks, .ref D.bt])) := hm_3459.o
  have ha_3461 : w_3453 D.kf = some (101, dk_ci G 700 (fun i9 => nI (μ.kf i9))) := hm_3459.kf
  have ha_3462 : w_3453 D.nf = some (102, dk_ci G 700 (fun i9 => nI (μ.nf i9))) := hm_3459.nf
  have ha_3463 : w_3453 D.rf = some (103, dk_ci G 700 (fun i9 => rI (μ.rf i9))) := hm_3459.rf
  have ha_3464 : w_3453 D.lf = some (104, dk_ci G 5000 (fun i9 => rI (μ.lf i9))) := hm_3459.lf
  have ha_3465 : w_3453 D.sv = some (105, dk_ci G 6 (fun i9 => nI (μ.sv i9))) := hm_3459.sv
  have ha_3466 : w_3453 D.bk = some (106, dk_ci G 16 (fun i9 => nI (μ.bk i9))) := hm_3459.bk
  have ha_3467 : w_3453 D.od = some (107, dk_ci G 700 (fun i9 => nI (μ.od i9))) := hm_3459.od
  have ha_3468 : w_3453 D.vf = some (108, dk_cl G 700 (fun i9 => μ.vf i9)) := hm_3459.vf
  have ha_3469 : w_3453 D.bv = some (109, dk_cl G 16 (fun i9 => μ.bv i9)) := hm_3459.bv
  have ha_3470 : w_3453 D.df = some (110, dk_cz G 700 (fun i9 => bo_i (μ.df i9))) := hm_3459.df
  have ha_3471 : w_3453 D.ss = some (111, dk_cz G 6 (fun i9 => bo_i (μ.ss i9))) := hm_3459.ss
  have ha_3472 : w_3453 D.bd = some (112, dk_cz G 16 (fun i9 => bo_i (μ.bd i9))) := hm_3459.bd
  have ha_3473 : w_3453 D.ks = some (113, dk_cz G 700 (fun i9 => bo_i (μ.ks i9))) := hm_3459.ks
  have ha_3474 : w_3453 D.bt = some (114, dk_cz G 6000 (fun i9 => bo_i (μ.bt i9))) := hm_3459.bt
  refine bo_if_ne (b := true) (tgt := 25) hx hb de_M_release_15 (by decide) (fun c_3475 => ?_) (fun c_3475 => ?_)
  · exact dk_vret hQ hx hb hr hlocks hP hS (Nat.le_refl _) (Nat.le_refl _) (⟨hm_3459, ((dk_fr.rf).tr ((dk_fr.up (T := md_T) hh_3414 (by unfold md_T; omega)).eq hw_3416)).tr (hf_3458)⟩) de_M_release_25
  · exact absurd c_3475 (by decide)
set_option maxHeartbeats 4000000 in
set_option maxRecDepth 100000 in
theorem c_M_releaseS (l : Launch) (G : dk_G) (w : dk_H) (h : Nat) (D : md_D) (μ : md_S) (hm : md_at G w h D μ) (hmo : md_ok μ) (j : Nat) (hj : j < 6) (hv : μ.ss j = true) : dk_Mv l my_M_release (wd_c my_M_release mb_M_release 2 none) rm_M_release G w [.ref h, .int (nI j)] (fun w1 => md_at G w1 h D ((μ.er' 0).ss' (va_up μ.ss j false)) ∧ dk_fr md_T w w1) 0 0 := by
  refine dk_enter (lv := [(0, .ref h), (1, .int (nI j))]) (by decide) (Nat.le_of_ble_eq_true rfl) rfl (fun p e s m args below meth c ls Q hQ C hP hS hl => ?_)
  obtain ⟨hx, hb, hr, hml, hlocks, hown, hnm, hts, hE⟩ := C
  have hK := hE.1
  have hN := hE.2.1
  have hh_3476 : w h = some (100, .inr (cx_M, [.int (nI μ.er), .int (nI μ.n), .int (nI μ.sq), .int (nI μ.sf), .int (nI μ.rs), .int (rI μ.ba), .int (nI μ.pr), .int (nI μ.mi), .ref D.kf, .ref D.nf, .ref D.rf, .ref D.lf, .ref D.sv, .ref D.bk, .ref D.od, .ref D.vf, .ref D.bv, .ref D.df, .ref D.ss, .ref D.bd, .ref D.ks, .ref D.bt])) := hm.o
  refine lv_aload_n hx hb de_M_release_0 rfl (lv_at hl 0 rfl) ?_
  refine lv_iconst (v := nI 0) hx hb de_M_release_1 (by decide) ?_
  refine dk_put (a := h) (v := .int (nI 0)) (ty := .int) (C := kn_M) (T := kt_M) (N := 22) hx hb hts ki_M ky_M kk_M kd_M hown hK hP hS hh_3476 rfl 0 (by decide) (hts _ wi_714) (fun _ h9 => h9) rfl (by decide +kernel) rfl rfl (Nat.le_of_ble_eq_true rfl) de_M_release_2 (fun H locs w_3477 hw_3478 hP hS => ?_)
  have h_3479 : w_3477 h = some (100, .inr (cx_M, [.int (nI 0), .int (nI μ.n), .int (nI μ.sq), .int (nI μ.sf), .int (nI μ.rs), .int (rI μ.ba), .int (nI μ.pr), .int (nI μ.mi), .ref D.kf, .ref D.nf, .ref D.rf, .ref D.lf, .ref D.sv, .ref D.bk, .ref D.od, .ref D.vf, .ref D.bv, .ref D.df, .ref D.ss, .ref D.bd, .ref D.ks, .ref D.bt])) := dk_here hw_3478
  have h_3480 : w_3477 D.kf = some (101, dk_ci G 700 (fun i9 => nI (μ.kf i9))) := dk_keep hw_3478 hh_3476 hm.kf (by decide)
  have h_3481 : w_3477 D.nf = some (102, dk_ci G 700 (fun i9 => nI (μ.nf i9))) := dk_keep hw_3478 hh_3476 hm.nf (by decide)
  have h_3482 : w_3477 D.rf = some (103, dk_ci G 700 (fun i9 => rI (μ.rf i9))) := dk_keep hw_3478 hh_3476 hm.rf (by decide)
  have h_3483 : w_3477 D.lf = some (104, dk_ci G 5000 (fun i9 => rI (μ.lf i9))) := dk_keep hw_3478 hh_3476 hm.lf (by decide)
  have h_3484 : w_3477 D.sv = some (105, dk_ci G 6 (fun i9 => nI (μ.sv i9))) := dk_keep hw_3478 hh_3476 hm.sv (by decide)
  have h_3485 : w_3477 D.bk = some (106, dk_ci G 16 (fun i9 => nI (μ.bk i9))) := dk_keep hw_3478 hh_3476 hm.bk (by decide)
  have h_3486 : w_3477 D.od = some (107, dk_ci G 700 (fun i9 => nI (μ.od i9))) := dk_keep hw_3478 hh_3476 hm.od (by decide)
  have h_3487 : w_3477 D.vf = some (108, dk_cl G 700 (fun i9 => μ.vf i9)) := dk_keep hw_3478 hh_3476 hm.vf (by decide)
  have h_3488 : w_3477 D.bv = some (109, dk_cl G 16 (fun i9 => μ.bv i9)) := dk_keep hw_3478 hh_3476 hm.bv (by decide)
  have h_3489 : w_3477 D.df = some (110, dk_cz G 700 (fun i9 => bo_i (μ.df i9))) := dk_keep hw_3478 hh_3476 hm.df (by decide)
  have h_3490 : w_3477 D.ss = some (111, dk_cz G 6 (fun i9 => bo_i (μ.ss i9))) := dk_keep hw_3478 hh_3476 hm.ss (by decide)
  have h_3491 : w_3477 D.bd = some (112, dk_cz G 16 (fun i9 => bo_i (μ.bd i9))) := dk_keep hw_3478 hh_3476 hm.bd (by decide)
  have h_3492 : w_3477 D.ks = some (113, dk_cz G 700 (fun i9 => bo_i (μ.ks i9))) := dk_keep hw_3478 hh_3476 hm.ks (by decide)
  have h_3493 : w_3477 D.bt = some (114, dk_cz G 6000 (fun i9 => bo_i (μ.bt i9))) := dk_keep hw_3478 hh_3476 hm.bt (by decide)
  have hm_3494 : md_at G w_3477 h D (μ.er' 0) := ⟨h_3479, h_3480, h_3481, h_3482, h_3483, h_3484, h_3485, h_3486, h_3487, h_3488, h_3489, h_3490, h_3491, h_3492, h_3493⟩
  have hh_3495 : w_3477 h = some (100, .inr (cx_M, [.int (nI 0), .int (nI μ.n), .int (nI μ.sq), .int (nI μ.sf), .int (nI μ.rs), .int (rI μ.ba), .int (nI μ.pr), .int (nI μ.mi), .ref D.kf, .ref D.nf, .ref D.rf, .ref D.lf, .ref D.sv, .ref D.bk, .ref D.od, .ref D.vf, .ref D.bv, .ref D.df, .ref D.ss, .ref D.bd, .ref D.ks, .ref D.bt])) := hm_3494.o
  have ha_3496 : w_3477 D.kf = some (101, dk_ci G 700 (fun i9 => nI (μ.kf i9))) := hm_3494.kf
  have ha_3497 : w_3477 D.nf = some (102, dk_ci G 700 (fun i9 => nI (μ.nf i9))) := hm_3494.nf
  have ha_3498 : w_3477 D.rf = some (103, dk_ci G 700 (fun i9 => rI (μ.rf i9))) := hm_3494.rf
  have ha_3499 : w_3477 D.lf = some (104, dk_ci G 5000 (fun i9 => rI (μ.lf i9))) := hm_3494.lf
  have ha_3500 : w_3477 D.sv = some (105, dk_ci G 6 (fun i9 => nI (μ.sv i9))) := hm_3494.sv
  have ha_3501 : w_3477 D.bk = some (106, dk_ci G 16 (fun i9 => nI (μ.bk i9))) := hm_3494.bk
  have ha_3502 : w_3477 D.od = some (107, dk_ci G 700 (fun i9 => nI (μ.od i9))) := hm_3494.od
  have ha_3503 : w_3477 D.vf = some (108, dk_cl G 700 (fun i9 => μ.vf i9)) := hm_3494.vf
  have ha_3504 : w_3477 D.bv = some (109, dk_cl G 16 (fun i9 => μ.bv i9)) := hm_3494.bv
  have ha_3505 : w_3477 D.df = some (110, dk_cz G 700 (fun i9 => bo_i (μ.df i9))) := hm_3494.df
  have ha_3506 : w_3477 D.ss = some (111, dk_cz G 6 (fun i9 => bo_i (μ.ss i9))) := hm_3494.ss
  have ha_3507 : w_3477 D.bd = some (112, dk_cz G 16 (fun i9 => bo_i (μ.bd i9))) := hm_3494.bd
  have ha_3508 : w_3477 D.ks = some (113, dk_cz G 700 (fun i9 => bo_i (μ.ks i9))) := hm_3494.ks
  have ha_3509 : w_3477 D.bt = some (114, dk_cz G 6000 (fun i9 => bo_i (μ.bt i9))) := hm_3494.bt
  refine lv_aload_n hx hb de_M_release_5 rfl (lv_at hl 0 rfl) ?_
  refine lv_aload_n hx hb de_M_release_6 rfl (lv_at hl 0 rfl) ?_
  refine lv_iload_n hx hb de_M_release_7 rfl (lv_at hl 1 rfl) ?_
  refine dk_calli (va_runV (As := [.int (nI j)]) (rest := [.ref h]) ⟨hx, hb, hml, hown, hts⟩ (c_M_isNone l G w_3477 h D (μ.er' 0) hm_3494 (nI j)) (cwV 1 hts (wd_gV (C := "RunKeeperModel") wi_872 wi_869 wi_871 (wd_p (q := (⟨"RunKeeperModel", "isNone", "(I)Z"⟩, 22)) (by decide +kernel) (by decide +kernel)) wi_8) rfl rfl rfl (by decide +kernel) ⟨Nat.le_of_ble_eq_true rfl, Nat.le_of_ble_eq_true rfl⟩) (dk_preV (kn_M, kt_M, 22) hE hP hS hh_3495 rfl) rfl rfl hl.1 rfl (lv_room (Nat.le_of_ble_eq_true rfl)) de_M_release_8 ⟨(by first | exact Nat.le_of_ble_eq_true rfl | (simp only [Nat.zero_add]; omega) | omega), (by first | exact Nat.le_of_ble_eq_true rfl | (simp only [Nat.zero_add]; omega) | omega)⟩) hS (fun r_3512 w_3510 H locs hq_3511 hP hS => ?_)
  rw [vs_y (μ := μ.er' 0) hj hv] at hq_3511
  obtain ⟨hr_3513, he_3514⟩ := hq_3511
  subst hr_3513
  rw [he_3514] at hP
  refine lv_iconst (v := nI 1) hx hb de_M_release_11 (by decide) ?_
  refine dk_calli (va_runV (As := [.int (bo_i false), .int (nI 1)]) (rest := []) ⟨hx, hb, hml, hown, hts⟩ (c_M_fails l G w_3477 h D (μ.er' 0) hm_3494 false 1 (by decide) (by decide) (show (0 : Nat) < 3 by decide)) (cwV 2 hts (wd_gV (C := "RunKeeperModel") wi_799 wi_796 wi_798 (wd_p (q := (⟨"RunKeeperModel", "fails", "(ZI)Z"⟩, 22)) (by decide +kernel) (by decide +kernel)) wi_8) rfl rfl rfl (by decide +kernel) ⟨Nat.le_of_ble_eq_true rfl, Nat.le_of_ble_eq_true rfl⟩) (dk_preV (kn_M, kt_M, 22) hE hP hS hh_3495 rfl) rfl rfl hl.1 rfl (lv_room (Nat.le_of_ble_eq_true rfl)) de_M_release_12 ⟨(by first | exact Nat.le_of_ble_eq_true rfl | (simp only [Nat.zero_add]; omega) | omega), (by first | exact Nat.le_of_ble_eq_true rfl | (simp only [Nat.zero_add]; omega) | omega)⟩) hS (fun r_3517 w_3515 H locs hq_3516 hP hS => ?_)
  obtain ⟨hr_3518, hq_3519, hf_3520⟩ := hq_3516
  subst hr_3518
  have hm_3521 : md_at G w_3515 h D ((μ.er' 0).er' 0) := hq_3519
  have hh_3522 : w_3515 h = some (100, .inr (cx_M, [.int (nI 0), .int (nI μ.n), .int (nI μ.sq), .int (nI μ.sf), .int (nI μ.rs), .int (rI μ.ba), .int (nI μ.pr), .int (nI μ.mi), .ref D.kf, .ref D.nf, .ref D.rf, .ref D.lf, .ref D.sv, .ref D.bk, .ref D.od, .ref D.vf, .ref D.bv, .ref D.df, .ref D.ss, .ref D.bd, .ref D.ks, .ref D.bt])) := hm_3521.o
  have ha_3523 : w_3515 D.kf = some (101, dk_ci G 700 (fun i9 => nI (μ.kf i9))) := hm_3521.kf
  have ha_3524 : w_3515 D.nf = some (102, dk_ci G 700 (fun i9 => nI (μ.nf i9))) := hm_3521.nf
  have ha_3525 : w_3515 D.rf = some (103, dk_ci G 700 (fun i9 => rI (μ.rf i9))) := hm_3521.rf
  have ha_3526 : w_3515 D.lf = some (104, dk_ci G 5000 (fun i9 => rI (μ.lf i9))) := hm_3521.lf
  have ha_3527 : w_3515 D.sv = some (105, dk_ci G 6 (fun i9 => nI (μ.sv i9))) := hm_3521.sv
  have ha_3528 : w_3515 D.bk = some (106, dk_ci G 16 (fun i9 => nI (μ.bk i9))) := hm_3521.bk
  have ha_3529 : w_3515 D.od = some (107, dk_ci G 700 (fun i9 => nI (μ.od i9))) := hm_3521.od
  have ha_3530 : w_3515 D.vf = some (108, dk_cl G 700 (fun i9 => μ.vf i9)) := hm_3521.vf
  have ha_3531 : w_3515 D.bv = some (109, dk_cl G 16 (fun i9 => μ.bv i9)) := hm_3521.bv
  have ha_3532 : w_3515 D.df = some (110, dk_cz G 700 (fun i9 => bo_i (μ.df i9))) := hm_3521.df
  have ha_3533 : w_3515 D.ss = some (111, dk_cz G 6 (fun i9 => bo_i (μ.ss i9))) := hm_3521.ss
  have ha_3534 : w_3515 D.bd = some (112, dk_cz G 16 (fun i9 => bo_i (μ.bd i9))) := hm_3521.bd
  have ha_3535 : w_3515 D.ks = some (113, dk_cz G 700 (fun i9 => bo_i (μ.ks i9))) := hm_3521.ks
  have ha_3536 : w_3515 D.bt = some (114, dk_cz G 6000 (fun i9 => bo_i (μ.bt i9))) := hm_3521.bt
  refine bo_if_ne (b := false) (tgt := 25) hx hb de_M_release_15 (by decide) (fun c_3537 => ?_) (fun c_3537 => ?_)
  · exact absurd c_3537 (by decide)
  · refine lv_aload_n hx hb de_M_release_18 rfl (lv_at hl 0 rfl) ?_
    refine dk_get (a := h) (v := .ref D.ss) (C := kn_M) (T := kt_M) (N := 22) hx hb hts ki_M hown hK hP hh_3522 rfl 18 (by decide) (hts _ wi_732) (fun _ h9 => h9) rfl de_M_release_19 ?_
    refine lv_iload_n hx hb de_M_release_22 rfl (lv_at hl 1 rfl) ?_
    refine lv_iconst (v := nI 0) hx hb de_M_release_23 (by decide) ?_
    refine dk_zast (a := D.ss) (x := (bo_i false)) hx hb hK hP hS ha_3533 j rfl (by omega) (by omega) (bo_vn false) de_M_release_24 (fun H locs w_3538 hw_3539 hP hS => ?_)
    rw [up_bo] at hw_3539
    have h_3540 : w_3538 D.ss = some (111, dk_cz G 6 (fun i9 => bo_i ((va_up μ.ss j false) i9))) := dk_here hw_3539
    have h_3541 : w_3538 h = some (100, .inr (cx_M, [.int (nI 0), .int (nI μ.n), .int (nI μ.sq), .int (nI μ.sf), .int (nI μ.rs), .int (rI μ.ba), .int (nI μ.pr), .int (nI μ.mi), .ref D.kf, .ref D.nf, .ref D.rf, .ref D.lf, .ref D.sv, .ref D.bk, .ref D.od, .ref D.vf, .ref D.bv, .ref D.df, .ref D.ss, .ref D.bd, .ref D.ks, .ref D.bt])) := dk_keep hw_3539 ha_3533 hh_3522 (by decide)
    have h_3542 : w_3538 D.kf = some (101, dk_ci G 700 (fun i9 => nI (μ.kf i9))) := dk_keep hw_3539 ha_3533 ha_3523 (by decide)
    have h_3543 : w_3538 D.nf = some (102, dk_ci G 700 (fun i9 => nI (μ.nf i9))) := dk_keep hw_3539 ha_3533 ha_3524 (by decide)
    have h_3544 : w_3538 D.rf = some (103, dk_ci G 700 (fun i9 => rI (μ.rf i9))) := dk_keep hw_3539 ha_3533 ha_3525 (by decide)
    have h_3545 : w_3538 D.lf = some (104, dk_ci G 5000 (fun i9 => rI (μ.lf i9))) := dk_keep hw_3539 ha_3533 ha_3526 (by decide)
    have h_3546 : w_3538 D.sv = some (105, dk_ci G 6 (fun i9 => nI (μ.sv i9))) := dk_keep hw_3539 ha_3533 ha_3527 (by decide)
    have h_3547 : w_3538 D.bk = some (106, dk_ci G 16 (fun i9 => nI (μ.bk i9))) := dk_keep hw_3539 ha_3533 ha_3528 (by decide)
    have h_3548 : w_3538 D.od = some (107, dk_ci G 700 (fun i9 => nI (μ.od i9))) := dk_keep hw_3539 ha_3533 ha_3529 (by decide)
    have h_3549 : w_3538 D.vf = some (108, dk_cl G 700 (fun i9 => μ.vf i9)) := dk_keep hw_3539 ha_3533 ha_3530 (by decide)
    have h_3550 : w_3538 D.bv = some (109, dk_cl G 16 (fun i9 => μ.bv i9)) := dk_keep hw_3539 ha_3533 ha_3531 (by decide)
    have h_3551 : w_3538 D.df = some (110, dk_cz G 700 (fun i9 => bo_i (μ.df i9))) := dk_keep hw_3539 ha_3533 ha_3532 (by decide)
    have h_3552 : w_3538 D.bd = some (112, dk_cz G 16 (fun i9 => bo_i (μ.bd i9))) := dk_keep hw_3539 ha_3533 ha_3534 (by decide)
    have h_3553 : w_3538 D.ks = some (113, dk_cz G 700 (fun i9 => bo_i (μ.ks i9))) := dk_keep hw_3539 ha_3533 ha_3535 (by decide)
    have h_3554 : w_3538 D.bt = some (114, dk_cz G 6000 (fun i9 => bo_i (μ.bt i9))) := dk_keep hw_3539 ha_3533 ha_3536 (by decide)
    have hm_3555 : md_at G w_3538 h D (((μ.er' 0).er' 0).ss' (va_up μ.ss j false)) := ⟨h_3541, h_3542, h_3543, h_3544, h_3545, h_3546, h_3547, h_3548, h_3549, h_3550, h_3551, h_3540, h_3552, h_3553, h_3554⟩
    exact dk_vret hQ hx hb hr hlocks hP hS (Nat.le_refl _) (Nat.le_refl _) (⟨hm_3555, (((dk_fr.rf).tr ((dk_fr.up (T := md_T) hh_3476 (by unfold md_T; omega)).eq hw_3478)).tr (hf_3520)).tr ((dk_fr.up (T := md_T) ha_3533 (by unfold md_T; omega)).eq hw_3539)⟩) de_M_release_25
