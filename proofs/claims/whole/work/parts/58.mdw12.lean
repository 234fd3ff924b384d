/-! RunKeeperModel: entry where it fails (printed by gen/c_md12.py) -/
/-- the run of level l that r counts, and how many runs of the level there are, below j -/
def id_f (μ : md_S) (l : Nat) (r : Int32) : Nat → Option Nat × Nat
  | 0 => (none, 0)
  | j + 1 => if μ.lf j = some l then (if nI (id_f μ l r j).2 = r then (some j, (id_f μ l r j).2 + 1) else ((id_f μ l r j).1, (id_f μ l r j).2 + 1)) else id_f μ l r j
theorem id_n {μ : md_S} {l j m : Nat} {r : Int32} {o : Option Nat} (h : id_f μ l r j = (o, m)) (h1 : ¬ μ.lf j = some l) : id_f μ l r (j + 1) = (o, m) := by rw [id_f, if_neg h1, h]
theorem id_o {μ : md_S} {l j m : Nat} {r : Int32} {o : Option Nat} (h : id_f μ l r j = (o, m)) (h1 : μ.lf j = some l) (h2 : ¬ nI m = r) : id_f μ l r (j + 1) = (o, m + 1) := by rw [id_f, if_pos h1, h]; exact if_neg h2
theorem id_y {μ : md_S} {l j m : Nat} {r : Int32} {o : Option Nat} (h : id_f μ l r j = (o, m)) (h1 : μ.lf j = some l) (h2 : nI m = r) : id_f μ l r (j + 1) = (some j, m + 1) := by rw [id_f, if_pos h1, h]; exact if_pos h2
abbrev rm_M_entry : Room := { frames := 1, cells := 0, slots := 0, locals := 23 }
set_option maxHeartbeats 4000000 in
set_option maxRecDepth 100000 in
theorem c_M_entryF (l : Launch) (G : dk_G) (w : dk_H) (h : Nat) (D : md_D) (μ : md_S) (hm : md_at G w h D μ) (hmo : md_ok μ) (l9 r9 k q0 : Int32) (hl9 : im_b l9 (nI 0) (nI 5) = false) : dk_Mi l my_M_entry (wd_c my_M_entry mb_M_entry 9 (some .int)) rm_M_entry G w [.ref h, .int l9, .int r9, .int k, .int q0] (fun r w1 => r = nI 0 ∧ md_at G w1 h D (μ.er' 1) ∧ dk_fr md_T w w1) 0 0 := by
  obtain ⟨ok1, ok2, ok3, ok4, ok5, ok6, ok7, ok8, ok9, ok10, ok11⟩ := id hmo
  refine dk_enter (lv := [(0, .ref h), (1, .int l9), (2, .int r9), (3, .int k), (4, .int q0)]) (by decide) (Nat.le_of_ble_eq_true rfl) rfl (fun p e s m args below meth c ls Q hQ C hP hS hl => ?_)
  obtain ⟨hx, hb, hr, hml, hlocks, hown, hnm, hts, hE⟩ := C
  have hK := hE.1
  have hN := hE.2.1
  have hh_7392 : w h = some (100, .inr (cx_M, [.int (nI μ.er), .int (nI μ.n), .int (nI μ.sq), .int (nI μ.sf), .int (nI μ.rs), .int (rI μ.ba), .int (nI μ.pr), .int (nI μ.mi), .ref D.kf, .ref D.nf, .ref D.rf, .ref D.lf, .ref D.sv, .ref D.bk, .ref D.od, .ref D.vf, .ref D.bv, .ref D.df, .ref D.ss, .ref D.bd, .ref D.ks, .ref D.bt])) := hm.o
  refine lv_aload_n hx hb de_M_entry_0 rfl (lv_at hl 0 rfl) ?_
  refine lv_iconst (v := nI 0) hx hb de_M_entry_1 (by decide) ?_
  refine dk_put (a := h) (v := .int (nI 0)) (ty := .int) (C := kn_M) (T := kt_M) (N := 22) hx hb hts ki_M ky_M kk_M kd_M hown hK hP hS hh_7392 rfl 0 (by decide) (hts _ wi_714) (fun _ h9 => h9) rfl (by decide +kernel) rfl rfl (Nat.le_of_ble_eq_true rfl) de_M_entry_2 (fun H locs w_7393 hw_7394 hP hS => ?_)
  have h_7395 : w_7393 h = some (100, .inr (cx_M, [.int (nI 0), .int (nI μ.n), .int (nI μ.sq), .int (nI μ.sf), .int (nI μ.rs), .int (rI μ.ba), .int (nI μ.pr), .int (nI μ.mi), .ref D.kf, .ref D.nf, .ref D.rf, .ref D.lf, .ref D.sv, .ref D.bk, .ref D.od, .ref D.vf, .ref D.bv, .ref D.df, .ref D.ss, .ref D.bd, .ref D.ks, .ref D.bt])) := dk_here hw_7394
  have h_7396 : w_7393 D.kf = some (101, dk_ci G 700 (fun i9 => nI (μ.kf i9))) := dk_keep hw_7394 hh_7392 hm.kf (by decide)
  have h_7397 : w_7393 D.nf = some (102, dk_ci G 700 (fun i9 => nI (μ.nf i9))) := dk_keep hw_7394 hh_7392 hm.nf (by decide)
  have h_7398 : w_7393 D.rf = some (103, dk_ci G 700 (fun i9 => rI (μ.rf i9))) := dk_keep hw_7394 hh_7392 hm.rf (by decide)
  have h_7399 : w_7393 D.lf = some (104, dk_ci G 5000 (fun i9 => rI (μ.lf i9))) := dk_keep hw_7394 hh_7392 hm.lf (by decide)
  have h_7400 : w_7393 D.sv = some (105, dk_ci G 6 (fun i9 => nI (μ.sv i9))) := dk_keep hw_7394 hh_7392 hm.sv (by decide)
  have h_7401 : w_7393 D.bk = some (106, dk_ci G 16 (fun i9 => nI (μ.bk i9))) := dk_keep hw_7394 hh_7392 hm.bk (by decide)
  have h_7402 : w_7393 D.od = some (107, dk_ci G 700 (fun i9 => nI (μ.od i9))) := dk_keep hw_7394 hh_7392 hm.od (by decide)
  have h_7403 : w_7393 D.vf = some (108, dk_cl G 700 (fun i9 => μ.vf i9)) := dk_keep hw_7394 hh_7392 hm.vf (by decide)
  have h_7404 : w_7393 D.bv = some (109, dk_cl G 16 (fun i9 => μ.bv i9)) := dk_keep hw_7394 hh_7392 hm.bv (by decide)
  have h_7405 : w_7393 D.df = some (110, dk_cz G 700 (fun i9 => bo_i (μ.df i9))) := dk_keep hw_7394 hh_7392 hm.df (by decide)
  have h_7406 : w_7393 D.ss = some (111, dk_cz G 6 (fun i9 => bo_i (μ.ss i9))) := dk_keep hw_7394 hh_7392 hm.ss (by decide)
  have h_7407 : w_7393 D.bd = some (112, dk_cz G 16 (fun i9 => bo_i (μ.bd i9))) := dk_keep hw_7394 hh_7392 hm.bd (by decide)
  have h_7408 : w_7393 D.ks = some (113, dk_cz G 700 (fun i9 => bo_i (μ.ks i9))) := dk_keep hw_7394 hh_7392 hm.ks (by decide)
  have h_7409 : w_7393 D.bt = some (114, dk_cz G 6000 (fun i9 => bo_i (μ.bt i9))) := dk_keep hw_7394 hh_7392 hm.bt (by decide)
  have hm_7410 : md_at G w_7393 h D (μ.er' 0) := ⟨h_7395, h_7396, h_7397, h_7398, h_7399, h_7400, h_7401, h_7402, h_7403, h_7404, h_7405, h_7406, h_7407, h_7408, h_7409⟩
  have hh_7411 : w_7393 h = some (100, .inr (cx_M, [.int (nI 0), .int (nI μ.n), .int (nI μ.sq), .int (nI μ.sf), .int (nI μ.rs), .int (rI μ.ba), .int (nI μ.pr), .int (nI μ.mi), .ref D.kf, .ref D.nf, .ref D.rf, .ref D.lf, .ref D.sv, .ref D.bk, .ref D.od, .ref D.vf, .ref D.bv, .ref D.df, .ref D.ss, .ref D.bd, .ref D.ks, .ref D.bt])) := hm_7410.o
  have ha_7412 : w_7393 D.kf = some (101, dk_ci G 700 (fun i9 => nI (μ.kf i9))) := hm_7410.kf
  have ha_7413 : w_7393 D.nf = some (102, dk_ci G 700 (fun i9 => nI (μ.nf i9))) := hm_7410.nf
  have ha_7414 : w_7393 D.rf = some (103, dk_ci G 700 (fun i9 => rI (μ.rf i9))) := hm_7410.rf
  have ha_7415 : w_7393 D.lf = some (104, dk_ci G 5000 (fun i9 => rI (μ.lf i9))) := hm_7410.lf
  have ha_7416 : w_7393 D.sv = some (105, dk_ci G 6 (fun i9 => nI (μ.sv i9))) := hm_7410.sv
  have ha_7417 : w_7393 D.bk = some (106, dk_ci G 16 (fun i9 => nI (μ.bk i9))) := hm_7410.bk
  have ha_7418 : w_7393 D.od = some (107, dk_ci G 700 (fun i9 => nI (μ.od i9))) := hm_7410.od
  have ha_7419 : w_7393 D.vf = some (108, dk_cl G 700 (fun i9 => μ.vf i9)) := hm_7410.vf
  have ha_7420 : w_7393 D.bv = some (109, dk_cl G 16 (fun i9 => μ.bv i9)) := hm_7410.bv
  have ha_7421 : w_7393 D.df = some (110, dk_cz G 700 (fun i9 => bo_i (μ.df i9))) := hm_7410.df
  have ha_7422 : w_7393 D.ss = some (111, dk_cz G 6 (fun i9 => bo_i (μ.ss i9))) := hm_7410.ss
  have ha_7423 : w_7393 D.bd = some (112, dk_cz G 16 (fun i9 => bo_i (μ.bd i9))) := hm_7410.bd
  have ha_7424 : w_7393 D.ks = some (113, dk_cz G 700 (fun i9 => bo_i (μ.ks i9))) := hm_7410.ks
  have ha_7425 : w_7393 D.bt = some (114, dk_cz G 6000 (fun i9 => bo_i (μ.bt i9))) := hm_7410.bt
  refine lv_aload_n hx hb de_M_entry_5 rfl (lv_at hl 0 rfl) ?_
  refine lv_iload_n hx hb de_M_entry_6 rfl (lv_at hl 1 rfl) ?_
  refine lv_iconst (v := nI 0) hx hb de_M_entry_7 (by decide) ?_
  refine lv_iconst (v := nI 5) hx hb de_M_entry_8 (by decide) ?_
  refine dk_calli (va_runS (As := [.int l9, .int (nI 0), .int (nI 5)]) (rest := [.ref h]) ⟨hx, hb, hml, hown, hts⟩ (c_M_in l G w_7393 l9 (nI 0) (nI 5)) (va_cwS 3 hts (wd_gS wi_795 wi_793 wi_794 wi_8) rfl rfl rfl (by decide +kernel) ⟨Nat.le_of_ble_eq_true rfl, Nat.le_of_ble_eq_true rfl⟩) (dk_preS hE hP hS) rfl rfl hl.1 rfl (lv_room (Nat.le_of_ble_eq_true rfl)) de_M_entry_9 ⟨(by first | exact Nat.le_of_ble_eq_true rfl | (simp only [Nat.zero_add]; omega) | omega), (by first | exact Nat.le_of_ble_eq_true rfl | (simp only [Nat.zero_add]; omega) | omega)⟩) hS (fun r_7428 w_7426 H locs hq_7427 hP hS => ?_)
  rw [hl9] at hq_7427
  obtain ⟨hr_7429, he_7430⟩ := hq_7427
  subst hr_7429
  rw [he_7430] at hP
  refine bo_if_eq (b := false) (tgt := 25) hx hb de_M_entry_12 (by decide) (fun c_7431 => ?_) (fun c_7431 => ?_)
  · refine lv_iconst (v := nI 1) hx hb de_M_entry_25 (by decide) ?_
    refine lv_goto (tgt := 30) hx hb de_M_entry_26 (by decide) ?_
    refine lv_iconst (v := nI 1) hx hb de_M_entry_30 (by decide) ?_
    rw [show (nI 1) = bo_i true from (by decide)]
    refine dk_calli (va_runV (As := [.int (bo_i true), .int (nI 1)]) (rest := []) ⟨hx, hb, hml, hown, hts⟩ (c_M_fails l G w_7393 h D (μ.er' 0) hm_7410 true 1 (by decide) (by decide) (show (0 : Nat) < 3 by decide)) (cwV 2 hts (wd_gV (C := "RunKeeperModel") wi_799 wi_796 wi_798 (wd_p (q := (⟨"RunKeeperModel", "fails", "(ZI)Z"⟩, 22)) (by decide +kernel) (by decide +kernel)) wi_8) rfl rfl rfl (by decide +kernel) ⟨Nat.le_of_ble_eq_true rfl, Nat.le_of_ble_eq_true rfl⟩) (dk_preV (kn_M, kt_M, 22) hE hP hS hh_7411 rfl) rfl rfl hl.1 rfl (lv_room (Nat.le_of_ble_eq_true rfl)) de_M_entry_31 ⟨(by first | exact Nat.le_of_ble_eq_true rfl | (simp only [Nat.zero_add]; omega) | omega), (by first | exact Nat.le_of_ble_eq_true rfl | (simp only [Nat.zero_add]; omega) | omega)⟩) hS (fun r_7434 w_7432 H locs hq_7433 hP hS => ?_)
    obtain ⟨hr_7435, hq_7436, hf_7437⟩ := hq_7433
    subst hr_7435
    have hm_7438 : md_at G w_7432 h D ((μ.er' 0).er' 1) := hq_7436
    have hh_7439 : w_7432 h = some (100, .inr (cx_M, [.int (nI 1), .int (nI μ.n), .int (nI μ.sq), .int (nI μ.sf), .int (nI μ.rs), .int (rI μ.ba), .int (nI μ.pr), .int (nI μ.mi), .ref D.kf, .ref D.nf, .ref D.rf, .ref D.lf, .ref D.sv, .ref D.bk, .ref D.od, .ref D.vf, .ref D.bv, .ref D.df, .ref D.ss, .ref D.bd, .ref D.ks, .ref D.bt])) := hm_7438.o
    have ha_7440 : w_7432 D.kf = some (101, dk_ci G 700 (fun i9 => nI (μ.kf i9))) := hm_7438.kf
    have ha_7441 : w_7432 D.nf = some (102, dk_ci G 700 (fun i9 => nI (μ.nf i9))) := hm_7438.nf
    have ha_7442 : w_7432 D.rf = some (103, dk_ci G 700 (fun i9 => rI (μ.rf i9))) := hm_7438.rf
    have ha_7443 : w_7432 D.lf = some (104, dk_ci G 5000 (fun i9 => rI (μ.lf i9))) := hm_7438.lf
    have ha_7444 : w_7432 D.sv = some (105, dk_ci G 6 (fun i9 => nI (μ.sv i9))) := hm_7438.sv
    have ha_7445 : w_7432 D.bk = some (106, dk_ci G 16 (fun i9 => nI (μ.bk i9))) := hm_7438.bk
    have ha_7446 : w_7432 D.od = some (107, dk_ci G 700 (fun i9 => nI (μ.od i9))) := hm_7438.od
    have ha_7447 : w_7432 D.vf = some (108, dk_cl G 700 (fun i9 => μ.vf i9)) := hm_7438.vf
    have ha_7448 : w_7432 D.bv = some (109, dk_cl G 16 (fun i9 => μ.bv i9)) := hm_7438.bv
    have ha_7449 : w_7432 D.df = some (110, dk_cz G 700 (fun i9 => bo_i (μ.df i9))) := hm_7438.df
    have ha_7450 : w_7432 D.ss = some (111, dk_cz G 6 (fun i9 => bo_i (μ.ss i9))) := hm_7438.ss
    have ha_7451 : w_7432 D.bd = some (112, dk_cz G 16 (fun i9 => bo_i (μ.bd i9))) := hm_7438.bd
    have ha_7452 : w_7432 D.ks = some (113, dk_cz G 700 (fun i9 => bo_i (μ.ks i9))) := hm_7438.ks
    have ha_7453 : w_7432 D.bt = some (114, dk_cz G 6000 (fun i9 => bo_i (μ.bt i9))) := hm_7438.bt
    refine bo_if_eq (b := true) (tgt := 39) hx hb de_M_entry_34 (by decide) (fun c_7454 => ?_) (fun c_7454 => ?_)
    · exact absurd c_7454 (by decide)
    · refine lv_iconst (v := nI 0) hx hb de_M_entry_37 (by decide) ?_
      exact dk_iret hQ hx hb hr hlocks hP hS (Nat.le_refl _) (Nat.le_refl _) (⟨rfl, hm_7438, ((dk_fr.rf).tr ((dk_fr.up (T := md_T) hh_7392 (by unfold md_T; omega)).eq hw_7394)).tr (hf_7437)⟩) de_M_entry_38
  · exact absurd c_7431 (by decide)
set_option maxHeartbeats 4000000 in
set_option maxRecDepth 100000 in
theorem c_M_entryW (l : Launch) (G : dk_G) (w : dk_H) (h : Nat) (D : md_D) (μ : md_S) (hm : md_at G w h D μ) (hmo : md_ok μ) (l9 : Nat) (r9 k q0 : Int32) (hl9 : l9 < 6) (hq0 : im_b q0 (nI 0) (nI 2) = false) : dk_Mi l my_M_entry (wd_c my_M_entry mb_M_entry 9 (some .int)) rm_M_entry G w [.ref h, .int (nI l9), .int r9, .int k, .int q0] (fun r w1 => r = nI 0 ∧ md_at G w1 h D (μ.er' 1) ∧ dk_fr md_T w w1) 0 0 := by
  obtain ⟨ok1, ok2, ok3, ok4, ok5, ok6, ok7, ok8, ok9, ok10, ok11⟩ := id hmo
  refine dk_enter (lv := [(0, .ref h), (1, .int (nI l9)), (2, .int r9), (3, .int k), (4, .int q0)]) (by decide) (Nat.le_of_ble_eq_true rfl) rfl (fun p e s m args below meth c ls Q hQ C hP hS hl => ?_)
  obtain ⟨hx, hb, hr, hml, hlocks, hown, hnm, hts, hE⟩ := C
  have hK := hE.1
  have hN := hE.2.1
  have hh_7455 : w h = some (100, .inr (cx_M, [.int (nI μ.er), .int (nI μ.n), .int (nI μ.sq), .int (nI μ.sf), .int (nI μ.rs), .int (rI μ.ba), .int (nI μ.pr), .int (nI μ.mi), .ref D.kf, .ref D.nf, .ref D.rf, .ref D.lf, .ref D.sv, .ref D.bk, .ref D.od, .ref D.vf, .ref D.bv, .ref D.df, .ref D.ss, .ref D.bd, .ref D.ks, .ref D.bt])) := hm.o
  refine lv_aload_n hx hb de_M_entry_0 rfl (lv_at hl 0 rfl) ?_
  refine lv_iconst (v := nI 0) hx hb de_M_entry_1 (by decide) ?_
  refine dk_put (a := h) (v := .int (nI 0)) (ty := .int) (C := kn_M) (T := kt_M) (N := 22) hx hb hts ki_M ky_M kk_M kd_M hown hK hP hS hh_7455 rfl 0 (by decide) (hts _ wi_714) (fun _ h9 => h9) rfl (by decide +kernel) rfl rfl (Nat.le_of_ble_eq_true rfl) de_M_entry_2 (fun H locs w_7456 hw_7457 hP hS => ?_)
  have h_7458 : w_7456 h = some (100, .inr (cx_M, [.int (nI 0), .int (nI μ.n), .int (nI μ.sq), .int (nI μ.sf), .int (nI μ.rs), .int (rI μ.ba), .int (nI μ.pr), .int (nI μ.mi), .ref D.kf, .ref D.nf, .ref D.rf, .ref D.lf, .ref D.sv, .ref D.bk, .ref D.od, .ref D.vf, .ref D.bv, .ref D.df, .ref D.ss, .ref D.bd, .ref D.ks, .ref D.bt])) := dk_here hw_7457
  have h_7459 : w_7456 D.kf = some (101, dk_ci G 700 (fun i9 => nI (μ.kf i9))) := dk_keep hw_7457 hh_7455 hm.kf (by decide)
  have h_7460 : w_7456 D.nf = some (102, dk_ci G 700 (fun i9 => nI (μ.nf i9))) := dk_keep hw_7457 hh_7455 hm.nf (by decide)
  have h_7461 : w_7456 D.rf = some (103, dk_ci G 700 (fun i9 => rI (μ.rf i9))) := dk_keep hw_7457 hh_7455 hm.rf (by decide)
  have h_7462 : w_7456 D.lf = some (104, dk_ci G 5000 (fun i9 => rI (μ.lf i9))) := dk_keep hw_7457 hh_7455 hm.lf (by decide)
  have h_7463 : w_7456 D.sv = some (105, dk_ci G 6 (fun i9 => nI (μ.sv i9))) := dk_keep hw_7457 hh_7455 hm.sv (by decide)
  have h_7464 : w_7456 D.bk = some (106, dk_ci G 16 (fun i9 => nI (μ.bk i9))) := dk_keep hw_7457 hh_7455 hm.bk (by decide)
  have h_7465 : w_7456 D.od = some (107, dk_ci G 700 (fun i9 => nI (μ.od i9))) := dk_keep hw_7457 hh_7455 hm.od (by decide)
  have h_7466 : w_7456 D.vf = some (108, dk_cl G 700 (fun i9 => μ.vf i9)) := dk_keep hw_7457 hh_7455 hm.vf (by decide)
  have h_7467 : w_7456 D.bv = some (109, dk_cl G 16 (fun i9 => μ.bv i9)) := dk_keep hw_7457 hh_7455 hm.bv (by decide)
  have h_7468 : w_7456 D.df = some (110, dk_cz G 700 (fun i9 => bo_i (μ.df i9))) := dk_keep hw_7457 hh_7455 hm.df (by decide)
  have h_7469 : w_7456 D.ss = some (111, dk_cz G 6 (fun i9 => bo_i (μ.ss i9))) := dk_keep hw_7457 hh_7455 hm.ss (by decide)
  have h_7470 : w_7456 D.bd = some (112, dk_cz G 16 (fun i9 => bo_i (μ.bd i9))) := dk_keep hw_7457 hh_7455 hm.bd (by decide)
  have h_7471 : w_7456 D.ks = some (113, dk_cz G 700 (fun i9 => bo_i (μ.ks i9))) := dk_keep hw_7457 hh_7455 hm.ks (by decide)
  have h_7472 : w_7456 D.bt = some (114, dk_cz G 6000 (fun i9 => bo_i (μ.bt i9))) := dk_keep hw_7457 hh_7455 hm.bt (by decide)
  have hm_7473 : md_at G w_7456 h D (μ.er' 0) := ⟨h_7458, h_7459, h_7460, h_7461, h_7462, h_7463, h_7464, h_7465, h_7466, h_7467, h_7468, h_7469, h_7470, h_7471, h_7472⟩
  have hh_7474 : w_7456 h = some (100, .inr (cx_M, [.int (nI 0), .int (nI μ.n), .int (nI μ.sq), .int (nI μ.sf), .int (nI μ.rs), .int (rI μ.ba), .int (nI μ.pr), .int (nI μ.mi), .ref D.kf, .ref D.nf, .ref D.rf, .ref D.lf, .ref D.sv, .ref D.bk, .ref D.od, .ref D.vf, .ref D.bv, .ref D.df, .ref D.ss, .ref D.bd, .ref D.ks, .ref D.bt])) := hm_7473.o
  have ha_7475 : w_7456 D.kf = some (101, dk_ci G 700 (fun i9 => nI (μ.kf i9))) := hm_7473.kf
  have ha_7476 : w_7456 D.nf = some (102, dk_ci G 700 (fun i9 => nI (μ.nf i9))) := hm_7473.nf
  have ha_7477 : w_7456 D.rf = some (103, dk_ci G 700 (fun i9 => rI (μ.rf i9))) := hm_7473.rf
  have ha_7478 : w_7456 D.lf = some (104, dk_ci G 5000 (fun i9 => rI (μ.lf i9))) := hm_7473.lf
  have ha_7479 : w_7456 D.sv = some (105, dk_ci G 6 (fun i9 => nI (μ.sv i9))) := hm_7473.sv
  have ha_7480 : w_7456 D.bk = some (106, dk_ci G 16 (fun i9 => nI (μ.bk i9))) := hm_7473.bk
  have ha_7481 : w_7456 D.od = some (107, dk_ci G 700 (fun i9 => nI (μ.od i9))) := hm_7473.od
  have ha_7482 : w_7456 D.vf = some (108, dk_cl G 700 (fun i9 => μ.vf i9)) := hm_7473.vf
  have ha_7483 : w_7456 D.bv = some (109, dk_cl G 16 (fun i9 => μ.bv i9)) := hm_7473.bv
  have ha_7484 : w_7456 D.df = some (110, dk_cz G 700 (fun i9 => bo_i (μ.df i9))) := hm_7473.df
  have ha_7485 : w_7456 D.ss = some (111, dk_cz G 6 (fun i9 => bo_i (μ.ss i9))) := hm_7473.ss
  have ha_7486 : w_7456 D.bd = some (112, dk_cz G 16 (fun i9 => bo_i (μ.bd i9))) := hm_7473.bd
  have ha_7487 : w_7456 D.ks = some (113, dk_cz G 700 (fun i9 => bo_i (μ.ks i9))) := hm_7473.ks
  have ha_7488 : w_7456 D.bt = some (114, dk_cz G 6000 (fun i9 => bo_i (μ.bt i9))) := hm_7473.bt
  refine lv_aload_n hx hb de_M_entry_5 rfl (lv_at hl 0 rfl) ?_
  refine lv_iload_n hx hb de_M_entry_6 rfl (lv_at hl 1 rfl) ?_
  refine lv_iconst (v := nI 0) hx hb de_M_entry_7 (by decide) ?_
  refine lv_iconst (v := nI 5) hx hb de_M_entry_8 (by decide) ?_
  refine dk_calli (va_runS (As := [.int (nI l9), .int (nI 0), .int (nI 5)]) (rest := [.ref h]) ⟨hx, hb, hml, hown, hts⟩ (c_M_in l G w_7456 (nI l9) (nI 0) (nI 5)) (va_cwS 3 hts (wd_gS wi_795 wi_793 wi_794 wi_8) rfl rfl rfl (by decide +kernel) ⟨Nat.le_of_ble_eq_true rfl, Nat.le_of_ble_eq_true rfl⟩) (dk_preS hE hP hS) rfl rfl hl.1 rfl (lv_room (Nat.le_of_ble_eq_true rfl)) de_M_entry_9 ⟨(by first | exact Nat.le_of_ble_eq_true rfl | (simp only [Nat.zero_add]; omega) | omega), (by first | exact Nat.le_of_ble_eq_true rfl | (simp only [Nat.zero_add]; omega) | omega)⟩) hS (fun r_7491 w_7489 H locs hq_7490 hP hS => ?_)
  rw [im_y (by decide) (by omega)] at hq_7490
  obtain ⟨hr_7492, he_7493⟩ := hq_7490
  subst hr_7492
  rw [he_7493] at hP
  refine bo_if_eq (b := true) (tgt := 25) hx hb de_M_entry_12 (by decide) (fun c_7494 => ?_) (fun c_7494 => ?_)
  · exact absurd c_7494 (by decide)
  · refine lv_iload hx hb de_M_entry_15 (lv_at hl 4 rfl) ?_
    refine lv_iconst (v := nI 0) hx hb de_M_entry_17 (by decide) ?_
    refine lv_iconst (v := nI 2) hx hb de_M_entry_18 (by decide) ?_
    refine dk_calli (va_runS (As := [.int q0, .int (nI 0), .int (nI 2)]) (rest := [.ref h]) ⟨hx, hb, hml, hown, hts⟩ (c_M_in l G w_7456 q0 (nI 0) (nI 2)) (va_cwS 3 hts (wd_gS wi_795 wi_793 wi_794 wi_8) rfl rfl rfl (by decide +kernel) ⟨Nat.le_of_ble_eq_true rfl, Nat.le_of_ble_eq_true rfl⟩) (dk_preS hE hP hS) rfl rfl hl.1 rfl (lv_room (Nat.le_of_ble_eq_true rfl)) de_M_entry_19 ⟨(by first | exact Nat.le_of_ble_eq_true rfl | (simp only [Nat.zero_add]; omega) | omega), (by first | exact Nat.le_of_ble_eq_true rfl | (simp only [Nat.zero_add]; omega) | omega)⟩) hS (fun r_7497 w_7495 H locs hq_7496 hP hS => ?_)
    rw [hq0] at hq_7496
    obtain ⟨hr_7498, he_7499⟩ := hq_7496
    subst hr_7498
    rw [he_7499] at hP
    refine bo_if_ne (b := false) (tgt := 29) hx hb de_M_entry_22 (by decide) (fun c_7500 => ?_) (fun c_7500 => ?_)
    · exact absurd c_7500 (by decide)
    · refine lv_iconst (v := nI 1) hx hb de_M_entry_25 (by decide) ?_
      refine lv_goto (tgt := 30) hx hb de_M_entry_26 (by decide) ?_
      refine lv_iconst (v := nI 1) hx hb de_M_entry_30 (by decide) ?_
      rw [show (nI 1) = bo_i true from (by decide)]
      refine dk_calli (va_runV (As := [.int (bo_i true), .int (nI 1)]) (rest := []) ⟨hx, hb, hml, hown, hts⟩ (c_M_fails l G w_7456 h D (μ.er' 0) hm_7473 true 1 (by decide) (by decide) (show (0 : Nat) < 3 by decide)) (cwV 2 hts (wd_gV (C := "RunKeeperModel") wi_799 wi_796 wi_798 (wd_p (q := (⟨"RunKeeperModel", "fails", "(ZI)Z"⟩, 22)) (by decide +kernel) (by decide +kernel)) wi_8) rfl rfl rfl (by decide +kernel) ⟨Nat.le_of_ble_eq_true rfl, Nat.le_of_ble_eq_true rfl⟩) (dk_preV (kn_M, kt_M, 22) hE hP hS hh_7474 rfl) rfl rfl hl.1 rfl (lv_room (Nat.le_of_ble_eq_true rfl)) de_M_entry_31 ⟨(by first | exact Nat.le_of_ble_eq_true rfl | (simp only [Nat.zero_add]; omega) | omega), (by first | exact Nat.le_of_ble_eq_true rfl | (simp only [Nat.zero_add]; omega) | omega)⟩) hS (fun r_7503 w_7501 H locs hq_7502 hP hS => ?_)
      obtain ⟨hr_7504, hq_7505, hf_7506⟩ := hq_7502
      subst hr_7504
      have hm_7507 : md_at G w_7501 h D ((μ.er' 0).er' 1) := hq_7505
      have hh_7508 : w_7501 h = some (100, .inr (cx_M, [.int (nI 1), .int (nI μ.n), .int (nI μ.sq), .int (nI μ.sf), .int (nI μ.rs), .int (rI μ.ba), .int (nI μ.pr), .int (nI μ.mi), .ref D.kf, .ref D.nf, .ref D.rf, .ref D.lf, .ref D.sv, .ref D.bk, .ref D.od, .ref D.vf, .ref D.bv, .ref D.df, .ref D.ss, .ref D.bd, .ref D.ks, .ref D.bt])) := hm_7507.o
      have ha_7509 : w_7501 D.kf = some (101, dk_ci G 700 (fun i9 => nI (μ.kf i9))) := hm_7507.kf
      have ha_7510 : w_7501 D.nf = some (102, dk_ci G 700 (fun i9 => nI (μ.nf i9))) := hm_7507.nf
      have ha_7511 : w_7501 D.rf = some (103, dk_ci G 700 (fun i9 => rI (μ.rf i9))) := hm_7507.rf
      have ha_7512 : w_7501 D.lf = some (104, dk_ci G 5000 (fun i9 => rI (μ.lf i9))) := hm_7507.lf
      have ha_7513 : w_7501 D.sv = some (105, dk_ci G 6 (fun i9 => nI (μ.sv i9))) := hm_7507.sv
      have ha_7514 : w_7501 D.bk = some (106, dk_ci G 16 (fun i9 => nI (μ.bk i9))) := hm_7507.bk
      have ha_7515 : w_7501 D.od = some (107, dk_ci G 700 (fun i9 => nI (μ.od i9))) := hm_7507.od
      have ha_7516 : w_7501 D.vf = some (108, dk_cl G 700 (fun i9 => μ.vf i9)) := hm_7507.vf
      have ha_7517 : w_7501 D.bv = some (109, dk_cl G 16 (fun i9 => μ.bv i9)) := hm_7507.bv
      have ha_7518 : w_7501 D.df = some (110, dk_cz G 700 (fun i9 => bo_i (μ.df i9))) := hm_7507.df
      have ha_7519 : w_7501 D.ss = some (111, dk_cz G 6 (fun i9 => bo_i (μ.ss i9))) := hm_7507.ss
      have ha_7520 : w_7501 D.bd = some (112, dk_cz G 16 (fun i9 => bo_i (μ.bd i9))) := hm_7507.bd
      have ha_7521 : w_7501 D.ks = some (113, dk_cz G 700 (fun i9 => bo_i (μ.ks i9))) := hm_7507.ks
      have ha_7522 : w_7501 D.bt = some (114, dk_cz G 6000 (fun i9 => bo_i (μ.bt i9))) := hm_7507.bt
      refine bo_if_eq (b := true) (tgt := 39) hx hb de_M_entry_34 (by decide) (fun c_7523 => ?_) (fun c_7523 => ?_)
      · exact absurd c_7523 (by decide)
      · refine lv_iconst (v := nI 0) hx hb de_M_entry_37 (by decide) ?_
        exact dk_iret hQ hx hb hr hlocks hP hS (Nat.le_refl _) (Nat.le_refl _) (⟨rfl, hm_7507, ((dk_fr.rf).tr ((dk_fr.up (T := md_T) hh_7455 (by unfold md_T; omega)).eq hw_7457)).tr (hf_7506)⟩) de_M_entry_38
set_option maxHeartbeats 4000000 in
set_option maxRecDepth 100000 in
theorem c_M_entryN (l : Launch) (G : dk_G) (w : dk_H) (h : Nat) (D : md_D) (μ : md_S) (hm : md_at G w h D μ) (hmo : md_ok μ) (l9 q0 : Nat) (r9 k : Int32) (hl9 : l9 < 6) (hq0 : q0 < 3) (hn : (id_f μ l9 r9 μ.rs).1 = none) : dk_Mi l my_M_entry (wd_c my_M_entry mb_M_entry 9 (some .int)) rm_M_entry G w [.ref h, .int (nI l9), .int r9, .int k, .int (nI q0)] (fun r w1 => r = nI 0 ∧ md_at G w1 h D (μ.er' 2) ∧ dk_fr md_T w w1) 0 0 := by
  obtain ⟨ok1, ok2, ok3, ok4, ok5, ok6, ok7, ok8, ok9, ok10, ok11⟩ := id hmo
  refine dk_enter (lv := [(0, .ref h), (1, .int (nI l9)), (2, .int r9), (3, .int k), (4, .int (nI q0))]) (by decide) (Nat.le_of_ble_eq_true rfl) rfl (fun p e s m args below meth c ls Q hQ C hP hS hl => ?_)
  obtain ⟨hx, hb, hr, hml, hlocks, hown, hnm, hts, hE⟩ := C
  have hK := hE.1
  have hN := hE.2.1
  have hh_7524 : w h = some (100, .inr (cx_M, [.int (nI μ.er), .int (nI μ.n), .int (nI μ.sq), .int (nI μ.sf), .int (nI μ.rs), .int (rI μ.ba), .int (nI μ.pr), .int (nI μ.mi), .ref D.kf, .ref D.nf, .ref D.rf, .ref D.lf, .ref D.sv, .ref D.bk, .ref D.od, .ref D.vf, .ref D.bv, .ref D.df, .ref D.ss, .ref D.bd, .ref D.ks, .ref D.bt])) := hm.o
  refine lv_aload_n hx hb de_M_entry_0 rfl (lv_at hl 0 rfl) ?_
  refine lv_iconst (v := nI 0) hx hb de_M_entry_1 (by decide) ?_
  refine dk_put (a := h) (v := .int (nI 0)) (ty := .int) (C := kn_M) (T := kt_M) (N := 22) hx hb hts ki_M ky_M kk_M kd_M hown hK hP hS hh_7524 rfl 0 (by decide) (hts _ wi_714) (fun _ h9 => h9) rfl (by decide +kernel) rfl rfl (Nat.le_of_ble_eq_true rfl) de_M_entry_2 (fun H locs w_7525 hw_7526 hP hS => ?_)
  have h_7527 : w_7525 h = some (100, .inr (cx_M, [.int (nI 0), .int (nI μ.n), .int (nI μ.sq), .int (nI μ.sf), .int (nI μ.rs), .int (rI μ.ba), .int (nI μ.pr), .int (nI μ.mi), .ref D.kf, .ref D.nf, .ref D.rf, .ref D.lf, .ref D.sv, .ref D.bk, .ref D.od, .ref D.vf, .ref D.bv, .ref D.df, .ref D.ss, .ref D.bd, .ref D.ks, .ref D.bt])) := dk_here hw_7526
  have h_7528 : w_7525 D.kf = some (101, dk_ci G 700 (fun i9 => nI (μ.kf i9))) := dk_keep hw_7526 hh_7524 hm.kf (by decide)
  have h_7529 : w_7525 D.nf = some (102, dk_ci G 700 (fun i9 => nI (μ.nf i9))) := dk_keep hw_7526 hh_7524 hm.nf (by decide)
  have h_7530 : w_7525 D.rf = some (103, dk_ci G 700 (fun i9 => rI (μ.rf i9))) := dk_keep hw_7526 hh_7524 hm.rf (by decide)
  have h_7531 : w_7525 D.lf = some (104, dk_ci G 5000 (fun i9 => rI (μ.lf i9))) := dk_keep hw_7526 hh_7524 hm.lf (by decide)
  have h_7532 : w_7525 D.sv = some (105, dk_ci G 6 (fun i9 => nI (μ.sv i9))) := dk_keep hw_7526 hh_7524 hm.sv (by decide)
  have h_7533 : w_7525 D.bk = some (106, dk_ci G 16 (fun i9 => nI (μ.bk i9))) := dk_keep hw_7526 hh_7524 hm.bk (by decide)
  have h_7534 : w_7525 D.od = some (107, dk_ci G 700 (fun i9 => nI (μ.od i9))) := dk_keep hw_7526 hh_7524 hm.od (by decide)
  have h_7535 : w_7525 D.vf = some (108, dk_cl G 700 (fun i9 => μ.vf i9)) := dk_keep hw_7526 hh_7524 hm.vf (by decide)
  have h_7536 : w_7525 D.bv = some (109, dk_cl G 16 (fun i9 => μ.bv i9)) := dk_keep hw_7526 hh_7524 hm.bv (by decide)
  have h_7537 : w_7525 D.df = some (110, dk_cz G 700 (fun i9 => bo_i (μ.df i9))) := dk_keep hw_7526 hh_7524 hm.df (by decide)
  have h_7538 : w_7525 D.ss = some (111, dk_cz G 6 (fun i9 => bo_i (μ.ss i9))) := dk_keep hw_7526 hh_7524 hm.ss (by decide)
  have h_7539 : w_7525 D.bd = some (112, dk_cz G 16 (fun i9 => bo_i (μ.bd i9))) := dk_keep hw_7526 hh_7524 hm.bd (by decide)
  have h_7540 : w_7525 D.ks = some (113, dk_cz G 700 (fun i9 => bo_i (μ.ks i9))) := dk_keep hw_7526 hh_7524 hm.ks (by decide)
  have h_7541 : w_7525 D.bt = some (114, dk_cz G 6000 (fun i9 => bo_i (μ.bt i9))) := dk_keep hw_7526 hh_7524 hm.bt (by decide)
  have hm_7542 : md_at G w_7525 h D (μ.er' 0) := ⟨h_7527, h_7528, h_7529, h_7530, h_7531, h_7532, h_7533, h_7534, h_7535, h_7536, h_7537, h_7538, h_7539, h_7540, h_7541⟩
  have hh_7543 : w_7525 h = some (100, .inr (cx_M, [.int (nI 0), .int (nI μ.n), .int (nI μ.sq), .int (nI μ.sf), .int (nI μ.rs), .int (rI μ.ba), .int (nI μ.pr), .int (nI μ.mi), .ref D.kf, .ref D.nf, .ref D.rf, .ref D.lf, .ref D.sv, .ref D.bk, .ref D.od, .ref D.vf, .ref D.bv, .ref D.df, .ref D.ss, .ref D.bd, .ref D.ks, .ref D.bt])) := hm_7542.o
  have ha_7544 : w_7525 D.kf = some (101, dk_ci G 700 (fun i9 => nI (μ.kf i9))) := hm_7542.kf
  have ha_7545 : w_7525 D.nf = some (102, dk_ci G 700 (fun i9 => nI (μ.nf i9))) := hm_7542.nf
  have ha_7546 : w_7525 D.rf = some (103, dk_ci G 700 (fun i9 => rI (μ.rf i9))) := hm_7542.rf
  have ha_7547 : w_7525 D.lf = some (104, dk_ci G 5000 (fun i9 => rI (μ.lf i9))) := hm_7542.lf
  have ha_7548 : w_7525 D.sv = some (105, dk_ci G 6 (fun i9 => nI (μ.sv i9))) := hm_7542.sv
  have ha_7549 : w_7525 D.bk = some (106, dk_ci G 16 (fun i9 => nI (μ.bk i9))) := hm_7542.bk
  have ha_7550 : w_7525 D.od = some (107, dk_ci G 700 (fun i9 => nI (μ.od i9))) := hm_7542.od
  have ha_7551 : w_7525 D.vf = some (108, dk_cl G 700 (fun i9 => μ.vf i9)) := hm_7542.vf
  have ha_7552 : w_7525 D.bv = some (109, dk_cl G 16 (fun i9 => μ.bv i9)) := hm_7542.bv
  have ha_7553 : w_7525 D.df = some (110, dk_cz G 700 (fun i9 => bo_i (μ.df i9))) := hm_7542.df
  have ha_7554 : w_7525 D.ss = some (111, dk_cz G 6 (fun i9 => bo_i (μ.ss i9))) := hm_7542.ss
  have ha_7555 : w_7525 D.bd = some (112, dk_cz G 16 (fun i9 => bo_i (μ.bd i9))) := hm_7542.bd
  have ha_7556 : w_7525 D.ks = some (113, dk_cz G 700 (fun i9 => bo_i (μ.ks i9))) := hm_7542.ks
  have ha_7557 : w_7525 D.bt = some (114, dk_cz G 6000 (fun i9 => bo_i (μ.bt i9))) := hm_7542.bt
  refine lv_aload_n hx hb de_M_entry_5 rfl (lv_at hl 0 rfl) ?_
  refine lv_iload_n hx hb de_M_entry_6 rfl (lv_at hl 1 rfl) ?_
  refine lv_iconst (v := nI 0) hx hb de_M_entry_7 (by decide) ?_
  refine lv_iconst (v := nI 5) hx hb de_M_entry_8 (by decide) ?_
  refine dk_calli (va_runS (As := [.int (nI l9), .int (nI 0), .int (nI 5)]) (rest := [.ref h]) ⟨hx, hb, hml, hown, hts⟩ (c_M_in l G w_7525 (nI l9) (nI 0) (nI 5)) (va_cwS 3 hts (wd_gS wi_795 wi_793 wi_794 wi_8) rfl rfl rfl (by decide +kernel) ⟨Nat.le_of_ble_eq_true rfl, Nat.le_of_ble_eq_true rfl⟩) (dk_preS hE hP hS) rfl rfl hl.1 rfl (lv_room (Nat.le_of_ble_eq_true rfl)) de_M_entry_9 ⟨(by first | exact Nat.le_of_ble_eq_true rfl | (simp only [Nat.zero_add]; omega) | omega), (by first | exact Nat.le_of_ble_eq_true rfl | (simp only [Nat.zero_add]; omega) | omega)⟩) hS (fun r_7560 w_7558 H locs hq_7559 hP hS => ?_)
  rw [im_y (by decide) (by omega)] at hq_7559
  obtain ⟨hr_7561, he_7562⟩ := hq_7559
  subst hr_7561
  rw [he_7562] at hP
  refine bo_if_eq (b := true) (tgt := 25) hx hb de_M_entry_12 (by decide) (fun c_7563 => ?_) (fun c_7563 => ?_)
  · exact absurd c_7563 (by decide)
  · refine lv_iload hx hb de_M_entry_15 (lv_at hl 4 rfl) ?_
    refine lv_iconst (v := nI 0) hx hb de_M_entry_17 (by decide) ?_
    refine lv_iconst (v := nI 2) hx hb de_M_entry_18 (by decide) ?_
    refine dk_calli (va_runS (As := [.int (nI q0), .int (nI 0), .int (nI 2)]) (rest := [.ref h]) ⟨hx, hb, hml, hown, hts⟩ (c_M_in l G w_7525 (nI q0) (nI 0) (nI 2)) (va_cwS 3 hts (wd_gS wi_795 wi_793 wi_794 wi_8) rfl rfl rfl (by decide +kernel) ⟨Nat.le_of_ble_eq_true rfl, Nat.le_of_ble_eq_true rfl⟩) (dk_preS hE hP hS) rfl rfl hl.1 rfl (lv_room (Nat.le_of_ble_eq_true rfl)) de_M_entry_19 ⟨(by first | exact Nat.le_of_ble_eq_true rfl | (simp only [Nat.zero_add]; omega) | omega), (by first | exact Nat.le_of_ble_eq_true rfl | (simp only [Nat.zero_add]; omega) | omega)⟩) hS (fun r_7566 w_7564 H locs hq_7565 hP hS => ?_)
    rw [im_y (by decide) (by omega)] at hq_7565
    obtain ⟨hr_7567, he_7568⟩ := hq_7565
    subst hr_7567
    rw [he_7568] at hP
    refine bo_if_ne (b := true) (tgt := 29) hx hb de_M_entry_22 (by decide) (fun c_7569 => ?_) (fun c_7569 => ?_)
    · refine lv_iconst (v := nI 0) hx hb de_M_entry_29 (by decide) ?_
      refine lv_iconst (v := nI 1) hx hb de_M_entry_30 (by decide) ?_
      rw [show (nI 0) = bo_i false from (by decide)]
      refine dk_calli (va_runV (As := [.int (bo_i false), .int (nI 1)]) (rest := []) ⟨hx, hb, hml, hown, hts⟩ (c_M_fails l G w_7525 h D (μ.er' 0) hm_7542 false 1 (by decide) (by decide) (show (0 : Nat) < 3 by decide)) (cwV 2 hts (wd_gV (C := "RunKeeperModel") wi_799 wi_796 wi_798 (wd_p (q := (⟨"RunKeeperModel", "fails", "(ZI)Z"⟩, 22)) (by decide +kernel) (by decide +kernel)) wi_8) rfl rfl rfl (by decide +kernel) ⟨Nat.le_of_ble_eq_true rfl, Nat.le_of_ble_eq_true rfl⟩) (dk_preV (kn_M, kt_M, 22) hE hP hS hh_7543 rfl) rfl rfl hl.1 rfl (lv_room (Nat.le_of_ble_eq_true rfl)) de_M_entry_31 ⟨(by first | exact Nat.le_of_ble_eq_true rfl | (simp only [Nat.zero_add]; omega) | omega), (by first | exact Nat.le_of_ble_eq_true rfl | (simp only [Nat.zero_add]; omega) | omega)⟩) hS (fun r_7572 w_7570 H locs hq_7571 hP hS => ?_)
      obtain ⟨hr_7573, hq_7574, hf_7575⟩ := hq_7571
      subst hr_7573
      have hm_7576 : md_at G w_7570 h D ((μ.er' 0).er' 0) := hq_7574
      have hh_7577 : w_7570 h = some (100, .inr (cx_M, [.int (nI 0), .int (nI μ.n), .int (nI μ.sq), .int (nI μ.sf), .int (nI μ.rs), .int (rI μ.ba), .int (nI μ.pr), .int (nI μ.mi), .ref D.kf, .ref D.nf, .ref D.rf, .ref D.lf, .ref D.sv, .ref D.bk, .ref D.od, .ref D.vf, .ref D.bv, .ref D.df, .ref D.ss, .ref D.bd, .ref D.ks, .ref D.bt])) := hm_7576.o
      have ha_7578 : w_7570 D.kf = some (101, dk_ci G 700 (fun i9 => nI (μ.kf i9))) := hm_7576.kf
      have ha_7579 : w_7570 D.nf = some (102, dk_ci G 700 (fun i9 => nI (μ.nf i9))) := hm_7576.nf
      have ha_7580 : w_7570 D.rf = some (103, dk_ci G 700 (fun i9 => rI (μ.rf i9))) := hm_7576.rf
      have ha_7581 : w_7570 D.lf = some (104, dk_ci G 5000 (fun i9 => rI (μ.lf i9))) := hm_7576.lf
      have ha_7582 : w_7570 D.sv = some (105, dk_ci G 6 (fun i9 => nI (μ.sv i9))) := hm_7576.sv
      have ha_7583 : w_7570 D.bk = some (106, dk_ci G 16 (fun i9 => nI (μ.bk i9))) := hm_7576.bk
      have ha_7584 : w_7570 D.od = some (107, dk_ci G 700 (fun i9 => nI (μ.od i9))) := hm_7576.od
      have ha_7585 : w_7570 D.vf = some (108, dk_cl G 700 (fun i9 => μ.vf i9)) := hm_7576.vf
      have ha_7586 : w_7570 D.bv = some (109, dk_cl G 16 (fun i9 => μ.bv i9)) := hm_7576.bv
      have ha_7587 : w_7570 D.df = some (110, dk_cz G 700 (fun i9 => bo_i (μ.df i9))) := hm_7576.df
      have ha_7588 : w_7570 D.ss = some (111, dk_cz G 6 (fun i9 => bo_i (μ.ss i9))) := hm_7576.ss
      have ha_7589 : w_7570 D.bd = some (112, dk_cz G 16 (fun i9 => bo_i (μ.bd i9))) := hm_7576.bd
      have ha_7590 : w_7570 D.ks = some (113, dk_cz G 700 (fun i9 => bo_i (μ.ks i9))) := hm_7576.ks
      have ha_7591 : w_7570 D.bt = some (114, dk_cz G 6000 (fun i9 => bo_i (μ.bt i9))) := hm_7576.bt
      refine bo_if_eq (b := false) (tgt := 39) hx hb de_M_entry_34 (by decide) (fun c_7592 => ?_) (fun c_7592 => ?_)
      · refine lv_iconst (v := (-1)) hx hb de_M_entry_39 (by decide) ?_
        refine lv_istore (lv' := [(5, .int (-1)), (0, .ref h), (1, .int (nI l9)), (2, .int r9), (3, .int k), (4, .int (nI q0))]) hx hb de_M_entry_40 hl (by decide) rfl (fun ls hl => ?_)
        refine lv_iconst (v := nI 0) hx hb de_M_entry_42 (by decide) ?_
        refine lv_istore (lv' := [(6, .int (nI 0)), (5, .int (-1)), (0, .ref h), (1, .int (nI l9)), (2, .int r9), (3, .int k), (4, .int (nI q0))]) hx hb de_M_entry_43 hl (by decide) rfl (fun ls hl => ?_)
        refine lv_iconst (v := nI 0) hx hb de_M_entry_45 (by decide) ?_
        refine lv_istore (lv' := [(7, .int (nI 0)), (6, .int (nI 0)), (5, .int (-1)), (0, .ref h), (1, .int (nI l9)), (2, .int r9), (3, .int k), (4, .int (nI q0))]) hx hb de_M_entry_46 hl (by decide) rfl (fun ls hl => ?_)
        refine lv_iconst (v := nI 0) hx hb de_M_entry_48 (by decide) ?_
        refine lv_istore (lv' := [(8, .int (nI 0)), (7, .int (nI 0)), (6, .int (nI 0)), (5, .int (-1)), (0, .ref h), (1, .int (nI l9)), (2, .int r9), (3, .int k), (4, .int (nI q0))]) hx hb de_M_entry_49 hl (by decide) rfl (fun ls hl => ?_)
        replace hl : lv_has ls 9 [(8, .int (nI 0)), (7, .int (nI 0)), (6, .int (nI 0)), (5, .int (rI none)), (0, .ref h), (1, .int (nI l9)), (2, .int r9), (3, .int k), (4, .int (nI q0))] := hl
        have lp : ∀ (zk : Nat) (j : Nat) (o : Option Nat) (m9 : Nat), μ.rs - j < zk → (j ≤ μ.rs) → (id_f μ l9 r9 j = (o, m9)) → (m9 ≤ j) → ∀ (ls : Array Slot), lv_has ls 9 [(0, .ref h), (1, .int (nI l9)), (2, .int r9), (3, .int k), (4, .int (nI q0)), (5, .int (rI o)), (6, .int (nI m9)), (7, .int (nI 0)), (8, .int (nI j))] → W p l e rm_M_entry s m args below meth c H locs (0 + 0 + 0 + 0) (0 + 0 + 0 + 0) Q (F0 m 51 ls []) := by
          intro zk
          induction zk with
          | zero =>
            intro j o m9 hk
            exact absurd hk (by omega)
          | succ zk ih =>
            intro j o m9 hk hj hid hm9
            intro ls hl
            have hleq := rI_eq (a := μ.lf j) (b := some l9) (fun r hr => by have := ok4 j r hr; omega) (fun r hr => by cases hr; omega)
            refine lv_iload hx hb de_M_entry_51 (lv_at hl 8 rfl) ?_
            refine lv_aload_n hx hb de_M_entry_53 rfl (lv_at hl 0 rfl) ?_
            refine dk_get (a := h) (v := .int (nI μ.rs)) (C := kn_M) (T := kt_M) (N := 22) hx hb hts ki_M hown hK hP hh_7577 rfl 4 (by decide) (hts _ wi_718) (fun _ h9 => h9) rfl de_M_entry_54 ?_
            refine nx_icmp_ge (a := j) (b := μ.rs) (tgt := 90) hx hb (by omega) (by omega) de_M_entry_57 (by decide) (fun c_7593 => ?_) (fun c_7593 => ?_)
            · have e9 : j = μ.rs := by omega
              have hio : id_f μ l9 r9 μ.rs = (o, m9) := by rw [← e9]; exact hid
              have e8 : o = none := by rw [hio] at hn; exact hn
              subst e8
              refine lv_aload_n hx hb de_M_entry_90 rfl (lv_at hl 0 rfl) ?_
              refine lv_iload hx hb de_M_entry_91 (lv_at hl 5 rfl) ?_
              refine lv_if_lt (tgt := 112) hx hb de_M_entry_93 (by decide) (fun c_7596 => ?_) (fun c_7596 => ?_)
              · refine lv_iconst (v := nI 1) hx hb de_M_entry_112 (by decide) ?_
                refine lv_goto (tgt := 117) hx hb de_M_entry_113 (by decide) ?_
                refine lv_iconst (v := nI 2) hx hb de_M_entry_117 (by decide) ?_
                rw [show (nI 1) = bo_i true from (by decide)]
                refine dk_calli (va_runV (As := [.int (bo_i true), .int (nI 2)]) (rest := []) ⟨hx, hb, hml, hown, hts⟩ (c_M_fails l G w_7570 h D ((μ.er' 0).er' 0) hm_7576 true 2 (by decide) (by decide) (show (0 : Nat) < 3 by decide)) (cwV 2 hts (wd_gV (C := "RunKeeperModel") wi_799 wi_796 wi_798 (wd_p (q := (⟨"RunKeeperModel", "fails", "(ZI)Z"⟩, 22)) (by decide +kernel) (by decide +kernel)) wi_8) rfl rfl rfl (by decide +kernel) ⟨Nat.le_of_ble_eq_true rfl, Nat.le_of_ble_eq_true rfl⟩) (dk_preV (kn_M, kt_M, 22) hE hP hS hh_7577 rfl) rfl rfl hl.1 rfl (lv_room (Nat.le_of_ble_eq_true rfl)) de_M_entry_118 ⟨(by first | exact Nat.le_of_ble_eq_true rfl | (simp only [Nat.zero_add]; omega) | omega), (by first | exact Nat.le_of_ble_eq_true rfl | (simp only [Nat.zero_add]; omega) | omega)⟩) hS (fun r_7599 w_7597 H locs hq_7598 hP hS => ?_)
                obtain ⟨hr_7600, hq_7601, hf_7602⟩ := hq_7598
                subst hr_7600
                have hm_7603 : md_at G w_7597 h D (((μ.er' 0).er' 0).er' 2) := hq_7601
                have hh_7604 : w_7597 h = some (100, .inr (cx_M, [.int (nI 2), .int (nI μ.n), .int (nI μ.sq), .int (nI μ.sf), .int (nI μ.rs), .int (rI μ.ba), .int (nI μ.pr), .int (nI μ.mi), .ref D.kf, .ref D.nf, .ref D.rf, .ref D.lf, .ref D.sv, .ref D.bk, .ref D.od, .ref D.vf, .ref D.bv, .ref D.df, .ref D.ss, .ref D.bd, .ref D.ks, .ref D.bt])) := hm_7603.o
                have ha_7605 : w_7597 D.kf = some (101, dk_ci G 700 (fun i9 => nI (μ.kf i9))) := hm_7603.kf
                have ha_7606 : w_7597 D.nf = some (102, dk_ci G 700 (fun i9 => nI (μ.nf i9))) := hm_7603.nf
                have ha_7607 : w_7597 D.rf = some (103, dk_ci G 700 (fun i9 => rI (μ.rf i9))) := hm_7603.rf
                have ha_7608 : w_7597 D.lf = some (104, dk_ci G 5000 (fun i9 => rI (μ.lf i9))) := hm_7603.lf
                have ha_7609 : w_7597 D.sv = some (105, dk_ci G 6 (fun i9 => nI (μ.sv i9))) := hm_7603.sv
                have ha_7610 : w_7597 D.bk = some (106, dk_ci G 16 (fun i9 => nI (μ.bk i9))) := hm_7603.bk
                have ha_7611 : w_7597 D.od = some (107, dk_ci G 700 (fun i9 => nI (μ.od i9))) := hm_7603.od
                have ha_7612 : w_7597 D.vf = some (108, dk_cl G 700 (fun i9 => μ.vf i9)) := hm_7603.vf
                have ha_7613 : w_7597 D.bv = some (109, dk_cl G 16 (fun i9 => μ.bv i9)) := hm_7603.bv
                have ha_7614 : w_7597 D.df = some (110, dk_cz G 700 (fun i9 => bo_i (μ.df i9))) := hm_7603.df
                have ha_7615 : w_7597 D.ss = some (111, dk_cz G 6 (fun i9 => bo_i (μ.ss i9))) := hm_7603.ss
                have ha_7616 : w_7597 D.bd = some (112, dk_cz G 16 (fun i9 => bo_i (μ.bd i9))) := hm_7603.bd
                have ha_7617 : w_7597 D.ks = some (113, dk_cz G 700 (fun i9 => bo_i (μ.ks i9))) := hm_7603.ks
                have ha_7618 : w_7597 D.bt = some (114, dk_cz G 6000 (fun i9 => bo_i (μ.bt i9))) := hm_7603.bt
                refine bo_if_eq (b := true) (tgt := 126) hx hb de_M_entry_121 (by decide) (fun c_7619 => ?_) (fun c_7619 => ?_)
                · exact absurd c_7619 (by decide)
                · refine lv_iconst (v := nI 0) hx hb de_M_entry_124 (by decide) ?_
                  exact dk_iret hQ hx hb hr hlocks hP hS (Nat.le_refl _) (Nat.le_refl _) (⟨rfl, hm_7603, (((dk_fr.rf).tr ((dk_fr.up (T := md_T) hh_7524 (by unfold md_T; omega)).eq hw_7526)).tr (hf_7575)).tr (hf_7602)⟩) de_M_entry_125
              · exact absurd c_7596 (by decide)
            · refine lv_aload_n hx hb de_M_entry_60 rfl (lv_at hl 0 rfl) ?_
              refine dk_get (a := h) (v := .ref D.lf) (C := kn_M) (T := kt_M) (N := 22) hx hb hts ki_M hown hK hP hh_7577 rfl 11 (by decide) (hts _ wi_725) (fun _ h9 => h9) rfl de_M_entry_61 ?_
              refine lv_iload hx hb de_M_entry_64 (lv_at hl 8 rfl) ?_
              refine dk_iald (a := D.lf) hx hb hK hP ha_7581 j rfl (by omega) (by omega) de_M_entry_66 ?_
              refine lv_iload_n hx hb de_M_entry_67 rfl (lv_at hl 1 rfl) ?_
              refine lv_icmp_ne (tgt := 84) hx hb de_M_entry_68 (by decide) (fun c_7594 => ?_) (fun c_7594 => ?_)
              · refine lv_iinc (v := nI (j + 1)) (lv' := [(8, .int (nI (j + 1))), (0, .ref h), (1, .int (nI l9)), (2, .int r9), (3, .int k), (4, .int (nI q0)), (5, .int (rI o)), (6, .int (nI m9)), (7, .int (nI 0))]) hx hb de_M_entry_84 hl (k := 8) rfl (nx_inc j) (by decide) rfl (fun ls hl => ?_)
                refine lv_goto (tgt := 51) hx hb de_M_entry_87 (by decide) ?_
                exact ih (j + 1) o m9 (by omega) (by omega) (by rw [id_n hid (fun z => c_7594 (hleq.mpr z))]) (by omega) _ (lv_sub hl [1, 2, 3, 4, 5, 6, 7, 8, 0] rfl)
              · refine lv_iload hx hb de_M_entry_71 (lv_at hl 6 rfl) ?_
                refine lv_iinc (v := nI (m9 + 1)) (lv' := [(6, .int (nI (m9 + 1))), (0, .ref h), (1, .int (nI l9)), (2, .int r9), (3, .int k), (4, .int (nI q0)), (5, .int (rI o)), (7, .int (nI 0)), (8, .int (nI j))]) hx hb de_M_entry_73 hl (k := 6) rfl (nx_inc m9) (by decide) rfl (fun ls hl => ?_)
                refine lv_iload_n hx hb de_M_entry_76 rfl (lv_at hl 3 rfl) ?_
                refine lv_icmp_ne (tgt := 84) hx hb de_M_entry_77 (by decide) (fun c_7595 => ?_) (fun c_7595 => ?_)
                · refine lv_iinc (v := nI (j + 1)) (lv' := [(8, .int (nI (j + 1))), (6, .int (nI (m9 + 1))), (0, .ref h), (1, .int (nI l9)), (2, .int r9), (3, .int k), (4, .int (nI q0)), (5, .int (rI o)), (7, .int (nI 0))]) hx hb de_M_entry_84 hl (k := 8) rfl (nx_inc j) (by decide) rfl (fun ls hl => ?_)
                  refine lv_goto (tgt := 51) hx hb de_M_entry_87 (by decide) ?_
                  exact ih (j + 1) o (m9 + 1) (by omega) (by omega) (by rw [id_o hid (hleq.mp c_7594) c_7595]) (by omega) _ (lv_sub hl [2, 3, 4, 5, 6, 7, 1, 8, 0] rfl)
                · refine lv_iload hx hb de_M_entry_80 (lv_at hl 8 rfl) ?_
                  refine lv_istore (lv' := [(5, .int (nI j)), (6, .int (nI (m9 + 1))), (0, .ref h), (1, .int (nI l9)), (2, .int r9), (3, .int k), (4, .int (nI q0)), (7, .int (nI 0)), (8, .int (nI j))]) hx hb de_M_entry_82 hl (by decide) rfl (fun ls hl => ?_)
                  refine lv_iinc (v := nI (j + 1)) (lv' := [(8, .int (nI (j + 1))), (5, .int (nI j)), (6, .int (nI (m9 + 1))), (0, .ref h), (1, .int (nI l9)), (2, .int r9), (3, .int k), (4, .int (nI q0)), (7, .int (nI 0))]) hx hb de_M_entry_84 hl (k := 8) rfl (nx_inc j) (by decide) rfl (fun ls hl => ?_)
                  refine lv_goto (tgt := 51) hx hb de_M_entry_87 (by decide) ?_
                  exact ih (j + 1) (some j) (m9 + 1) (by omega) (by omega) (by rw [id_y hid (hleq.mp c_7594) c_7595]) (by omega) _ (lv_sub hl [3, 4, 5, 6, 7, 1, 2, 8, 0] rfl)
        exact lp (μ.rs + 1) 0 none 0 (by omega) (Nat.zero_le _) rfl (by omega) _ (lv_sub hl [4, 5, 6, 7, 8, 3, 2, 1, 0] rfl)
      · exact absurd c_7592 (by decide)
    · exact absurd c_7569 (by decide)
set_option maxHeartbeats 4000000 in
set_option maxRecDepth 100000 in
theorem c_M_entryK (l : Launch) (G : dk_G) (w : dk_H) (h : Nat) (D : md_D) (μ : md_S) (hm : md_at G w h D μ) (hmo : md_ok μ) (l9 q0 : Nat) (r9 k : Int32) (hl9 : l9 < 6) (hq0 : q0 < 3) (d0 : Nat) (hn : (id_f μ l9 r9 μ.rs).1 = some d0) (hd0 : d0 < 5000) (hk9 : im_b k (nI 0) (mI (ct_f (fun k9 => decide (μ.rf k9 = some d0)) μ.n)) = false) : dk_Mi l my_M_entry (wd_c my_M_entry mb_M_entry 9 (some .int)) rm_M_entry G w [.ref h, .int (nI l9), .int r9, .int k, .int (nI q0)] (fun r w1 => r = nI 0 ∧ md_at G w1 h D (μ.er' 2) ∧ dk_fr md_T w w1) 0 0 := by
  obtain ⟨ok1, ok2, ok3, ok4, ok5, ok6, ok7, ok8, ok9, ok10, ok11⟩ := id hmo
  refine dk_enter (lv := [(0, .ref h), (1, .int (nI l9)), (2, .int r9), (3, .int k), (4, .int (nI q0))]) (by decide) (Nat.le_of_ble_eq_true rfl) rfl (fun p e s m args below meth c ls Q hQ C hP hS hl => ?_)
  obtain ⟨hx, hb, hr, hml, hlocks, hown, hnm, hts, hE⟩ := C
  have hK := hE.1
  have hN := hE.2.1
  have hh_7620 : w h = some (100, .inr (cx_M, [.int (nI μ.er), .int (nI μ.n), .int (nI μ.sq), .int (nI μ.sf), .int (nI μ.rs), .int (rI μ.ba), .int (nI μ.pr), .int (nI μ.mi), .ref D.kf, .ref D.nf, .ref D.rf, .ref D.lf, .ref D.sv, .ref D.bk, .ref D.od, .ref D.vf, .ref D.bv, .ref D.df, .ref D.ss, .ref D.bd, .ref D.ks, .ref D.bt])) := hm.o
  refine lv_aload_n hx hb de_M_entry_0 rfl (lv_at hl 0 rfl) ?_
  refine lv_iconst (v := nI 0) hx hb de_M_entry_1 (by decide) ?_
  refine dk_put (a := h) (v := .int (nI 0)) (ty := .int) (C := kn_M) (T := kt_M) (N := 22) hx hb hts ki_M ky_M kk_M kd_M hown hK hP hS hh_7620 rfl 0 (by decide) (hts _ wi_714) (fun _ h9 => h9) rfl (by decide +kernel) rfl rfl (Nat.le_of_ble_eq_true rfl) de_M_entry_2 (fun H locs w_7621 hw_7622 hP hS => ?_)
  have h_7623 : w_7621 h = some (100, .inr (cx_M, [.int (nI 0), .int (nI μ.n), .int (nI μ.sq), .int (nI μ.sf), .int (nI μ.rs), .int (rI μ.ba), .int (nI μ.pr), .int (nI μ.mi), .ref D.kf, .ref D.nf, .ref D.rf, .ref D.lf, .ref D.sv, .ref D.bk, .ref D.od, .ref D.vf, .ref D.bv, .ref D.df, .ref D.ss, .ref D.bd, .ref D.ks, .ref D.bt])) := dk_here hw_7622
  have h_7624 : w_7621 D.kf = some (101, dk_ci G 700 (fun i9 => nI (μ.kf i9))) := dk_keep hw_7622 hh_7620 hm.kf (by decide)
  have h_7625 : w_7621 D.nf = some (102, dk_ci G 700 (fun i9 => nI (μ.nf i9))) := dk_keep hw_7622 hh_7620 hm.nf (by decide)
  have h_7626 : w_7621 D.rf = some (103, dk_ci G 700 (fun i9 => rI (μ.rf i9))) := dk_keep hw_7622 hh_7620 hm.rf (by decide)
  have h_7627 : w_7621 D.lf = some (104, dk_ci G 5000 (fun i9 => rI (μ.lf i9))) := dk_keep hw_7622 hh_7620 hm.lf (by decide)
  have h_7628 : w_7621 D.sv = some (105, dk_ci G 6 (fun i9 => nI (μ.sv i9))) := dk_keep hw_7622 hh_7620 hm.sv (by decide)
  have h_7629 : w_7621 D.bk = some (106, dk_ci G 16 (fun i9 => nI (μ.bk i9))) := dk_keep hw_7622 hh_7620 hm.bk (by decide)
  have h_7630 : w_7621 D.od = some (107, dk_ci G 700 (fun i9 => nI (μ.od i9))) := dk_keep hw_7622 hh_7620 hm.od (by decide)
  have h_7631 : w_7621 D.vf = some (108, dk_cl G 700 (fun i9 => μ.vf i9)) := dk_keep hw_7622 hh_7620 hm.vf (by decide)
  have h_7632 : w_7621 D.bv = some (109, dk_cl G 16 (fun i9 => μ.bv i9)) := dk_keep hw_7622 hh_7620 hm.bv (by decide)
  have h_7633 : w_7621 D.df = some (110, dk_cz G 700 (fun i9 => bo_i (μ.df i9))) := dk_keep hw_7622 hh_7620 hm.df (by decide)
  have h_7634 : w_7621 D.ss = some (111, dk_cz G 6 (fun i9 => bo_i (μ.ss i9))) := dk_keep hw_7622 hh_7620 hm.ss (by decide)
  have h_7635 : w_7621 D.bd = some (112, dk_cz G 16 (fun i9 => bo_i (μ.bd i9))) := dk_keep hw_7622 hh_7620 hm.bd (by decide)
  have h_7636 : w_7621 D.ks = some (113, dk_cz G 700 (fun i9 => bo_i (μ.ks i9))) := dk_keep hw_7622 hh_7620 hm.ks (by decide)
  have h_7637 : w_7621 D.bt = some (114, dk_cz G 6000 (fun i9 => bo_i (μ.bt i9))) := dk_keep hw_7622 hh_7620 hm.bt (by decide)
  have hm_7638 : md_at G w_7621 h D (μ.er' 0) := ⟨h_7623, h_7624, h_7625, h_7626, h_7627, h_7628, h_7629, h_7630, h_7631, h_7632, h_7633, h_7634, h_7635, h_7636, h_7637⟩
  have hh_7639 : w_7621 h = some (100, .inr (cx_M, [.int (nI 0), .int (nI μ.n), .int (nI μ.sq), .int (nI μ.sf), .int (nI μ.rs), .int (rI μ.ba), .int (nI μ.pr), .int (nI μ.mi), .ref D.kf, .ref D.nf, .ref D.rf, .ref D.lf, .ref D.sv, .ref D.bk, .ref D.od, .ref D.vf, .ref D.bv, .ref D.df, .ref D.ss, .ref D.bd, .ref D.ks, .ref D.bt])) := hm_7638.o
  have ha_7640 : w_7621 D.kf = some (101, dk_ci G 700 (fun i9 => nI (μ.kf i9))) := hm_7638.kf
  have ha_7641 : w_7621 D.nf = some (102, dk_ci G 700 (fun i9 => nI (μ.nf i9))) := hm_7638.nf
  have ha_7642 : w_7621 D.rf = some (103, dk_ci G 700 (fun i9 => rI (μ.rf i9))) := hm_7638.rf
  have ha_7643 : w_7621 D.lf = some (104, dk_ci G 5000 (fun i9 => rI (μ.lf i9))) := hm_7638.lf
  have ha_7644 : w_7621 D.sv = some (105, dk_ci G 6 (fun i9 => nI (μ.sv i9))) := hm_7638.sv
  have ha_7645 : w_7621 D.bk = some (106, dk_ci G 16 (fun i9 => nI (μ.bk i9))) := hm_7638.bk
  have ha_7646 : w_7621 D.od = some (107, dk_ci G 700 (fun i9 => nI (μ.od i9))) := hm_7638.od
  have ha_7647 : w_7621 D.vf = some (108, dk_cl G 700 (fun i9 => μ.vf i9)) := hm_7638.vf
  have ha_7648 : w_7621 D.bv = some (109, dk_cl G 16 (fun i9 => μ.bv i9)) := hm_7638.bv
  have ha_7649 : w_7621 D.df = some (110, dk_cz G 700 (fun i9 => bo_i (μ.df i9))) := hm_7638.df
  have ha_7650 : w_7621 D.ss = some (111, dk_cz G 6 (fun i9 => bo_i (μ.ss i9))) := hm_7638.ss
  have ha_7651 : w_7621 D.bd = some (112, dk_cz G 16 (fun i9 => bo_i (μ.bd i9))) := hm_7638.bd
  have ha_7652 : w_7621 D.ks = some (113, dk_cz G 700 (fun i9 => bo_i (μ.ks i9))) := hm_7638.ks
  have ha_7653 : w_7621 D.bt = some (114, dk_cz G 6000 (fun i9 => bo_i (μ.bt i9))) := hm_7638.bt
  refine lv_aload_n hx hb de_M_entry_5 rfl (lv_at hl 0 rfl) ?_
  refine lv_iload_n hx hb de_M_entry_6 rfl (lv_at hl 1 rfl) ?_
  refine lv_iconst (v := nI 0) hx hb de_M_entry_7 (by decide) ?_
  refine lv_iconst (v := nI 5) hx hb de_M_entry_8 (by decide) ?_
  refine dk_calli (va_runS (As := [.int (nI l9), .int (nI 0), .int (nI 5)]) (rest := [.ref h]) ⟨hx, hb, hml, hown, hts⟩ (c_M_in l G w_7621 (nI l9) (nI 0) (nI 5)) (va_cwS 3 hts (wd_gS wi_795 wi_793 wi_794 wi_8) rfl rfl rfl (by decide +kernel) ⟨Nat.le_of_ble_eq_true rfl, Nat.le_of_ble_eq_true rfl⟩) (dk_preS hE hP hS) rfl rfl hl.1 rfl (lv_room (Nat.le_of_ble_eq_true rfl)) de_M_entry_9 ⟨(by first | exact Nat.le_of_ble_eq_true rfl | (simp only [Nat.zero_add]; omega) | omega), (by first | exact Nat.le_of_ble_eq_true rfl | (simp only [Nat.zero_add]; omega) | omega)⟩) hS (fun r_7656 w_7654 H locs hq_7655 hP hS => ?_)
  rw [im_y (by decide) (by omega)] at hq_7655
  obtain ⟨hr_7657, he_7658⟩ := hq_7655
  subst hr_7657
  rw [he_7658] at hP
  refine bo_if_eq (b := true) (tgt := 25) hx hb de_M_entry_12 (by decide) (fun c_7659 => ?_) (fun c_7659 => ?_)
  · exact absurd c_7659 (by decide)
  · refine lv_iload hx hb de_M_entry_15 (lv_at hl 4 rfl) ?_
    refine lv_iconst (v := nI 0) hx hb de_M_entry_17 (by decide) ?_
    refine lv_iconst (v := nI 2) hx hb de_M_entry_18 (by decide) ?_
    refine dk_calli (va_runS (As := [.int (nI q0), .int (nI 0), .int (nI 2)]) (rest := [.ref h]) ⟨hx, hb, hml, hown, hts⟩ (c_M_in l G w_7621 (nI q0) (nI 0) (nI 2)) (va_cwS 3 hts (wd_gS wi_795 wi_793 wi_794 wi_8) rfl rfl rfl (by decide +kernel) ⟨Nat.le_of_ble_eq_true rfl, Nat.le_of_ble_eq_true rfl⟩) (dk_preS hE hP hS) rfl rfl hl.1 rfl (lv_room (Nat.le_of_ble_eq_true rfl)) de_M_entry_19 ⟨(by first | exact Nat.le_of_ble_eq_true rfl | (simp only [Nat.zero_add]; omega) | omega), (by first | exact Nat.le_of_ble_eq_true rfl | (simp only [Nat.zero_add]; omega) | omega)⟩) hS (fun r_7662 w_7660 H locs hq_7661 hP hS => ?_)
    rw [im_y (by decide) (by omega)] at hq_7661
    obtain ⟨hr_7663, he_7664⟩ := hq_7661
    subst hr_7663
    rw [he_7664] at hP
    refine bo_if_ne (b := true) (tgt := 29) hx hb de_M_entry_22 (by decide) (fun c_7665 => ?_) (fun c_7665 => ?_)
    · refine lv_iconst (v := nI 0) hx hb de_M_entry_29 (by decide) ?_
      refine lv_iconst (v := nI 1) hx hb de_M_entry_30 (by decide) ?_
      rw [show (nI 0) = bo_i false from (by decide)]
      refine dk_calli (va_runV (As := [.int (bo_i false), .int (nI 1)]) (rest := []) ⟨hx, hb, hml, hown, hts⟩ (c_M_fails l G w_7621 h D (μ.er' 0) hm_7638 false 1 (by decide) (by decide) (show (0 : Nat) < 3 by decide)) (cwV 2 hts (wd_gV (C := "RunKeeperModel") wi_799 wi_796 wi_798 (wd_p (q := (⟨"RunKeeperModel", "fails", "(ZI)Z"⟩, 22)) (by decide +kernel) (by decide +kernel)) wi_8) rfl rfl rfl (by decide +kernel) ⟨Nat.le_of_ble_eq_true rfl, Nat.le_of_ble_eq_true rfl⟩) (dk_preV (kn_M, kt_M, 22) hE hP hS hh_7639 rfl) rfl rfl hl.1 rfl (lv_room (Nat.le_of_ble_eq_true rfl)) de_M_entry_31 ⟨(by first | exact Nat.le_of_ble_eq_true rfl | (simp only [Nat.zero_add]; omega) | omega), (by first | exact Nat.le_of_ble_eq_true rfl | (simp only [Nat.zero_add]; omega) | omega)⟩) hS (fun r_7668 w_7666 H locs hq_7667 hP hS => ?_)
      obtain ⟨hr_7669, hq_7670, hf_7671⟩ := hq_7667
      subst hr_7669
      have hm_7672 : md_at G w_7666 h D ((μ.er' 0).er' 0) := hq_7670
      have hh_7673 : w_7666 h = some (100, .inr (cx_M, [.int (nI 0), .int (nI μ.n), .int (nI μ.sq), .int (nI μ.sf), .int (nI μ.rs), .int (rI μ.ba), .int (nI μ.pr), .int (nI μ.mi), .ref D.kf, .ref D.nf, .ref D.rf, .ref D.lf, .ref D.sv, .ref D.bk, .ref D.od, .ref D.vf, .ref D.bv, .ref D.df, .ref D.ss, .ref D.bd, .ref D.ks, .ref D.bt])) := hm_7672.o
      have ha_7674 : w_7666 D.kf = some (101, dk_ci G 700 (fun i9 => nI (μ.kf i9))) := hm_7672.kf
      have ha_7675 : w_7666 D.nf = some (102, dk_ci G 700 (fun i9 => nI (μ.nf i9))) := hm_7672.nf
      have ha_7676 : w_7666 D.rf = some (103, dk_ci G 700 (fun i9 => rI (μ.rf i9))) := hm_7672.rf
      have ha_7677 : w_7666 D.lf = some (104, dk_ci G 5000 (fun i9 => rI (μ.lf i9))) := hm_7672.lf
      have ha_7678 : w_7666 D.sv = some (105, dk_ci G 6 (fun i9 => nI (μ.sv i9))) := hm_7672.sv
      have ha_7679 : w_7666 D.bk = some (106, dk_ci G 16 (fun i9 => nI (μ.bk i9))) := hm_7672.bk
      have ha_7680 : w_7666 D.od = some (107, dk_ci G 700 (fun i9 => nI (μ.od i9))) := hm_7672.od
      have ha_7681 : w_7666 D.vf = some (108, dk_cl G 700 (fun i9 => μ.vf i9)) := hm_7672.vf
      have ha_7682 : w_7666 D.bv = some (109, dk_cl G 16 (fun i9 => μ.bv i9)) := hm_7672.bv
      have ha_7683 : w_7666 D.df = some (110, dk_cz G 700 (fun i9 => bo_i (μ.df i9))) := hm_7672.df
      have ha_7684 : w_7666 D.ss = some (111, dk_cz G 6 (fun i9 => bo_i (μ.ss i9))) := hm_7672.ss
      have ha_7685 : w_7666 D.bd = some (112, dk_cz G 16 (fun i9 => bo_i (μ.bd i9))) := hm_7672.bd
      have ha_7686 : w_7666 D.ks = some (113, dk_cz G 700 (fun i9 => bo_i (μ.ks i9))) := hm_7672.ks
      have ha_7687 : w_7666 D.bt = some (114, dk_cz G 6000 (fun i9 => bo_i (μ.bt i9))) := hm_7672.bt
      refine bo_if_eq (b := false) (tgt := 39) hx hb de_M_entry_34 (by decide) (fun c_7688 => ?_) (fun c_7688 => ?_)
      · refine lv_iconst (v := (-1)) hx hb de_M_entry_39 (by decide) ?_
        refine lv_istore (lv' := [(5, .int (-1)), (0, .ref h), (1, .int (nI l9)), (2, .int r9), (3, .int k), (4, .int (nI q0))]) hx hb de_M_entry_40 hl (by decide) rfl (fun ls hl => ?_)
        refine lv_iconst (v := nI 0) hx hb de_M_entry_42 (by decide) ?_
        refine lv_istore (lv' := [(6, .int (nI 0)), (5, .int (-1)), (0, .ref h), (1, .int (nI l9)), (2, .int r9), (3, .int k), (4, .int (nI q0))]) hx hb de_M_entry_43 hl (by decide) rfl (fun ls hl => ?_)
        refine lv_iconst (v := nI 0) hx hb de_M_entry_45 (by decide) ?_
        refine lv_istore (lv' := [(7, .int (nI 0)), (6, .int (nI 0)), (5, .int (-1)), (0, .ref h), (1, .int (nI l9)), (2, .int r9), (3, .int k), (4, .int (nI q0))]) hx hb de_M_entry_46 hl (by decide) rfl (fun ls hl => ?_)
        refine lv_iconst (v := nI 0) hx hb de_M_entry_48 (by decide) ?_
        refine lv_istore (lv' := [(8, .int (nI 0)), (7, .int (nI 0)), (6, .int (nI 0)), (5, .int (-1)), (0, .ref h), (1, .int (nI l9)), (2, .int r9), (3, .int k), (4, .int (nI q0))]) hx hb de_M_entry_49 hl (by decide) rfl (fun ls hl => ?_)
        replace hl : lv_has ls 9 [(8, .int (nI 0)), (7, .int (nI 0)), (6, .int (nI 0)), (5, .int (rI none)), (0, .ref h), (1, .int (nI l9)), (2, .int r9), (3, .int k), (4, .int (nI q0))] := hl
        have lp : ∀ (zk : Nat) (j : Nat) (o : Option Nat) (m9 : Nat), μ.rs - j < zk → (j ≤ μ.rs) → (id_f μ l9 r9 j = (o, m9)) → (m9 ≤ j) → ∀ (ls : Array Slot), lv_has ls 9 [(0, .ref h), (1, .int (nI l9)), (2, .int r9), (3, .int k), (4, .int (nI q0)), (5, .int (rI o)), (6, .int (nI m9)), (7, .int (nI 0)), (8, .int (nI j))] → W p l e rm_M_entry s m args below meth c H locs (0 + 0 + 0 + 0) (0 + 0 + 0 + 0) Q (F0 m 51 ls []) := by
          intro zk
          induction zk with
          | zero =>
            intro j o m9 hk
            exact absurd hk (by omega)
          | succ zk ih =>
            intro j o m9 hk hj hid hm9
            intro ls hl
            have hleq := rI_eq (a := μ.lf j) (b := some l9) (fun r hr => by have := ok4 j r hr; omega) (fun r hr => by cases hr; omega)
            refine lv_iload hx hb de_M_entry_51 (lv_at hl 8 rfl) ?_
            refine lv_aload_n hx hb de_M_entry_53 rfl (lv_at hl 0 rfl) ?_
            refine dk_get (a := h) (v := .int (nI μ.rs)) (C := kn_M) (T := kt_M) (N := 22) hx hb hts ki_M hown hK hP hh_7673 rfl 4 (by decide) (hts _ wi_718) (fun _ h9 => h9) rfl de_M_entry_54 ?_
            refine nx_icmp_ge (a := j) (b := μ.rs) (tgt := 90) hx hb (by omega) (by omega) de_M_entry_57 (by decide) (fun c_7689 => ?_) (fun c_7689 => ?_)
            · have e9 : j = μ.rs := by omega
              have hio : id_f μ l9 r9 μ.rs = (o, m9) := by rw [← e9]; exact hid
              have e8 : o = some d0 := by rw [hio] at hn; exact hn
              subst e8
              replace hl : lv_has ls 9 [(0, .ref h), (1, .int (nI l9)), (2, .int r9), (3, .int k), (4, .int (nI q0)), (5, .int (nI d0)), (6, .int (nI m9)), (7, .int (nI 0)), (8, .int (nI j))] := hl
              refine lv_aload_n hx hb de_M_entry_90 rfl (lv_at hl 0 rfl) ?_
              refine lv_iload hx hb de_M_entry_91 (lv_at hl 5 rfl) ?_
              refine nx_if_lt (a := d0) (tgt := 112) hx hb (by omega) de_M_entry_93 (by decide) ?_
              have hmo2 : md_ok ((μ.er' 0).er' 0) := ⟨ok1, ok2, ok3, ok4, ok5, ok6, ok7, ok8, ok9, ok10, show (0 : Nat) < 3 by decide⟩
              refine lv_iload_n hx hb de_M_entry_96 rfl (lv_at hl 3 rfl) ?_
              refine lv_iconst (v := nI 0) hx hb de_M_entry_97 (by decide) ?_
              refine lv_aload_n hx hb de_M_entry_98 rfl (lv_at hl 0 rfl) ?_
              refine lv_iload hx hb de_M_entry_99 (lv_at hl 5 rfl) ?_
              refine dk_calli (va_runV (As := [.int (nI d0)]) (rest := [.int (nI 0), .int k, .ref h]) ⟨hx, hb, hml, hown, hts⟩ (c_M_inRun l G w_7666 h D ((μ.er' 0).er' 0) hm_7672 hmo2 (some d0) (fun r hr => by cases hr; omega)) (cwV 1 hts (wd_gV (C := "RunKeeperModel") wi_807 wi_804 wi_806 (wd_p (q := (⟨"RunKeeperModel", "inRun", "(I)I"⟩, 22)) (by decide +kernel) (by decide +kernel)) wi_8) rfl rfl rfl (by decide +kernel) ⟨Nat.le_of_ble_eq_true rfl, Nat.le_of_ble_eq_true rfl⟩) (dk_preV (kn_M, kt_M, 22) hE hP hS hh_7673 rfl) rfl rfl hl.1 rfl (lv_room (Nat.le_of_ble_eq_true rfl)) de_M_entry_101 ⟨(by first | exact Nat.le_of_ble_eq_true rfl | (simp only [Nat.zero_add]; omega) | omega), (by first | exact Nat.le_of_ble_eq_true rfl | (simp only [Nat.zero_add]; omega) | omega)⟩) hS (fun r_7695 w_7693 H locs hq_7694 hP hS => ?_)
              obtain ⟨hr_7696, he_7697⟩ := hq_7694
              subst hr_7696
              rw [he_7697] at hP
              refine lv_iconst (v := nI 1) hx hb de_M_entry_104 (by decide) ?_
              refine lv_isub hx hb de_M_entry_105 ?_
              refine dk_calli (va_runS (As := [.int k, .int (nI 0), .int (mI (ct_f (fun k9 => decide (μ.rf k9 = some d0)) μ.n))]) (rest := [.ref h]) ⟨hx, hb, hml, hown, hts⟩ (c_M_in l G w_7666 k (nI 0) (mI (ct_f (fun k9 => decide (μ.rf k9 = some d0)) μ.n))) (va_cwS 3 hts (wd_gS wi_795 wi_793 wi_794 wi_8) rfl rfl rfl (by decide +kernel) ⟨Nat.le_of_ble_eq_true rfl, Nat.le_of_ble_eq_true rfl⟩) (dk_preS hE hP hS) rfl rfl hl.1 rfl (lv_room (Nat.le_of_ble_eq_true rfl)) de_M_entry_106 ⟨(by first | exact Nat.le_of_ble_eq_true rfl | (simp only [Nat.zero_add]; omega) | omega), (by first | exact Nat.le_of_ble_eq_true rfl | (simp only [Nat.zero_add]; omega) | omega)⟩) hS (fun r_7700 w_7698 H locs hq_7699 hP hS => ?_)
              rw [hk9] at hq_7699
              obtain ⟨hr_7701, he_7702⟩ := hq_7699
              subst hr_7701
              rw [he_7702] at hP
              refine bo_if_ne (b := false) (tgt := 116) hx hb de_M_entry_109 (by decide) (fun c_7703 => ?_) (fun c_7703 => ?_)
              · exact absurd c_7703 (by decide)
              · refine lv_iconst (v := nI 1) hx hb de_M_entry_112 (by decide) ?_
                refine lv_goto (tgt := 117) hx hb de_M_entry_113 (by decide) ?_
                refine lv_iconst (v := nI 2) hx hb de_M_entry_117 (by decide) ?_
                rw [show (nI 1) = bo_i true from (by decide)]
                refine dk_calli (va_runV (As := [.int (bo_i true), .int (nI 2)]) (rest := []) ⟨hx, hb, hml, hown, hts⟩ (c_M_fails l G w_7666 h D ((μ.er' 0).er' 0) hm_7672 true 2 (by decide) (by decide) (show (0 : Nat) < 3 by decide)) (cwV 2 hts (wd_gV (C := "RunKeeperModel") wi_799 wi_796 wi_798 (wd_p (q := (⟨"RunKeeperModel", "fails", "(ZI)Z"⟩, 22)) (by decide +kernel) (by decide +kernel)) wi_8) rfl rfl rfl (by decide +kernel) ⟨Nat.le_of_ble_eq_true rfl, Nat.le_of_ble_eq_true rfl⟩) (dk_preV (kn_M, kt_M, 22) hE hP hS hh_7673 rfl) rfl rfl hl.1 rfl (lv_room (Nat.le_of_ble_eq_true rfl)) de_M_entry_118 ⟨(by first | exact Nat.le_of_ble_eq_true rfl | (simp only [Nat.zero_add]; omega) | omega), (by first | exact Nat.le_of_ble_eq_true rfl | (simp only [Nat.zero_add]; omega) | omega)⟩) hS (fun r_7706 w_7704 H locs hq_7705 hP hS => ?_)
                obtain ⟨hr_7707, hq_7708, hf_7709⟩ := hq_7705
                subst hr_7707
                have hm_7710 : md_at G w_7704 h D (((μ.er' 0).er' 0).er' 2) := hq_7708
                have hh_7711 : w_7704 h = some (100, .inr (cx_M, [.int (nI 2), .int (nI μ.n), .int (nI μ.sq), .int (nI μ.sf), .int (nI μ.rs), .int (rI μ.ba), .int (nI μ.pr), .int (nI μ.mi), .ref D.kf, .ref D.nf, .ref D.rf, .ref D.lf, .ref D.sv, .ref D.bk, .ref D.od, .ref D.vf, .ref D.bv, .ref D.df, .ref D.ss, .ref D.bd, .ref D.ks, .ref D.bt])) := hm_7710.o
                have ha_7712 : w_7704 D.kf = some (101, dk_ci G 700 (fun i9 => nI (μ.kf i9))) := hm_7710.kf
                have ha_7713 : w_7704 D.nf = some (102, dk_ci G 700 (fun i9 => nI (μ.nf i9))) := hm_7710.nf
                have ha_7714 : w_7704 D.rf = some (103, dk_ci G 700 (fun i9 => rI (μ.rf i9))) := hm_7710.rf
                have ha_7715 : w_7704 D.lf = some (104, dk_ci G 5000 (fun i9 => rI (μ.lf i9))) := hm_7710.lf
                have ha_7716 : w_7704 D.sv = some (105, dk_ci G 6 (fun i9 => nI (μ.sv i9))) := hm_7710.sv
                have ha_7717 : w_7704 D.bk = some (106, dk_ci G 16 (fun i9 => nI (μ.bk i9))) := hm_7710.bk
                have ha_7718 : w_7704 D.od = some (107, dk_ci G 700 (fun i9 => nI (μ.od i9))) := hm_7710.od
                have ha_7719 : w_7704 D.vf = some (108, dk_cl G 700 (fun i9 => μ.vf i9)) := hm_7710.vf
                have ha_7720 : w_7704 D.bv = some (109, dk_cl G 16 (fun i9 => μ.bv i9)) := hm_7710.bv
                have ha_7721 : w_7704 D.df = some (110, dk_cz G 700 (fun i9 => bo_i (μ.df i9))) := hm_7710.df
                have ha_7722 : w_7704 D.ss = some (111, dk_cz G 6 (fun i9 => bo_i (μ.ss i9))) := hm_7710.ss
                have ha_7723 : w_7704 D.bd = some (112, dk_cz G 16 (fun i9 => bo_i (μ.bd i9))) := hm_7710.bd
                have ha_7724 : w_7704 D.ks = some (113, dk_cz G 700 (fun i9 => bo_i (μ.ks i9))) := hm_7710.ks
                have ha_7725 : w_7704 D.bt = some (114, dk_cz G 6000 (fun i9 => bo_i (μ.bt i9))) := hm_7710.bt
                refine bo_if_eq (b := true) (tgt := 126) hx hb de_M_entry_121 (by decide) (fun c_7726 => ?_) (fun c_7726 => ?_)
                · exact absurd c_7726 (by decide)
                · refine lv_iconst (v := nI 0) hx hb de_M_entry_124 (by decide) ?_
                  exact dk_iret hQ hx hb hr hlocks hP hS (Nat.le_refl _) (Nat.le_refl _) (⟨rfl, hm_7710, (((dk_fr.rf).tr ((dk_fr.up (T := md_T) hh_7620 (by unfold md_T; omega)).eq hw_7622)).tr (hf_7671)).tr (hf_7709)⟩) de_M_entry_125
            · refine lv_aload_n hx hb de_M_entry_60 rfl (lv_at hl 0 rfl) ?_
              refine dk_get (a := h) (v := .ref D.lf) (C := kn_M) (T := kt_M) (N := 22) hx hb hts ki_M hown hK hP hh_7673 rfl 11 (by decide) (hts _ wi_725) (fun _ h9 => h9) rfl de_M_entry_61 ?_
              refine lv_iload hx hb de_M_entry_64 (lv_at hl 8 rfl) ?_
              refine dk_iald (a := D.lf) hx hb hK hP ha_7677 j rfl (by omega) (by omega) de_M_entry_66 ?_
              refine lv_iload_n hx hb de_M_entry_67 rfl (lv_at hl 1 rfl) ?_
              refine lv_icmp_ne (tgt := 84) hx hb de_M_entry_68 (by decide) (fun c_7690 => ?_) (fun c_7690 => ?_)
              · refine lv_iinc (v := nI (j + 1)) (lv' := [(8, .int (nI (j + 1))), (0, .ref h), (1, .int (nI l9)), (2, .int r9), (3, .int k), (4, .int (nI q0)), (5, .int (rI o)), (6, .int (nI m9)), (7, .int (nI 0))]) hx hb de_M_entry_84 hl (k := 8) rfl (nx_inc j) (by decide) rfl (fun ls hl => ?_)
                refine lv_goto (tgt := 51) hx hb de_M_entry_87 (by decide) ?_
                exact ih (j + 1) o m9 (by omega) (by omega) (by rw [id_n hid (fun z => c_7690 (hleq.mpr z))]) (by omega) _ (lv_sub hl [1, 2, 3, 4, 5, 6, 7, 8, 0] rfl)
              · refine lv_iload hx hb de_M_entry_71 (lv_at hl 6 rfl) ?_
                refine lv_iinc (v := nI (m9 + 1)) (lv' := [(6, .int (nI (m9 + 1))), (0, .ref h), (1, .int (nI l9)), (2, .int r9), (3, .int k), (4, .int (nI q0)), (5, .int (rI o)), (7, .int (nI 0)), (8, .int (nI j))]) hx hb de_M_entry_73 hl (k := 6) rfl (nx_inc m9) (by decide) rfl (fun ls hl => ?_)
                refine lv_iload_n hx hb de_M_entry_76 rfl (lv_at hl 3 rfl) ?_
                refine lv_icmp_ne (tgt := 84) hx hb de_M_entry_77 (by decide) (fun c_7691 => ?_) (fun c_7691 => ?_)
                · refine lv_iinc (v := nI (j + 1)) (lv' := [(8, .int (nI (j + 1))), (6, .int (nI (m9 + 1))), (0, .ref h), (1, .int (nI l9)), (2, .int r9), (3, .int k), (4, .int (nI q0)), (5, .int (rI o)), (7, .int (nI 0))]) hx hb de_M_entry_84 hl (k := 8) rfl (nx_inc j) (by decide) rfl (fun ls hl => ?_)
                  refine lv_goto (tgt := 51) hx hb de_M_entry_87 (by decide) ?_
                  exact ih (j + 1) o (m9 + 1) (by omega) (by omega) (by rw [id_o hid (hleq.mp c_7690) c_7691]) (by omega) _ (lv_sub hl [2, 3, 4, 5, 6, 7, 1, 8, 0] rfl)
                · refine lv_iload hx hb de_M_entry_80 (lv_at hl 8 rfl) ?_
                  refine lv_istore (lv' := [(5, .int (nI j)), (6, .int (nI (m9 + 1))), (0, .ref h), (1, .int (nI l9)), (2, .int r9), (3, .int k), (4, .int (nI q0)), (7, .int (nI 0)), (8, .int (nI j))]) hx hb de_M_entry_82 hl (by decide) rfl (fun ls hl => ?_)
                  refine lv_iinc (v := nI (j + 1)) (lv' := [(8, .int (nI (j + 1))), (5, .int (nI j)), (6, .int (nI (m9 + 1))), (0, .ref h), (1, .int (nI l9)), (2, .int r9), (3, .int k), (4, .int (nI q0)), (7, .int (nI 0))]) hx hb de_M_entry_84 hl (k := 8) rfl (nx_inc j) (by decide) rfl (fun ls hl => ?_)
                  refine lv_goto (tgt := 51) hx hb de_M_entry_87 (by decide) ?_
                  exact ih (j + 1) (some j) (m9 + 1) (by omega) (by omega) (by rw [id_y hid (hleq.mp c_7690) c_7691]) (by omega) _ (lv_sub hl [3, 4, 5, 6, 7, 1, 2, 8, 0] rfl)
        exact lp (μ.rs + 1) 0 none 0 (by omega) (Nat.zero_le _) rfl (by omega) _ (lv_sub hl [4, 5, 6, 7, 8, 3, 2, 1, 0] rfl)
      · exact absurd c_7688 (by decide)
    · exact absurd c_7665 (by decide)
