/-! RunKeeperModel: get, its constructor (printed by gen/c_md8.py) -/
def md_0 : md_S := (0, 0, 0, 0, 0, none, 0, 0, fun _ => 0, fun _ => 0, fun _ => some 0, fun _ => some 0, fun _ => 0, fun _ => 0, fun _ => 0, fun _ => 0, fun _ => 0, fun _ => false, fun _ => false, fun _ => false, fun _ => false, fun _ => false)
theorem md_z {w : dk_H} {h : Nat} {D : md_D} (H : w h = some (100, .inr (cx_M, [.int 0, .int 0, .int 0, .int 0, .int 0, .int (-1), .int 0, .int 0, .ref D.kf, .ref D.nf, .ref D.rf, .ref D.lf, .ref D.sv, .ref D.bk, .ref D.od, .ref D.vf, .ref D.bv, .ref D.df, .ref D.ss, .ref D.bd, .ref D.ks, .ref D.bt]))) : w h = some (100, md_c D md_0) := H
abbrev rm_M_get : Room := { frames := 3, cells := 0, slots := 0, locals := 75 }
set_option maxHeartbeats 4000000 in
set_option maxRecDepth 100000 in
theorem c_M_getK (l : Launch) (G : dk_G) (w : dk_H) (h : Nat) (D : md_D) (μ : md_S) (hm : md_at G w h D μ) (hmo : md_ok μ) (v k : Int32) (hk0 : im_b k (nI 0) (nI 1023) = false) : dk_Ml l my_M_get (wd_c my_M_get mb_M_get 4 (some .long)) rm_M_get G w [.ref h, .int v, .int k] (fun r w1 => r = 0 ∧ md_at G w1 h D (μ.er' 1) ∧ dk_fr md_T w w1) 0 0 := by
  obtain ⟨ok1, ok2, ok3, ok4, ok5, ok6, ok7, ok8, ok9, ok10, ok11⟩ := id hmo
  refine dk_enter (lv := [(0, .ref h), (1, .int v), (2, .int k)]) (by decide) (Nat.le_of_ble_eq_true rfl) rfl (fun p e s m args below meth c ls Q hQ C hP hS hl => ?_)
  obtain ⟨hx, hb, hr, hml, hlocks, hown, hnm, hts, hE⟩ := C
  have hK := hE.1
  have hN := hE.2.1
  have hh_5269 : w h = some (100, .inr (cx_M, [.int (nI μ.er), .int (nI μ.n), .int (nI μ.sq), .int (nI μ.sf), .int (nI μ.rs), .int (rI μ.ba), .int (nI μ.pr), .int (nI μ.mi), .ref D.kf, .ref D.nf, .ref D.rf, .ref D.lf, .ref D.sv, .ref D.bk, .ref D.od, .ref D.vf, .ref D.bv, .ref D.df, .ref D.ss, .ref D.bd, .ref D.ks, .ref D.bt])) := hm.o
  refine lv_aload_n hx hb de_M_get_0 rfl (lv_at hl 0 rfl) ?_
  refine lv_iconst (v := nI 0) hx hb de_M_get_1 (by decide) ?_
  refine dk_put (a := h) (v := .int (nI 0)) (ty := .int) (C := kn_M) (T := kt_M) (N := 22) hx hb hts ki_M ky_M kk_M kd_M hown hK hP hS hh_5269 rfl 0 (by decide) (hts _ wi_714) (fun _ h9 => h9) rfl (by decide +kernel) rfl rfl (Nat.le_of_ble_eq_true rfl) de_M_get_2 (fun H locs w_5270 hw_5271 hP hS => ?_)
  have h_5272 : w_5270 h = some (100, .inr (cx_M, [.int (nI 0), .int (nI μ.n), .int (nI μ.sq), .int (nI μ.sf), .int (nI μ.rs), .int (rI μ.ba), .int (nI μ.pr), .int (nI μ.mi), .ref D.kf, .ref D.nf, .ref D.rf, .ref D.lf, .ref D.sv, .ref D.bk, .ref D.od, .ref D.vf, .ref D.bv, .ref D.df, .ref D.ss, .ref D.bd, .ref D.ks, .ref D.bt])) := dk_here hw_5271
  have h_5273 : w_5270 D.kf = some (101, dk_ci G 700 (fun i9 => nI (μ.kf i9))) := dk_keep hw_5271 hh_5269 hm.kf (by decide)
  have h_5274 : w_5270 D.nf = some (102, dk_ci G 700 (fun i9 => nI (μ.nf i9))) := dk_keep hw_5271 hh_5269 hm.nf (by decide)
  have h_5275 : w_5270 D.rf = some (103, dk_ci G 700 (fun i9 => rI (μ.rf i9))) := dk_keep hw_5271 hh_5269 hm.rf (by decide)
  have h_5276 : w_5270 D.lf = some (104, dk_ci G 5000 (fun i9 => rI (μ.lf i9))) := dk_keep hw_5271 hh_5269 hm.lf (by decide)
  have h_5277 : w_5270 D.sv = some (105, dk_ci G 6 (fun i9 => nI (μ.sv i9))) := dk_keep hw_5271 hh_5269 hm.sv (by decide)
  have h_5278 : w_5270 D.bk = some (106, dk_ci G 16 (fun i9 => nI (μ.bk i9))) := dk_keep hw_5271 hh_5269 hm.bk (by decide)
  have h_5279 : w_5270 D.od = some (107, dk_ci G 700 (fun i9 => nI (μ.od i9))) := dk_keep hw_5271 hh_5269 hm.od (by decide)
  have h_5280 : w_5270 D.vf = some (108, dk_cl G 700 (fun i9 => μ.vf i9)) := dk_keep hw_5271 hh_5269 hm.vf (by decide)
  have h_5281 : w_5270 D.bv = some (109, dk_cl G 16 (fun i9 => μ.bv i9)) := dk_keep hw_5271 hh_5269 hm.bv (by decide)
  have h_5282 : w_5270 D.df = some (110, dk_cz G 700 (fun i9 => bo_i (μ.df i9))) := dk_keep hw_5271 hh_5269 hm.df (by decide)
  have h_5283 : w_5270 D.ss = some (111, dk_cz G 6 (fun i9 => bo_i (μ.ss i9))) := dk_keep hw_5271 hh_5269 hm.ss (by decide)
  have h_5284 : w_5270 D.bd = some (112, dk_cz G 16 (fun i9 => bo_i (μ.bd i9))) := dk_keep hw_5271 hh_5269 hm.bd (by decide)
  have h_5285 : w_5270 D.ks = some (113, dk_cz G 700 (fun i9 => bo_i (μ.ks i9))) := dk_keep hw_5271 hh_5269 hm.ks (by decide)
  have h_5286 : w_5270 D.bt = some (114, dk_cz G 6000 (fun i9 => bo_i (μ.bt i9))) := dk_keep hw_5271 hh_5269 hm.bt (by decide)
  have hm_5287 : md_at G w_5270 h D (μ.er' 0) := ⟨h_5272, h_5273, h_5274, h_5275, h_5276, h_5277, h_5278, h_5279, h_5280, h_5281, h_5282, h_5283, h_5284, h_5285, h_5286⟩
  have hh_5288 : w_5270 h = some (100, .inr (cx_M, [.int (nI 0), .int (nI μ.n), .int (nI μ.sq), .int (nI μ.sf), .int (nI μ.rs), .int (rI μ.ba), .int (nI μ.pr), .int (nI μ.mi), .ref D.kf, .ref D.nf, .ref D.rf, .ref D.lf, .ref D.sv, .ref D.bk, .ref D.od, .ref D.vf, .ref D.bv, .ref D.df, .ref D.ss, .ref D.bd, .ref D.ks, .ref D.bt])) := hm_5287.o
  have ha_5289 : w_5270 D.kf = some (101, dk_ci G 700 (fun i9 => nI (μ.kf i9))) := hm_5287.kf
  have ha_5290 : w_5270 D.nf = some (102, dk_ci G 700 (fun i9 => nI (μ.nf i9))) := hm_5287.nf
  have ha_5291 : w_5270 D.rf = some (103, dk_ci G 700 (fun i9 => rI (μ.rf i9))) := hm_5287.rf
  have ha_5292 : w_5270 D.lf = some (104, dk_ci G 5000 (fun i9 => rI (μ.lf i9))) := hm_5287.lf
  have ha_5293 : w_5270 D.sv = some (105, dk_ci G 6 (fun i9 => nI (μ.sv i9))) := hm_5287.sv
  have ha_5294 : w_5270 D.bk = some (106, dk_ci G 16 (fun i9 => nI (μ.bk i9))) := hm_5287.bk
  have ha_5295 : w_5270 D.od = some (107, dk_ci G 700 (fun i9 => nI (μ.od i9))) := hm_5287.od
  have ha_5296 : w_5270 D.vf = some (108, dk_cl G 700 (fun i9 => μ.vf i9)) := hm_5287.vf
  have ha_5297 : w_5270 D.bv = some (109, dk_cl G 16 (fun i9 => μ.bv i9)) := hm_5287.bv
  have ha_5298 : w_5270 D.df = some (110, dk_cz G 700 (fun i9 => bo_i (μ.df i9))) := hm_5287.df
  have ha_5299 : w_5270 D.ss = some (111, dk_cz G 6 (fun i9 => bo_i (μ.ss i9))) := hm_5287.ss
  have ha_5300 : w_5270 D.bd = some (112, dk_cz G 16 (fun i9 => bo_i (μ.bd i9))) := hm_5287.bd
  have ha_5301 : w_5270 D.ks = some (113, dk_cz G 700 (fun i9 => bo_i (μ.ks i9))) := hm_5287.ks
  have ha_5302 : w_5270 D.bt = some (114, dk_cz G 6000 (fun i9 => bo_i (μ.bt i9))) := hm_5287.bt
  refine lv_aload_n hx hb de_M_get_5 rfl (lv_at hl 0 rfl) ?_
  refine lv_iload_n hx hb de_M_get_6 rfl (lv_at hl 2 rfl) ?_
  refine lv_iconst (v := nI 0) hx hb de_M_get_7 (by decide) ?_
  refine lv_sipush (v := nI 1023) hx hb de_M_get_8 (by decide) ?_
  refine dk_calli (va_runS (As := [.int k, .int (nI 0), .int (nI 1023)]) (rest := [.ref h]) ⟨hx, hb, hml, hown, hts⟩ (c_M_in l G w_5270 k (nI 0) (nI 1023)) (va_cwS 3 hts (wd_gS wi_795 wi_793 wi_794 wi_8) rfl rfl rfl (by decide +kernel) ⟨Nat.le_of_ble_eq_true rfl, Nat.le_of_ble_eq_true rfl⟩) (dk_preS hE hP hS) rfl rfl hl.1 rfl (lv_room (Nat.le_of_ble_eq_true rfl)) de_M_get_11 ⟨(by first | exact Nat.le_of_ble_eq_true rfl | (simp only [Nat.zero_add]; omega) | omega), (by first | exact Nat.le_of_ble_eq_true rfl | (simp only [Nat.zero_add]; omega) | omega)⟩) hS (fun r_5305 w_5303 H locs hq_5304 hP hS => ?_)
  rw [hk0] at hq_5304
  obtain ⟨hr_5306, he_5307⟩ := hq_5304
  subst hr_5306
  rw [he_5307] at hP
  refine bo_if_eq (b := false) (tgt := 30) hx hb de_M_get_14 (by decide) (fun c_5308 => ?_) (fun c_5308 => ?_)
  · refine lv_iconst (v := nI 1) hx hb de_M_get_30 (by decide) ?_
    refine lv_goto (tgt := 35) hx hb de_M_get_31 (by decide) ?_
    refine lv_iconst (v := nI 1) hx hb de_M_get_35 (by decide) ?_
    rw [show (nI 1) = bo_i true from (by decide)]
    refine dk_calli (va_runV (As := [.int (bo_i true), .int (nI 1)]) (rest := []) ⟨hx, hb, hml, hown, hts⟩ (c_M_fails l G w_5270 h D (μ.er' 0) hm_5287 true 1 (by decide) (by decide) (show (0 : Nat) < 3 by decide)) (cwV 2 hts (wd_gV (C := "RunKeeperModel") wi_799 wi_796 wi_798 (wd_p (q := (⟨"RunKeeperModel", "fails", "(ZI)Z"⟩, 22)) (by decide +kernel) (by decide +kernel)) wi_8) rfl rfl rfl (by decide +kernel) ⟨Nat.le_of_ble_eq_true rfl, Nat.le_of_ble_eq_true rfl⟩) (dk_preV (kn_M, kt_M, 22) hE hP hS hh_5288 rfl) rfl rfl hl.1 rfl (lv_room (Nat.le_of_ble_eq_true rfl)) de_M_get_36 ⟨(by first | exact Nat.le_of_ble_eq_true rfl | (simp only [Nat.zero_add]; omega) | omega), (by first | exact Nat.le_of_ble_eq_true rfl | (simp only [Nat.zero_add]; omega) | omega)⟩) hS (fun r_5311 w_5309 H locs hq_5310 hP hS => ?_)
    obtain ⟨hr_5312, hq_5313, hf_5314⟩ := hq_5310
    subst hr_5312
    have hm_5315 : md_at G w_5309 h D ((μ.er' 0).er' 1) := hq_5313
    have hh_5316 : w_5309 h = some (100, .inr (cx_M, [.int (nI 1), .int (nI μ.n), .int (nI μ.sq), .int (nI μ.sf), .int (nI μ.rs), .int (rI μ.ba), .int (nI μ.pr), .int (nI μ.mi), .ref D.kf, .ref D.nf, .ref D.rf, .ref D.lf, .ref D.sv, .ref D.bk, .ref D.od, .ref D.vf, .ref D.bv, .ref D.df, .ref D.ss, .ref D.bd, .ref D.ks, .ref D.bt])) := hm_5315.o
    have ha_5317 : w_5309 D.kf = some (101, dk_ci G 700 (fun i9 => nI (μ.kf i9))) := hm_5315.kf
    have ha_5318 : w_5309 D.nf = some (102, dk_ci G 700 (fun i9 => nI (μ.nf i9))) := hm_5315.nf
    have ha_5319 : w_5309 D.rf = some (103, dk_ci G 700 (fun i9 => rI (μ.rf i9))) := hm_5315.rf
    have ha_5320 : w_5309 D.lf = some (104, dk_ci G 5000 (fun i9 => rI (μ.lf i9))) := hm_5315.lf
    have ha_5321 : w_5309 D.sv = some (105, dk_ci G 6 (fun i9 => nI (μ.sv i9))) := hm_5315.sv
    have ha_5322 : w_5309 D.bk = some (106, dk_ci G 16 (fun i9 => nI (μ.bk i9))) := hm_5315.bk
    have ha_5323 : w_5309 D.od = some (107, dk_ci G 700 (fun i9 => nI (μ.od i9))) := hm_5315.od
    have ha_5324 : w_5309 D.vf = some (108, dk_cl G 700 (fun i9 => μ.vf i9)) := hm_5315.vf
    have ha_5325 : w_5309 D.bv = some (109, dk_cl G 16 (fun i9 => μ.bv i9)) := hm_5315.bv
    have ha_5326 : w_5309 D.df = some (110, dk_cz G 700 (fun i9 => bo_i (μ.df i9))) := hm_5315.df
    have ha_5327 : w_5309 D.ss = some (111, dk_cz G 6 (fun i9 => bo_i (μ.ss i9))) := hm_5315.ss
    have ha_5328 : w_5309 D.bd = some (112, dk_cz G 16 (fun i9 => bo_i (μ.bd i9))) := hm_5315.bd
    have ha_5329 : w_5309 D.ks = some (113, dk_cz G 700 (fun i9 => bo_i (μ.ks i9))) := hm_5315.ks
    have ha_5330 : w_5309 D.bt = some (114, dk_cz G 6000 (fun i9 => bo_i (μ.bt i9))) := hm_5315.bt
    refine bo_if_eq (b := true) (tgt := 44) hx hb de_M_get_39 (by decide) (fun c_5331 => ?_) (fun c_5331 => ?_)
    · exact absurd c_5331 (by decide)
    · refine lv_lconst (v := 0) hx hb de_M_get_42 (by decide) ?_
      exact dk_lret hQ hx hb hr hlocks hP hS (Nat.le_refl _) (Nat.le_refl _) (⟨rfl, hm_5315, ((dk_fr.rf).tr ((dk_fr.up (T := md_T) hh_5269 (by unfold md_T; omega)).eq hw_5271)).tr (hf_5314)⟩) de_M_get_43
  · exact absurd c_5308 (by decide)
set_option maxHeartbeats 4000000 in
set_option maxRecDepth 100000 in
theorem c_M_getV (l : Launch) (G : dk_G) (w : dk_H) (h : Nat) (D : md_D) (μ : md_S) (hm : md_at G w h D μ) (hmo : md_ok μ) (v : Int32) (k : Nat) (hk0 : k < 1024) (hv1 : ¬ v = -1) (hv : vs_g μ v = none) : dk_Ml l my_M_get (wd_c my_M_get mb_M_get 4 (some .long)) rm_M_get G w [.ref h, .int v, .int (nI k)] (fun r w1 => r = 0 ∧ md_at G w1 h D (μ.er' 1) ∧ dk_fr md_T w w1) 0 0 := by
  obtain ⟨ok1, ok2, ok3, ok4, ok5, ok6, ok7, ok8, ok9, ok10, ok11⟩ := id hmo
  refine dk_enter (lv := [(0, .ref h), (1, .int v), (2, .int (nI k))]) (by decide) (Nat.le_of_ble_eq_true rfl) rfl (fun p e s m args below meth c ls Q hQ C hP hS hl => ?_)
  obtain ⟨hx, hb, hr, hml, hlocks, hown, hnm, hts, hE⟩ := C
  have hK := hE.1
  have hN := hE.2.1
  have hh_5332 : w h = some (100, .inr (cx_M, [.int (nI μ.er), .int (nI μ.n), .int (nI μ.sq), .int (nI μ.sf), .int (nI μ.rs), .int (rI μ.ba), .int (nI μ.pr), .int (nI μ.mi), .ref D.kf, .ref D.nf, .ref D.rf, .ref D.lf, .ref D.sv, .ref D.bk, .ref D.od, .ref D.vf, .ref D.bv, .ref D.df, .ref D.ss, .ref D.bd, .ref D.ks, .ref D.bt])) := hm.o
  refine lv_aload_n hx hb de_M_get_0 rfl (lv_at hl 0 rfl) ?_
  refine lv_iconst (v := nI 0) hx hb de_M_get_1 (by decide) ?_
  refine dk_put (a := h) (v := .int (nI 0)) (ty := .int) (C := kn_M) (T := kt_M) (N := 22) hx hb hts ki_M ky_M kk_M kd_M hown hK hP hS hh_5332 rfl 0 (by decide) (hts _ wi_714) (fun _ h9 => h9) rfl (by decide +kernel) rfl rfl (Nat.le_of_ble_eq_true rfl) de_M_get_2 (fun H locs w_5333 hw_5334 hP hS => ?_)
  have h_5335 : w_5333 h = some (100, .inr (cx_M, [.int (nI 0), .int (nI μ.n), .int (nI μ.sq), .int (nI μ.sf), .int (nI μ.rs), .int (rI μ.ba), .int (nI μ.pr), .int (nI μ.mi), .ref D.kf, .ref D.nf, .ref D.rf, .ref D.lf, .ref D.sv, .ref D.bk, .ref D.od, .ref D.vf, .ref D.bv, .ref D.df, .ref D.ss, .ref D.bd, .ref D.ks, .ref D.bt])) := dk_here hw_5334
  have h_5336 : w_5333 D.kf = some (101, dk_ci G 700 (fun i9 => nI (μ.kf i9))) := dk_keep hw_5334 hh_5332 hm.kf (by decide)
  have h_5337 : w_5333 D.nf = some (102, dk_ci G 700 (fun i9 => nI (μ.nf i9))) := dk_keep hw_5334 hh_5332 hm.nf (by decide)
  have h_5338 : w_5333 D.rf = some (103, dk_ci G 700 (fun i9 => rI (μ.rf i9))) := dk_keep hw_5334 hh_5332 hm.rf (by decide)
  have h_5339 : w_5333 D.lf = some (104, dk_ci G 5000 (fun i9 => rI (μ.lf i9))) := dk_keep hw_5334 hh_5332 hm.lf (by decide)
  have h_5340 : w_5333 D.sv = some (105, dk_ci G 6 (fun i9 => nI (μ.sv i9))) := dk_keep hw_5334 hh_5332 hm.sv (by decide)
  have h_5341 : w_5333 D.bk = some (106, dk_ci G 16 (fun i9 => nI (μ.bk i9))) := dk_keep hw_5334 hh_5332 hm.bk (by decide)
  have h_5342 : w_5333 D.od = some (107, dk_ci G 700 (fun i9 => nI (μ.od i9))) := dk_keep hw_5334 hh_5332 hm.od (by decide)
  have h_5343 : w_5333 D.vf = some (108, dk_cl G 700 (fun i9 => μ.vf i9)) := dk_keep hw_5334 hh_5332 hm.vf (by decide)
  have h_5344 : w_5333 D.bv = some (109, dk_cl G 16 (fun i9 => μ.bv i9)) := dk_keep hw_5334 hh_5332 hm.bv (by decide)
  have h_5345 : w_5333 D.df = some (110, dk_cz G 700 (fun i9 => bo_i (μ.df i9))) := dk_keep hw_5334 hh_5332 hm.df (by decide)
  have h_5346 : w_5333 D.ss = some (111, dk_cz G 6 (fun i9 => bo_i (μ.ss i9))) := dk_keep hw_5334 hh_5332 hm.ss (by decide)
  have h_5347 : w_5333 D.bd = some (112, dk_cz G 16 (fun i9 => bo_i (μ.bd i9))) := dk_keep hw_5334 hh_5332 hm.bd (by decide)
  have h_5348 : w_5333 D.ks = some (113, dk_cz G 700 (fun i9 => bo_i (μ.ks i9))) := dk_keep hw_5334 hh_5332 hm.ks (by decide)
  have h_5349 : w_5333 D.bt = some (114, dk_cz G 6000 (fun i9 => bo_i (μ.bt i9))) := dk_keep hw_5334 hh_5332 hm.bt (by decide)
  have hm_5350 : md_at G w_5333 h D (μ.er' 0) := ⟨h_5335, h_5336, h_5337, h_5338, h_5339, h_5340, h_5341, h_5342, h_5343, h_5344, h_5345, h_5346, h_5347, h_5348, h_5349⟩
  have hh_5351 : w_5333 h = some (100, .inr (cx_M, [.int (nI 0), .int (nI μ.n), .int (nI μ.sq), .int (nI μ.sf), .int (nI μ.rs), .int (rI μ.ba), .int (nI μ.pr), .int (nI μ.mi), .ref D.kf, .ref D.nf, .ref D.rf, .ref D.lf, .ref D.sv, .ref D.bk, .ref D.od, .ref D.vf, .ref D.bv, .ref D.df, .ref D.ss, .ref D.bd, .ref D.ks, .ref D.bt])) := hm_5350.o
  have ha_5352 : w_5333 D.kf = some (101, dk_ci G 700 (fun i9 => nI (μ.kf i9))) := hm_5350.kf
  have ha_5353 : w_5333 D.nf = some (102, dk_ci G 700 (fun i9 => nI (μ.nf i9))) := hm_5350.nf
  have ha_5354 : w_5333 D.rf = some (103, dk_ci G 700 (fun i9 => rI (μ.rf i9))) := hm_5350.rf
  have ha_5355 : w_5333 D.lf = some (104, dk_ci G 5000 (fun i9 => rI (μ.lf i9))) := hm_5350.lf
  have ha_5356 : w_5333 D.sv = some (105, dk_ci G 6 (fun i9 => nI (μ.sv i9))) := hm_5350.sv
  have ha_5357 : w_5333 D.bk = some (106, dk_ci G 16 (fun i9 => nI (μ.bk i9))) := hm_5350.bk
  have ha_5358 : w_5333 D.od = some (107, dk_ci G 700 (fun i9 => nI (μ.od i9))) := hm_5350.od
  have ha_5359 : w_5333 D.vf = some (108, dk_cl G 700 (fun i9 => μ.vf i9)) := hm_5350.vf
  have ha_5360 : w_5333 D.bv = some (109, dk_cl G 16 (fun i9 => μ.bv i9)) := hm_5350.bv
  have ha_5361 : w_5333 D.df = some (110, dk_cz G 700 (fun i9 => bo_i (μ.df i9))) := hm_5350.df
  have ha_5362 : w_5333 D.ss = some (111, dk_cz G 6 (fun i9 => bo_i (μ.ss i9))) := hm_5350.ss
  have ha_5363 : w_5333 D.bd = some (112, dk_cz G 16 (fun i9 => bo_i (μ.bd i9))) := hm_5350.bd
  have ha_5364 : w_5333 D.ks = some (113, dk_cz G 700 (fun i9 => bo_i (μ.ks i9))) := hm_5350.ks
  have ha_5365 : w_5333 D.bt = some (114, dk_cz G 6000 (fun i9 => bo_i (μ.bt i9))) := hm_5350.bt
  refine lv_aload_n hx hb de_M_get_5 rfl (lv_at hl 0 rfl) ?_
  refine lv_iload_n hx hb de_M_get_6 rfl (lv_at hl 2 rfl) ?_
  refine lv_iconst (v := nI 0) hx hb de_M_get_7 (by decide) ?_
  refine lv_sipush (v := nI 1023) hx hb de_M_get_8 (by decide) ?_
  refine dk_calli (va_runS (As := [.int (nI k), .int (nI 0), .int (nI 1023)]) (rest := [.ref h]) ⟨hx, hb, hml, hown, hts⟩ (c_M_in l G w_5333 (nI k) (nI 0) (nI 1023)) (va_cwS 3 hts (wd_gS wi_795 wi_793 wi_794 wi_8) rfl rfl rfl (by decide +kernel) ⟨Nat.le_of_ble_eq_true rfl, Nat.le_of_ble_eq_true rfl⟩) (dk_preS hE hP hS) rfl rfl hl.1 rfl (lv_room (Nat.le_of_ble_eq_true rfl)) de_M_get_11 ⟨(by first | exact Nat.le_of_ble_eq_true rfl | (simp only [Nat.zero_add]; omega) | omega), (by first | exact Nat.le_of_ble_eq_true rfl | (simp only [Nat.zero_add]; omega) | omega)⟩) hS (fun r_5368 w_5366 H locs hq_5367 hP hS => ?_)
  rw [im_y (by decide) (by omega)] at hq_5367
  obtain ⟨hr_5369, he_5370⟩ := hq_5367
  subst hr_5369
  rw [he_5370] at hP
  refine bo_if_eq (b := true) (tgt := 30) hx hb de_M_get_14 (by decide) (fun c_5371 => ?_) (fun c_5371 => ?_)
  · exact absurd c_5371 (by decide)
  · refine lv_iload_n hx hb de_M_get_17 rfl (lv_at hl 1 rfl) ?_
    refine lv_iconst (v := (-1)) hx hb de_M_get_18 (by decide) ?_
    refine lv_icmp_eq (tgt := 34) hx hb de_M_get_19 (by decide) (fun c_5372 => ?_) (fun c_5372 => ?_)
    · exact absurd c_5372 hv1
    · refine lv_aload_n hx hb de_M_get_22 rfl (lv_at hl 0 rfl) ?_
      refine lv_iload_n hx hb de_M_get_23 rfl (lv_at hl 1 rfl) ?_
      refine dk_calli (va_runV (As := [.int v]) (rest := [.ref h]) ⟨hx, hb, hml, hown, hts⟩ (c_M_isNone l G w_5333 h D (μ.er' 0) hm_5350 v) (cwV 1 hts (wd_gV (C := "RunKeeperModel") wi_872 wi_869 wi_871 (wd_p (q := (⟨"RunKeeperModel", "isNone", "(I)Z"⟩, 22)) (by decide +kernel) (by decide +kernel)) wi_8) rfl rfl rfl (by decide +kernel) ⟨Nat.le_of_ble_eq_true rfl, Nat.le_of_ble_eq_true rfl⟩) (dk_preV (kn_M, kt_M, 22) hE hP hS hh_5351 rfl) rfl rfl hl.1 rfl (lv_room (Nat.le_of_ble_eq_true rfl)) de_M_get_24 ⟨(by first | exact Nat.le_of_ble_eq_true rfl | (simp only [Nat.zero_add]; omega) | omega), (by first | exact Nat.le_of_ble_eq_true rfl | (simp only [Nat.zero_add]; omega) | omega)⟩) hS (fun r_5375 w_5373 H locs hq_5374 hP hS => ?_)
      rw [show vs_g (μ.er' 0) v = none from hv] at hq_5374
      obtain ⟨hr_5376, he_5377⟩ := hq_5374
      subst hr_5376
      rw [he_5377] at hP
      refine bo_if_eq (b := true) (tgt := 34) hx hb de_M_get_27 (by decide) (fun c_5378 => ?_) (fun c_5378 => ?_)
      · exact absurd c_5378 (by decide)
      · refine lv_iconst (v := nI 1) hx hb de_M_get_30 (by decide) ?_
        refine lv_goto (tgt := 35) hx hb de_M_get_31 (by decide) ?_
        refine lv_iconst (v := nI 1) hx hb de_M_get_35 (by decide) ?_
        rw [show (nI 1) = bo_i true from (by decide)]
        refine dk_calli (va_runV (As := [.int (bo_i true), .int (nI 1)]) (rest := []) ⟨hx, hb, hml, hown, hts⟩ (c_M_fails l G w_5333 h D (μ.er' 0) hm_5350 true 1 (by decide) (by decide) (show (0 : Nat) < 3 by decide)) (cwV 2 hts (wd_gV (C := "RunKeeperModel") wi_799 wi_796 wi_798 (wd_p (q := (⟨"RunKeeperModel", "fails", "(ZI)Z"⟩, 22)) (by decide +kernel) (by decide +kernel)) wi_8) rfl rfl rfl (by decide +kernel) ⟨Nat.le_of_ble_eq_true rfl, Nat.le_of_ble_eq_true rfl⟩) (dk_preV (kn_M, kt_M, 22) hE hP hS hh_5351 rfl) rfl rfl hl.1 rfl (lv_room (Nat.le_of_ble_eq_true rfl)) de_M_get_36 ⟨(by first | exact Nat.le_of_ble_eq_true rfl | (simp only [Nat.zero_add]; omega) | omega), (by first | exact Nat.le_of_ble_eq_true rfl | (simp only [Nat.zero_add]; omega) | omega)⟩) hS (fun r_5381 w_5379 H locs hq_5380 hP hS => ?_)
        obtain ⟨hr_5382, hq_5383, hf_5384⟩ := hq_5380
        subst hr_5382
        have hm_5385 : md_at G w_5379 h D ((μ.er' 0).er' 1) := hq_5383
        have hh_5386 : w_5379 h = some (100, .inr (cx_M, [.int (nI 1), .int (nI μ.n), .int (nI μ.sq), .int (nI μ.sf), .int (nI μ.rs), .int (rI μ.ba), .int (nI μ.pr), .int (nI μ.mi), .ref D.kf, .ref D.nf, .ref D.rf, .ref D.lf, .ref D.sv, .ref D.bk, .ref D.od, .ref D.vf, .ref D.bv, .ref D.df, .ref D.ss, .ref D.bd, .ref D.ks, .ref D.bt])) := hm_5385.o
        have ha_5387 : w_5379 D.kf = some (101, dk_ci G 700 (fun i9 => nI (μ.kf i9))) := hm_5385.kf
        have ha_5388 : w_5379 D.nf = some (102, dk_ci G 700 (fun i9 => nI (μ.nf i9))) := hm_5385.nf
        have ha_5389 : w_5379 D.rf = some (103, dk_ci G 700 (fun i9 => rI (μ.rf i9))) := hm_5385.rf
        have ha_5390 : w_5379 D.lf = some (104, dk_ci G 5000 (fun i9 => rI (μ.lf i9))) := hm_5385.lf
        have ha_5391 : w_5379 D.sv = some (105, dk_ci G 6 (fun i9 => nI (μ.sv i9))) := hm_5385.sv
        have ha_5392 : w_5379 D.bk = some (106, dk_ci G 16 (fun i9 => nI (μ.bk i9))) := hm_5385.bk
        have ha_5393 : w_5379 D.od = some (107, dk_ci G 700 (fun i9 => nI (μ.od i9))) := hm_5385.od
        have ha_5394 : w_5379 D.vf = some (108, dk_cl G 700 (fun i9 => μ.vf i9)) := hm_5385.vf
        have ha_5395 : w_5379 D.bv = some (109, dk_cl G 16 (fun i9 => μ.bv i9)) := hm_5385.bv
        have ha_5396 : w_5379 D.df = some (110, dk_cz G 700 (fun i9 => bo_i (μ.df i9))) := hm_5385.df
        have ha_5397 : w_5379 D.ss = some (111, dk_cz G 6 (fun i9 => bo_i (μ.ss i9))) := hm_5385.ss
        have ha_5398 : w_5379 D.bd = some (112, dk_cz G 16 (fun i9 => bo_i (μ.bd i9))) := hm_5385.bd
        have ha_5399 : w_5379 D.ks = some (113, dk_cz G 700 (fun i9 => bo_i (μ.ks i9))) := hm_5385.ks
        have ha_5400 : w_5379 D.bt = some (114, dk_cz G 6000 (fun i9 => bo_i (μ.bt i9))) := hm_5385.bt
        refine bo_if_eq (b := true) (tgt := 44) hx hb de_M_get_39 (by decide) (fun c_5401 => ?_) (fun c_5401 => ?_)
        · exact absurd c_5401 (by decide)
        · refine lv_lconst (v := 0) hx hb de_M_get_42 (by decide) ?_
          exact dk_lret hQ hx hb hr hlocks hP hS (Nat.le_refl _) (Nat.le_refl _) (⟨rfl, hm_5385, ((dk_fr.rf).tr ((dk_fr.up (T := md_T) hh_5332 (by unfold md_T; omega)).eq hw_5334)).tr (hf_5384)⟩) de_M_get_43
set_option maxHeartbeats 4000000 in
set_option maxRecDepth 100000 in
theorem c_M_getN (l : Launch) (G : dk_G) (w : dk_H) (h : Nat) (D : md_D) (μ : md_S) (hm : md_at G w h D μ) (hmo : md_ok μ) (v : Int32) (k : Nat) (hk0 : k < 1024) (u : Nat) (hu0 : u < 2 ^ 31) (hv : mu_u μ v = some u) (hb9 : be_f μ k u μ.n = none) (hlive : ∀ r l, r < μ.rs → μ.lf r = some l → 0 < ct_f (fun k9 => decide (μ.rf k9 = some r)) μ.n) : dk_Ml l my_M_get (wd_c my_M_get mb_M_get 4 (some .long)) rm_M_get G w [.ref h, .int v, .int (nI k)] (fun r w1 => r = 0 ∧ (∃ B, md_at G w1 h D ((((μ.er' 2).pr' (pm_K (μ.er' 0) k ((none : Option Nat).bind μ.rf) (none)).1).mi' (pm_K (μ.er' 0) k ((none : Option Nat).bind μ.rf) (none)).2).bt' B)) ∧ dk_fr md_T w w1) 0 0 := by
  obtain ⟨ok1, ok2, ok3, ok4, ok5, ok6, ok7, ok8, ok9, ok10, ok11⟩ := id hmo
  refine dk_enter (lv := [(0, .ref h), (1, .int v), (2, .int (nI k))]) (by decide) (Nat.le_of_ble_eq_true rfl) rfl (fun p e s m args below meth c ls Q hQ C hP hS hl => ?_)
  obtain ⟨hx, hb, hr, hml, hlocks, hown, hnm, hts, hE⟩ := C
  have hK := hE.1
  have hN := hE.2.1
  have hh_5402 : w h = some (100, .inr (cx_M, [.int (nI μ.er), .int (nI μ.n), .int (nI μ.sq), .int (nI μ.sf), .int (nI μ.rs), .int (rI μ.ba), .int (nI μ.pr), .int (nI μ.mi), .ref D.kf, .ref D.nf, .ref D.rf, .ref D.lf, .ref D.sv, .ref D.bk, .ref D.od, .ref D.vf, .ref D.bv, .ref D.df, .ref D.ss, .ref D.bd, .ref D.ks, .ref D.bt])) := hm.o
  refine lv_aload_n hx hb de_M_get_0 rfl (lv_at hl 0 rfl) ?_
  refine lv_iconst (v := nI 0) hx hb de_M_get_1 (by decide) ?_
  refine dk_put (a := h) (v := .int (nI 0)) (ty := .int) (C := kn_M) (T := kt_M) (N := 22) hx hb hts ki_M ky_M kk_M kd_M hown hK hP hS hh_5402 rfl 0 (by decide) (hts _ wi_714) (fun _ h9 => h9) rfl (by decide +kernel) rfl rfl (Nat.le_of_ble_eq_true rfl) de_M_get_2 (fun H locs w_5403 hw_5404 hP hS => ?_)
  have h_5405 : w_5403 h = some (100, .inr (cx_M, [.int (nI 0), .int (nI μ.n), .int (nI μ.sq), .int (nI μ.sf), .int (nI μ.rs), .int (rI μ.ba), .int (nI μ.pr), .int (nI μ.mi), .ref D.kf, .ref D.nf, .ref D.rf, .ref D.lf, .ref D.sv, .ref D.bk, .ref D.od, .ref D.vf, .ref D.bv, .ref D.df, .ref D.ss, .ref D.bd, .ref D.ks, .ref D.bt])) := dk_here hw_5404
  have h_5406 : w_5403 D.kf = some (101, dk_ci G 700 (fun i9 => nI (μ.kf i9))) := dk_keep hw_5404 hh_5402 hm.kf (by decide)
  have h_5407 : w_5403 D.nf = some (102, dk_ci G 700 (fun i9 => nI (μ.nf i9))) := dk_keep hw_5404 hh_5402 hm.nf (by decide)
  have h_5408 : w_5403 D.rf = some (103, dk_ci G 700 (fun i9 => rI (μ.rf i9))) := dk_keep hw_5404 hh_5402 hm.rf (by decide)
  have h_5409 : w_5403 D.lf = some (104, dk_ci G 5000 (fun i9 => rI (μ.lf i9))) := dk_keep hw_5404 hh_5402 hm.lf (by decide)
  have h_5410 : w_5403 D.sv = some (105, dk_ci G 6 (fun i9 => nI (μ.sv i9))) := dk_keep hw_5404 hh_5402 hm.sv (by decide)
  have h_5411 : w_5403 D.bk = some (106, dk_ci G 16 (fun i9 => nI (μ.bk i9))) := dk_keep hw_5404 hh_5402 hm.bk (by decide)
  have h_5412 : w_5403 D.od = some (107, dk_ci G 700 (fun i9 => nI (μ.od i9))) := dk_keep hw_5404 hh_5402 hm.od (by decide)
  have h_5413 : w_5403 D.vf = some (108, dk_cl G 700 (fun i9 => μ.vf i9)) := dk_keep hw_5404 hh_5402 hm.vf (by decide)
  have h_5414 : w_5403 D.bv = some (109, dk_cl G 16 (fun i9 => μ.bv i9)) := dk_keep hw_5404 hh_5402 hm.bv (by decide)
  have h_5415 : w_5403 D.df = some (110, dk_cz G 700 (fun i9 => bo_i (μ.df i9))) := dk_keep hw_5404 hh_5402 hm.df (by decide)
  have h_5416 : w_5403 D.ss = some (111, dk_cz G 6 (fun i9 => bo_i (μ.ss i9))) := dk_keep hw_5404 hh_5402 hm.ss (by decide)
  have h_5417 : w_5403 D.bd = some (112, dk_cz G 16 (fun i9 => bo_i (μ.bd i9))) := dk_keep hw_5404 hh_5402 hm.bd (by decide)
  have h_5418 : w_5403 D.ks = some (113, dk_cz G 700 (fun i9 => bo_i (μ.ks i9))) := dk_keep hw_5404 hh_5402 hm.ks (by decide)
  have h_5419 : w_5403 D.bt = some (114, dk_cz G 6000 (fun i9 => bo_i (μ.bt i9))) := dk_keep hw_5404 hh_5402 hm.bt (by decide)
  have hm_5420 : md_at G w_5403 h D (μ.er' 0) := ⟨h_5405, h_5406, h_5407, h_5408, h_5409, h_5410, h_5411, h_5412, h_5413, h_5414, h_5415, h_5416, h_5417, h_5418, h_5419⟩
  have hh_5421 : w_5403 h = some (100, .inr (cx_M, [.int (nI 0), .int (nI μ.n), .int (nI μ.sq), .int (nI μ.sf), .int (nI μ.rs), .int (rI μ.ba), .int (nI μ.pr), .int (nI μ.mi), .ref D.kf, .ref D.nf, .ref D.rf, .ref D.lf, .ref D.sv, .ref D.bk, .ref D.od, .ref D.vf, .ref D.bv, .ref D.df, .ref D.ss, .ref D.bd, .ref D.ks, .ref D.bt])) := hm_5420.o
  have ha_5422 : w_5403 D.kf = some (101, dk_ci G 700 (fun i9 => nI (μ.kf i9))) := hm_5420.kf
  have ha_5423 : w_5403 D.nf = some (102, dk_ci G 700 (fun i9 => nI (μ.nf i9))) := hm_5420.nf
  have ha_5424 : w_5403 D.rf = some (103, dk_ci G 700 (fun i9 => rI (μ.rf i9))) := hm_5420.rf
  have ha_5425 : w_5403 D.lf = some (104, dk_ci G 5000 (fun i9 => rI (μ.lf i9))) := hm_5420.lf
  have ha_5426 : w_5403 D.sv = some (105, dk_ci G 6 (fun i9 => nI (μ.sv i9))) := hm_5420.sv
  have ha_5427 : w_5403 D.bk = some (106, dk_ci G 16 (fun i9 => nI (μ.bk i9))) := hm_5420.bk
  have ha_5428 : w_5403 D.od = some (107, dk_ci G 700 (fun i9 => nI (μ.od i9))) := hm_5420.od
  have ha_5429 : w_5403 D.vf = some (108, dk_cl G 700 (fun i9 => μ.vf i9)) := hm_5420.vf
  have ha_5430 : w_5403 D.bv = some (109, dk_cl G 16 (fun i9 => μ.bv i9)) := hm_5420.bv
  have ha_5431 : w_5403 D.df = some (110, dk_cz G 700 (fun i9 => bo_i (μ.df i9))) := hm_5420.df
  have ha_5432 : w_5403 D.ss = some (111, dk_cz G 6 (fun i9 => bo_i (μ.ss i9))) := hm_5420.ss
  have ha_5433 : w_5403 D.bd = some (112, dk_cz G 16 (fun i9 => bo_i (μ.bd i9))) := hm_5420.bd
  have ha_5434 : w_5403 D.ks = some (113, dk_cz G 700 (fun i9 => bo_i (μ.ks i9))) := hm_5420.ks
  have ha_5435 : w_5403 D.bt = some (114, dk_cz G 6000 (fun i9 => bo_i (μ.bt i9))) := hm_5420.bt
  refine lv_aload_n hx hb de_M_get_5 rfl (lv_at hl 0 rfl) ?_
  refine lv_iload_n hx hb de_M_get_6 rfl (lv_at hl 2 rfl) ?_
  refine lv_iconst (v := nI 0) hx hb de_M_get_7 (by decide) ?_
  refine lv_sipush (v := nI 1023) hx hb de_M_get_8 (by decide) ?_
  refine dk_calli (va_runS (As := [.int (nI k), .int (nI 0), .int (nI 1023)]) (rest := [.ref h]) ⟨hx, hb, hml, hown, hts⟩ (c_M_in l G w_5403 (nI k) (nI 0) (nI 1023)) (va_cwS 3 hts (wd_gS wi_795 wi_793 wi_794 wi_8) rfl rfl rfl (by decide +kernel) ⟨Nat.le_of_ble_eq_true rfl, Nat.le_of_ble_eq_true rfl⟩) (dk_preS hE hP hS) rfl rfl hl.1 rfl (lv_room (Nat.le_of_ble_eq_true rfl)) de_M_get_11 ⟨(by first | exact Nat.le_of_ble_eq_true rfl | (simp only [Nat.zero_add]; omega) | omega), (by first | exact Nat.le_of_ble_eq_true rfl | (simp only [Nat.zero_add]; omega) | omega)⟩) hS (fun r_5438 w_5436 H locs hq_5437 hP hS => ?_)
  rw [im_y (by decide) (by omega)] at hq_5437
  obtain ⟨hr_5439, he_5440⟩ := hq_5437
  subst hr_5439
  rw [he_5440] at hP
  refine bo_if_eq (b := true) (tgt := 30) hx hb de_M_get_14 (by decide) (fun c_5441 => ?_) (fun c_5441 => ?_)
  · exact absurd c_5441 (by decide)
  · refine lv_iload_n hx hb de_M_get_17 rfl (lv_at hl 1 rfl) ?_
    refine lv_iconst (v := (-1)) hx hb de_M_get_18 (by decide) ?_
    refine lv_icmp_eq (tgt := 34) hx hb de_M_get_19 (by decide) (fun c_5442 => ?_) (fun c_5442 => ?_)
    · refine lv_iconst (v := nI 0) hx hb de_M_get_34 (by decide) ?_
      refine lv_iconst (v := nI 1) hx hb de_M_get_35 (by decide) ?_
      rw [show (nI 0) = bo_i false from (by decide)]
      refine dk_calli (va_runV (As := [.int (bo_i false), .int (nI 1)]) (rest := []) ⟨hx, hb, hml, hown, hts⟩ (c_M_fails l G w_5403 h D (μ.er' 0) hm_5420 false 1 (by decide) (by decide) (show (0 : Nat) < 3 by decide)) (cwV 2 hts (wd_gV (C := "RunKeeperModel") wi_799 wi_796 wi_798 (wd_p (q := (⟨"RunKeeperModel", "fails", "(ZI)Z"⟩, 22)) (by decide +kernel) (by decide +kernel)) wi_8) rfl rfl rfl (by decide +kernel) ⟨Nat.le_of_ble_eq_true rfl, Nat.le_of_ble_eq_true rfl⟩) (dk_preV (kn_M, kt_M, 22) hE hP hS hh_5421 rfl) rfl rfl hl.1 rfl (lv_room (Nat.le_of_ble_eq_true rfl)) de_M_get_36 ⟨(by first | exact Nat.le_of_ble_eq_true rfl | (simp only [Nat.zero_add]; omega) | omega), (by first | exact Nat.le_of_ble_eq_true rfl | (simp only [Nat.zero_add]; omega) | omega)⟩) hS (fun r_5451 w_5449 H locs hq_5450 hP hS => ?_)
      obtain ⟨hr_5452, hq_5453, hf_5454⟩ := hq_5450
      subst hr_5452
      have hm_5455 : md_at G w_5449 h D ((μ.er' 0).er' 0) := hq_5453
      have hh_5456 : w_5449 h = some (100, .inr (cx_M, [.int (nI 0), .int (nI μ.n), .int (nI μ.sq), .int (nI μ.sf), .int (nI μ.rs), .int (rI μ.ba), .int (nI μ.pr), .int (nI μ.mi), .ref D.kf, .ref D.nf, .ref D.rf, .ref D.lf, .ref D.sv, .ref D.bk, .ref D.od, .ref D.vf, .ref D.bv, .ref D.df, .ref D.ss, .ref D.bd, .ref D.ks, .ref D.bt])) := hm_5455.o
      have ha_5457 : w_5449 D.kf = some (101, dk_ci G 700 (fun i9 => nI (μ.kf i9))) := hm_5455.kf
      have ha_5458 : w_5449 D.nf = some (102, dk_ci G 700 (fun i9 => nI (μ.nf i9))) := hm_5455.nf
      have ha_5459 : w_5449 D.rf = some (103, dk_ci G 700 (fun i9 => rI (μ.rf i9))) := hm_5455.rf
      have ha_5460 : w_5449 D.lf = some (104, dk_ci G 5000 (fun i9 => rI (μ.lf i9))) := hm_5455.lf
      have ha_5461 : w_5449 D.sv = some (105, dk_ci G 6 (fun i9 => nI (μ.sv i9))) := hm_5455.sv
      have ha_5462 : w_5449 D.bk = some (106, dk_ci G 16 (fun i9 => nI (μ.bk i9))) := hm_5455.bk
      have ha_5463 : w_5449 D.od = some (107, dk_ci G 700 (fun i9 => nI (μ.od i9))) := hm_5455.od
      have ha_5464 : w_5449 D.vf = some (108, dk_cl G 700 (fun i9 => μ.vf i9)) := hm_5455.vf
      have ha_5465 : w_5449 D.bv = some (109, dk_cl G 16 (fun i9 => μ.bv i9)) := hm_5455.bv
      have ha_5466 : w_5449 D.df = some (110, dk_cz G 700 (fun i9 => bo_i (μ.df i9))) := hm_5455.df
      have ha_5467 : w_5449 D.ss = some (111, dk_cz G 6 (fun i9 => bo_i (μ.ss i9))) := hm_5455.ss
      have ha_5468 : w_5449 D.bd = some (112, dk_cz G 16 (fun i9 => bo_i (μ.bd i9))) := hm_5455.bd
      have ha_5469 : w_5449 D.ks = some (113, dk_cz G 700 (fun i9 => bo_i (μ.ks i9))) := hm_5455.ks
      have ha_5470 : w_5449 D.bt = some (114, dk_cz G 6000 (fun i9 => bo_i (μ.bt i9))) := hm_5455.bt
      refine bo_if_eq (b := false) (tgt := 44) hx hb de_M_get_39 (by decide) (fun c_5471 => ?_) (fun c_5471 => ?_)
      · have hmo2 : md_ok ((μ.er' 0).er' 0) := ⟨ok1, ok2, ok3, ok4, ok5, ok6, ok7, ok8, ok9, ok10, show (0 : Nat) < 3 by decide⟩
        refine lv_aload_n hx hb de_M_get_44 rfl (lv_at hl 0 rfl) ?_
        refine lv_iload_n hx hb de_M_get_45 rfl (lv_at hl 2 rfl) ?_
        refine lv_aload_n hx hb de_M_get_46 rfl (lv_at hl 0 rfl) ?_
        refine lv_iload_n hx hb de_M_get_47 rfl (lv_at hl 1 rfl) ?_
        refine dk_calli (va_runV (As := [.int v]) (rest := [.int (nI k), .ref h]) ⟨hx, hb, hml, hown, hts⟩ (c_M_upTo l G w_5449 h D ((μ.er' 0).er' 0) hm_5455 v u hv) (cwV 1 hts (wd_gV (C := "RunKeeperModel") wi_880 wi_877 wi_879 (wd_p (q := (⟨"RunKeeperModel", "upTo", "(I)I"⟩, 22)) (by decide +kernel) (by decide +kernel)) wi_8) rfl rfl rfl (by decide +kernel) ⟨Nat.le_of_ble_eq_true rfl, Nat.le_of_ble_eq_true rfl⟩) (dk_preV (kn_M, kt_M, 22) hE hP hS hh_5456 rfl) rfl rfl hl.1 rfl (lv_room (Nat.le_of_ble_eq_true rfl)) de_M_get_48 ⟨(by first | exact Nat.le_of_ble_eq_true rfl | (simp only [Nat.zero_add]; omega) | omega), (by first | exact Nat.le_of_ble_eq_true rfl | (simp only [Nat.zero_add]; omega) | omega)⟩) hS (fun r_5497 w_5495 H locs hq_5496 hP hS => ?_)
        obtain ⟨hr_5498, he_5499⟩ := hq_5496
        subst hr_5498
        rw [he_5499] at hP
        refine dk_calli (va_runV (As := [.int (nI k), .int (nI u)]) (rest := []) ⟨hx, hb, hml, hown, hts⟩ (c_M_best l G w_5449 h D ((μ.er' 0).er' 0) hm_5455 hmo2 k u (by omega) hu0) (cwV 2 hts (wd_gV (C := "RunKeeperModel") wi_884 wi_881 wi_883 (wd_p (q := (⟨"RunKeeperModel", "best", "(II)I"⟩, 22)) (by decide +kernel) (by decide +kernel)) wi_8) rfl rfl rfl (by decide +kernel) ⟨Nat.le_of_ble_eq_true rfl, Nat.le_of_ble_eq_true rfl⟩) (dk_preV (kn_M, kt_M, 22) hE hP hS hh_5456 rfl) rfl rfl hl.1 rfl (lv_room (Nat.le_of_ble_eq_true rfl)) de_M_get_51 ⟨(by first | exact Nat.le_of_ble_eq_true rfl | (simp only [Nat.zero_add]; omega) | omega), (by first | exact Nat.le_of_ble_eq_true rfl | (simp only [Nat.zero_add]; omega) | omega)⟩) hS (fun r_5502 w_5500 H locs hq_5501 hP hS => ?_)
        rw [show be_f ((μ.er' 0).er' 0) k u ((μ.er' 0).er' 0).n = none from (be_e μ 0 0 k u).trans hb9] at hq_5501
        obtain ⟨hr_5503, he_5504⟩ := hq_5501
        subst hr_5503
        rw [he_5504] at hP
        refine lv_istore_n (lv' := [(3, .int (rI none)), (0, .ref h), (1, .int v), (2, .int (nI k))]) hx hb de_M_get_54 rfl hl (by decide) rfl (fun ls hl => ?_)
        refine lv_aload_n hx hb de_M_get_55 rfl (lv_at hl 1 rfl) ?_
        refine lv_iload_n hx hb de_M_get_56 rfl (lv_at hl 3 rfl) ?_
        refine lv_iload_n hx hb de_M_get_57 rfl (lv_at hl 0 rfl) ?_
        refine dk_callv (va_runV (As := [.int (nI k), .int (rI none)]) (rest := []) ⟨hx, hb, hml, hown, hts⟩ (c_M_probe l G w_5449 h D ((μ.er' 0).er' 0) hm_5455 hmo2 k hk0 (none) (fun q hq => by cases hq) hlive) (cwV 2 hts (wd_gV (C := "RunKeeperModel") wi_888 wi_885 wi_887 (wd_p (q := (⟨"RunKeeperModel", "probe", "(II)V"⟩, 22)) (by decide +kernel) (by decide +kernel)) wi_8) rfl rfl rfl (by decide +kernel) ⟨Nat.le_of_ble_eq_true rfl, Nat.le_of_ble_eq_true rfl⟩) (dk_preV (kn_M, kt_M, 22) hE hP hS hh_5456 rfl) rfl rfl hl.1 rfl (lv_room (Nat.le_of_ble_eq_true rfl)) de_M_get_58 ⟨(by first | exact Nat.le_of_ble_eq_true rfl | (simp only [Nat.zero_add]; omega) | omega), (by first | exact Nat.le_of_ble_eq_true rfl | (simp only [Nat.zero_add]; omega) | omega)⟩) hS (fun w_5505 H locs hq_5506 hP hS => ?_)
        obtain ⟨⟨B, hmB⟩, hfB⟩ := hq_5506
        have hm_5508 : md_at G w_5505 h D (((((μ.er' 0).er' 0).pr' (pm_K (μ.er' 0) k ((none : Option Nat).bind μ.rf) (none)).1).mi' (pm_K (μ.er' 0) k ((none : Option Nat).bind μ.rf) (none)).2).bt' B) := hmB
        have hh_5509 : w_5505 h = some (100, .inr (cx_M, [.int (nI 0), .int (nI μ.n), .int (nI μ.sq), .int (nI μ.sf), .int (nI μ.rs), .int (rI μ.ba), .int (nI ((pm_K (μ.er' 0) k ((none : Option Nat).bind μ.rf) (none)).1)), .int (nI ((pm_K (μ.er' 0) k ((none : Option Nat).bind μ.rf) (none)).2)), .ref D.kf, .ref D.nf, .ref D.rf, .ref D.lf, .ref D.sv, .ref D.bk, .ref D.od, .ref D.vf, .ref D.bv, .ref D.df, .ref D.ss, .ref D.bd, .ref D.ks, .ref D.bt])) := hm_5508.o
        have ha_5510 : w_5505 D.kf = some (101, dk_ci G 700 (fun i9 => nI (μ.kf i9))) := hm_5508.kf
        have ha_5511 : w_5505 D.nf = some (102, dk_ci G 700 (fun i9 => nI (μ.nf i9))) := hm_5508.nf
        have ha_5512 : w_5505 D.rf = some (103, dk_ci G 700 (fun i9 => rI (μ.rf i9))) := hm_5508.rf
        have ha_5513 : w_5505 D.lf = some (104, dk_ci G 5000 (fun i9 => rI (μ.lf i9))) := hm_5508.lf
        have ha_5514 : w_5505 D.sv = some (105, dk_ci G 6 (fun i9 => nI (μ.sv i9))) := hm_5508.sv
        have ha_5515 : w_5505 D.bk = some (106, dk_ci G 16 (fun i9 => nI (μ.bk i9))) := hm_5508.bk
        have ha_5516 : w_5505 D.od = some (107, dk_ci G 700 (fun i9 => nI (μ.od i9))) := hm_5508.od
        have ha_5517 : w_5505 D.vf = some (108, dk_cl G 700 (fun i9 => μ.vf i9)) := hm_5508.vf
        have ha_5518 : w_5505 D.bv = some (109, dk_cl G 16 (fun i9 => μ.bv i9)) := hm_5508.bv
        have ha_5519 : w_5505 D.df = some (110, dk_cz G 700 (fun i9 => bo_i (μ.df i9))) := hm_5508.df
        have ha_5520 : w_5505 D.ss = some (111, dk_cz G 6 (fun i9 => bo_i (μ.ss i9))) := hm_5508.ss
        have ha_5521 : w_5505 D.bd = some (112, dk_cz G 16 (fun i9 => bo_i (μ.bd i9))) := hm_5508.bd
        have ha_5522 : w_5505 D.ks = some (113, dk_cz G 700 (fun i9 => bo_i (μ.ks i9))) := hm_5508.ks
        have ha_5523 : w_5505 D.bt = some (114, dk_cz G 6000 (fun i9 => bo_i (B i9))) := hm_5508.bt
        refine lv_aload_n hx hb de_M_get_61 rfl (lv_at hl 1 rfl) ?_
        refine lv_iload_n hx hb de_M_get_62 rfl (lv_at hl 0 rfl) ?_
        refine lv_if_lt (tgt := 75) hx hb de_M_get_63 (by decide) (fun c_5524 => ?_) (fun c_5524 => ?_)
        · refine lv_iconst (v := nI 1) hx hb de_M_get_75 (by decide) ?_
          refine lv_goto (tgt := 80) hx hb de_M_get_76 (by decide) ?_
          refine lv_iconst (v := nI 2) hx hb de_M_get_80 (by decide) ?_
          rw [show (nI 1) = bo_i true from (by decide)]
          refine dk_calli (va_runV (As := [.int (bo_i true), .int (nI 2)]) (rest := []) ⟨hx, hb, hml, hown, hts⟩ (c_M_fails l G w_5505 h D (((((μ.er' 0).er' 0).pr' (pm_K (μ.er' 0) k ((none : Option Nat).bind μ.rf) (none)).1).mi' (pm_K (μ.er' 0) k ((none : Option Nat).bind μ.rf) (none)).2).bt' B) hm_5508 true 2 (by decide) (by decide) (show (0 : Nat) < 3 by decide)) (cwV 2 hts (wd_gV (C := "RunKeeperModel") wi_799 wi_796 wi_798 (wd_p (q := (⟨"RunKeeperModel", "fails", "(ZI)Z"⟩, 22)) (by decide +kernel) (by decide +kernel)) wi_8) rfl rfl rfl (by decide +kernel) ⟨Nat.le_of_ble_eq_true rfl, Nat.le_of_ble_eq_true rfl⟩) (dk_preV (kn_M, kt_M, 22) hE hP hS hh_5509 rfl) rfl rfl hl.1 rfl (lv_room (Nat.le_of_ble_eq_true rfl)) de_M_get_81 ⟨(by first | exact Nat.le_of_ble_eq_true rfl | (simp only [Nat.zero_add]; omega) | omega), (by first | exact Nat.le_of_ble_eq_true rfl | (simp only [Nat.zero_add]; omega) | omega)⟩) hS (fun r_5527 w_5525 H locs hq_5526 hP hS => ?_)
          obtain ⟨hr_5528, hq_5529, hf_5530⟩ := hq_5526
          subst hr_5528
          have hm_5531 : md_at G w_5525 h D ((((((μ.er' 0).er' 0).pr' (pm_K (μ.er' 0) k ((none : Option Nat).bind μ.rf) (none)).1).mi' (pm_K (μ.er' 0) k ((none : Option Nat).bind μ.rf) (none)).2).bt' B).er' 2) := hq_5529
          have hh_5532 : w_5525 h = some (100, .inr (cx_M, [.int (nI 2), .int (nI μ.n), .int (nI μ.sq), .int (nI μ.sf), .int (nI μ.rs), .int (rI μ.ba), .int (nI ((pm_K (μ.er' 0) k ((none : Option Nat).bind μ.rf) (none)).1)), .int (nI ((pm_K (μ.er' 0) k ((none : Option Nat).bind μ.rf) (none)).2)), .ref D.kf, .ref D.nf, .ref D.rf, .ref D.lf, .ref D.sv, .ref D.bk, .ref D.od, .ref D.vf, .ref D.bv, .ref D.df, .ref D.ss, .ref D.bd, .ref D.ks, .ref D.bt])) := hm_5531.o
          have ha_5533 : w_5525 D.kf = some (101, dk_ci G 700 (fun i9 => nI (μ.kf i9))) := hm_5531.kf
          have ha_5534 : w_5525 D.nf = some (102, dk_ci G 700 (fun i9 => nI (μ.nf i9))) := hm_5531.nf
          have ha_5535 : w_5525 D.rf = some (103, dk_ci G 700 (fun i9 => rI (μ.rf i9))) := hm_5531.rf
          have ha_5536 : w_5525 D.lf = some (104, dk_ci G 5000 (fun i9 => rI (μ.lf i9))) := hm_5531.lf
          have ha_5537 : w_5525 D.sv = some (105, dk_ci G 6 (fun i9 => nI (μ.sv i9))) := hm_5531.sv
          have ha_5538 : w_5525 D.bk = some (106, dk_ci G 16 (fun i9 => nI (μ.bk i9))) := hm_5531.bk
          have ha_5539 : w_5525 D.od = some (107, dk_ci G 700 (fun i9 => nI (μ.od i9))) := hm_5531.od
          have ha_5540 : w_5525 D.vf = some (108, dk_cl G 700 (fun i9 => μ.vf i9)) := hm_5531.vf
          have ha_5541 : w_5525 D.bv = some (109, dk_cl G 16 (fun i9 => μ.bv i9)) := hm_5531.bv
          have ha_5542 : w_5525 D.df = some (110, dk_cz G 700 (fun i9 => bo_i (μ.df i9))) := hm_5531.df
          have ha_5543 : w_5525 D.ss = some (111, dk_cz G 6 (fun i9 => bo_i (μ.ss i9))) := hm_5531.ss
          have ha_5544 : w_5525 D.bd = some (112, dk_cz G 16 (fun i9 => bo_i (μ.bd i9))) := hm_5531.bd
          have ha_5545 : w_5525 D.ks = some (113, dk_cz G 700 (fun i9 => bo_i (μ.ks i9))) := hm_5531.ks
          have ha_5546 : w_5525 D.bt = some (114, dk_cz G 6000 (fun i9 => bo_i (B i9))) := hm_5531.bt
          refine bo_if_eq (b := true) (tgt := 91) hx hb de_M_get_84 (by decide) (fun c_5547 => ?_) (fun c_5547 => ?_)
          · exact absurd c_5547 (by decide)
          · refine lv_lconst (v := 0) hx hb de_M_get_87 (by decide) ?_
            refine lv_goto (tgt := 97) hx hb de_M_get_88 (by decide) ?_
            exact dk_lret hQ hx hb hr hlocks hP hS (Nat.le_refl _) (Nat.le_refl _) (⟨rfl, ⟨B, hm_5531⟩, ((((dk_fr.rf).tr ((dk_fr.up (T := md_T) hh_5402 (by unfold md_T; omega)).eq hw_5404)).tr (hf_5454)).tr (hfB)).tr (hf_5530)⟩) de_M_get_97
        · exact absurd c_5524 (by decide)
      · exact absurd c_5471 (by decide)
    · refine lv_aload_n hx hb de_M_get_22 rfl (lv_at hl 0 rfl) ?_
      refine lv_iload_n hx hb de_M_get_23 rfl (lv_at hl 1 rfl) ?_
      refine dk_calli (va_runV (As := [.int v]) (rest := [.ref h]) ⟨hx, hb, hml, hown, hts⟩ (c_M_isNone l G w_5403 h D (μ.er' 0) hm_5420 v) (cwV 1 hts (wd_gV (C := "RunKeeperModel") wi_872 wi_869 wi_871 (wd_p (q := (⟨"RunKeeperModel", "isNone", "(I)Z"⟩, 22)) (by decide +kernel) (by decide +kernel)) wi_8) rfl rfl rfl (by decide +kernel) ⟨Nat.le_of_ble_eq_true rfl, Nat.le_of_ble_eq_true rfl⟩) (dk_preV (kn_M, kt_M, 22) hE hP hS hh_5421 rfl) rfl rfl hl.1 rfl (lv_room (Nat.le_of_ble_eq_true rfl)) de_M_get_24 ⟨(by first | exact Nat.le_of_ble_eq_true rfl | (simp only [Nat.zero_add]; omega) | omega), (by first | exact Nat.le_of_ble_eq_true rfl | (simp only [Nat.zero_add]; omega) | omega)⟩) hS (fun r_5445 w_5443 H locs hq_5444 hP hS => ?_)
      rw [show vs_g (μ.er' 0) v = some u from by rw [mu_u, if_neg c_5442] at hv; exact hv] at hq_5444
      obtain ⟨hr_5446, he_5447⟩ := hq_5444
      subst hr_5446
      rw [he_5447] at hP
      refine bo_if_eq (b := false) (tgt := 34) hx hb de_M_get_27 (by decide) (fun c_5448 => ?_) (fun c_5448 => ?_)
      · refine lv_iconst (v := nI 0) hx hb de_M_get_34 (by decide) ?_
        refine lv_iconst (v := nI 1) hx hb de_M_get_35 (by decide) ?_
        rw [show (nI 0) = bo_i false from (by decide)]
        refine dk_calli (va_runV (As := [.int (bo_i false), .int (nI 1)]) (rest := []) ⟨hx, hb, hml, hown, hts⟩ (c_M_fails l G w_5403 h D (μ.er' 0) hm_5420 false 1 (by decide) (by decide) (show (0 : Nat) < 3 by decide)) (cwV 2 hts (wd_gV (C := "RunKeeperModel") wi_799 wi_796 wi_798 (wd_p (q := (⟨"RunKeeperModel", "fails", "(ZI)Z"⟩, 22)) (by decide +kernel) (by decide +kernel)) wi_8) rfl rfl rfl (by decide +kernel) ⟨Nat.le_of_ble_eq_true rfl, Nat.le_of_ble_eq_true rfl⟩) (dk_preV (kn_M, kt_M, 22) hE hP hS hh_5421 rfl) rfl rfl hl.1 rfl (lv_room (Nat.le_of_ble_eq_true rfl)) de_M_get_36 ⟨(by first | exact Nat.le_of_ble_eq_true rfl | (simp only [Nat.zero_add]; omega) | omega), (by first | exact Nat.le_of_ble_eq_true rfl | (simp only [Nat.zero_add]; omega) | omega)⟩) hS (fun r_5474 w_5472 H locs hq_5473 hP hS => ?_)
        obtain ⟨hr_5475, hq_5476, hf_5477⟩ := hq_5473
        subst hr_5475
        have hm_5478 : md_at G w_5472 h D ((μ.er' 0).er' 0) := hq_5476
        have hh_5479 : w_5472 h = some (100, .inr (cx_M, [.int (nI 0), .int (nI μ.n), .int (nI μ.sq), .int (nI μ.sf), .int (nI μ.rs), .int (rI μ.ba), .int (nI μ.pr), .int (nI μ.mi), .ref D.kf, .ref D.nf, .ref D.rf, .ref D.lf, .ref D.sv, .ref D.bk, .ref D.od, .ref D.vf, .ref D.bv, .ref D.df, .ref D.ss, .ref D.bd, .ref D.ks, .ref D.bt])) := hm_5478.o
        have ha_5480 : w_5472 D.kf = some (101, dk_ci G 700 (fun i9 => nI (μ.kf i9))) := hm_5478.kf
        have ha_5481 : w_5472 D.nf = some (102, dk_ci G 700 (fun i9 => nI (μ.nf i9))) := hm_5478.nf
        have ha_5482 : w_5472 D.rf = some (103, dk_ci G 700 (fun i9 => rI (μ.rf i9))) := hm_5478.rf
        have ha_5483 : w_5472 D.lf = some (104, dk_ci G 5000 (fun i9 => rI (μ.lf i9))) := hm_5478.lf
        have ha_5484 : w_5472 D.sv = some (105, dk_ci G 6 (fun i9 => nI (μ.sv i9))) := hm_5478.sv
        have ha_5485 : w_5472 D.bk = some (106, dk_ci G 16 (fun i9 => nI (μ.bk i9))) := hm_5478.bk
        have ha_5486 : w_5472 D.od = some (107, dk_ci G 700 (fun i9 => nI (μ.od i9))) := hm_5478.od
        have ha_5487 : w_5472 D.vf = some (108, dk_cl G 700 (fun i9 => μ.vf i9)) := hm_5478.vf
        have ha_5488 : w_5472 D.bv = some (109, dk_cl G 16 (fun i9 => μ.bv i9)) := hm_5478.bv
        have ha_5489 : w_5472 D.df = some (110, dk_cz G 700 (fun i9 => bo_i (μ.df i9))) := hm_5478.df
        have ha_5490 : w_5472 D.ss = some (111, dk_cz G 6 (fun i9 => bo_i (μ.ss i9))) := hm_5478.ss
        have ha_5491 : w_5472 D.bd = some (112, dk_cz G 16 (fun i9 => bo_i (μ.bd i9))) := hm_5478.bd
        have ha_5492 : w_5472 D.ks = some (113, dk_cz G 700 (fun i9 => bo_i (μ.ks i9))) := hm_5478.ks
        have ha_5493 : w_5472 D.bt = some (114, dk_cz G 6000 (fun i9 => bo_i (μ.bt i9))) := hm_5478.bt
        refine bo_if_eq (b := false) (tgt := 44) hx hb de_M_get_39 (by decide) (fun c_5494 => ?_) (fun c_5494 => ?_)
        · have hmo2 : md_ok ((μ.er' 0).er' 0) := ⟨ok1, ok2, ok3, ok4, ok5, ok6, ok7, ok8, ok9, ok10, show (0 : Nat) < 3 by decide⟩
          refine lv_aload_n hx hb de_M_get_44 rfl (lv_at hl 0 rfl) ?_
          refine lv_iload_n hx hb de_M_get_45 rfl (lv_at hl 2 rfl) ?_
          refine lv_aload_n hx hb de_M_get_46 rfl (lv_at hl 0 rfl) ?_
          refine lv_iload_n hx hb de_M_get_47 rfl (lv_at hl 1 rfl) ?_
          refine dk_calli (va_runV (As := [.int v]) (rest := [.int (nI k), .ref h]) ⟨hx, hb, hml, hown, hts⟩ (c_M_upTo l G w_5472 h D ((μ.er' 0).er' 0) hm_5478 v u hv) (cwV 1 hts (wd_gV (C := "RunKeeperModel") wi_880 wi_877 wi_879 (wd_p (q := (⟨"RunKeeperModel", "upTo", "(I)I"⟩, 22)) (by decide +kernel) (by decide +kernel)) wi_8) rfl rfl rfl (by decide +kernel) ⟨Nat.le_of_ble_eq_true rfl, Nat.le_of_ble_eq_true rfl⟩) (dk_preV (kn_M, kt_M, 22) hE hP hS hh_5479 rfl) rfl rfl hl.1 rfl (lv_room (Nat.le_of_ble_eq_true rfl)) de_M_get_48 ⟨(by first | exact Nat.le_of_ble_eq_true rfl | (simp only [Nat.zero_add]; omega) | omega), (by first | exact Nat.le_of_ble_eq_true rfl | (simp only [Nat.zero_add]; omega) | omega)⟩) hS (fun r_5550 w_5548 H locs hq_5549 hP hS => ?_)
          obtain ⟨hr_5551, he_5552⟩ := hq_5549
          subst hr_5551
          rw [he_5552] at hP
          refine dk_calli (va_runV (As := [.int (nI k), .int (nI u)]) (rest := []) ⟨hx, hb, hml, hown, hts⟩ (c_M_best l G w_5472 h D ((μ.er' 0).er' 0) hm_5478 hmo2 k u (by omega) hu0) (cwV 2 hts (wd_gV (C := "RunKeeperModel") wi_884 wi_881 wi_883 (wd_p (q := (⟨"RunKeeperModel", "best", "(II)I"⟩, 22)) (by decide +kernel) (by decide +kernel)) wi_8) rfl rfl rfl (by decide +kernel) ⟨Nat.le_of_ble_eq_true rfl, Nat.le_of_ble_eq_true rfl⟩) (dk_preV (kn_M, kt_M, 22) hE hP hS hh_5479 rfl) rfl rfl hl.1 rfl (lv_room (Nat.le_of_ble_eq_true rfl)) de_M_get_51 ⟨(by first | exact Nat.le_of_ble_eq_true rfl | (simp only [Nat.zero_add]; omega) | omega), (by first | exact Nat.le_of_ble_eq_true rfl | (simp only [Nat.zero_add]; omega) | omega)⟩) hS (fun r_5555 w_5553 H locs hq_5554 hP hS => ?_)
          rw [show be_f ((μ.er' 0).er' 0) k u ((μ.er' 0).er' 0).n = none from (be_e μ 0 0 k u).trans hb9] at hq_5554
          obtain ⟨hr_5556, he_5557⟩ := hq_5554
          subst hr_5556
          rw [he_5557] at hP
          refine lv_istore_n (lv' := [(3, .int (rI none)), (0, .ref h), (1, .int v), (2, .int (nI k))]) hx hb de_M_get_54 rfl hl (by decide) rfl (fun ls hl => ?_)
          refine lv_aload_n hx hb de_M_get_55 rfl (lv_at hl 1 rfl) ?_
          refine lv_iload_n hx hb de_M_get_56 rfl (lv_at hl 3 rfl) ?_
          refine lv_iload_n hx hb de_M_get_57 rfl (lv_at hl 0 rfl) ?_
          refine dk_callv (va_runV (As := [.int (nI k), .int (rI none)]) (rest := []) ⟨hx, hb, hml, hown, hts⟩ (c_M_probe l G w_5472 h D ((μ.er' 0).er' 0) hm_5478 hmo2 k hk0 (none) (fun q hq => by cases hq) hlive) (cwV 2 hts (wd_gV (C := "RunKeeperModel") wi_888 wi_885 wi_887 (wd_p (q := (⟨"RunKeeperModel", "probe", "(II)V"⟩, 22)) (by decide +kernel) (by decide +kernel)) wi_8) rfl rfl rfl (by decide +kernel) ⟨Nat.le_of_ble_eq_true rfl, Nat.le_of_ble_eq_true rfl⟩) (dk_preV (kn_M, kt_M, 22) hE hP hS hh_5479 rfl) rfl rfl hl.1 rfl (lv_room (Nat.le_of_ble_eq_true rfl)) de_M_get_58 ⟨(by first | exact Nat.le_of_ble_eq_true rfl | (simp only [Nat.zero_add]; omega) | omega), (by first | exact Nat.le_of_ble_eq_true rfl | (simp only [Nat.zero_add]; omega) | omega)⟩) hS (fun w_5558 H locs hq_5559 hP hS => ?_)
          obtain ⟨⟨B, hmB⟩, hfB⟩ := hq_5559
          have hm_5561 : md_at G w_5558 h D (((((μ.er' 0).er' 0).pr' (pm_K (μ.er' 0) k ((none : Option Nat).bind μ.rf) (none)).1).mi' (pm_K (μ.er' 0) k ((none : Option Nat).bind μ.rf) (none)).2).bt' B) := hmB
          have hh_5562 : w_5558 h = some (100, .inr (cx_M, [.int (nI 0), .int (nI μ.n), .int (nI μ.sq), .int (nI μ.sf), .int (nI μ.rs), .int (rI μ.ba), .int (nI ((pm_K (μ.er' 0) k ((none : Option Nat).bind μ.rf) (none)).1)), .int (nI ((pm_K (μ.er' 0) k ((none : Option Nat).bind μ.rf) (none)).2)), .ref D.kf, .ref D.nf, .ref D.rf, .ref D.lf, .ref D.sv, .ref D.bk, .ref D.od, .ref D.vf, .ref D.bv, .ref D.df, .ref D.ss, .ref D.bd, .ref D.ks, .ref D.bt])) := hm_5561.o
          have ha_5563 : w_5558 D.kf = some (101, dk_ci G 700 (fun i9 => nI (μ.kf i9))) := hm_5561.kf
          have ha_5564 : w_5558 D.nf = some (102, dk_ci G 700 (fun i9 => nI (μ.nf i9))) := hm_5561.nf
          have ha_5565 : w_5558 D.rf = some (103, dk_ci G 700 (fun i9 => rI (μ.rf i9))) := hm_5561.rf
          have ha_5566 : w_5558 D.lf = some (104, dk_ci G 5000 (fun i9 => rI (μ.lf i9))) := hm_5561.lf
          have ha_5567 : w_5558 D.sv = some (105, dk_ci G 6 (fun i9 => nI (μ.sv i9))) := hm_5561.sv
          have ha_5568 : w_5558 D.bk = some (106, dk_ci G 16 (fun i9 => nI (μ.bk i9))) := hm_5561.bk
          have ha_5569 : w_5558 D.od = some (107, dk_ci G 700 (fun i9 => nI (μ.od i9))) := hm_5561.od
          have ha_5570 : w_5558 D.vf = some (108, dk_cl G 700 (fun i9 => μ.vf i9)) := hm_5561.vf
          have ha_5571 : w_5558 D.bv = some (109, dk_cl G 16 (fun i9 => μ.bv i9)) := hm_5561.bv
          have ha_5572 : w_5558 D.df = some (110, dk_cz G 700 (fun i9 => bo_i (μ.df i9))) := hm_5561.df
          have ha_5573 : w_5558 D.ss = some (111, dk_cz G 6 (fun i9 => bo_i (μ.ss i9))) := hm_5561.ss
          have ha_5574 : w_5558 D.bd = some (112, dk_cz G 16 (fun i9 => bo_i (μ.bd i9))) := hm_5561.bd
          have ha_5575 : w_5558 D.ks = some (113, dk_cz G 700 (fun i9 => bo_i (μ.ks i9))) := hm_5561.ks
          have ha_5576 : w_5558 D.bt = some (114, dk_cz G 6000 (fun i9 => bo_i (B i9))) := hm_5561.bt
          refine lv_aload_n hx hb de_M_get_61 rfl (lv_at hl 1 rfl) ?_
          refine lv_iload_n hx hb de_M_get_62 rfl (lv_at hl 0 rfl) ?_
          refine lv_if_lt (tgt := 75) hx hb de_M_get_63 (by decide) (fun c_5577 => ?_) (fun c_5577 => ?_)
          · refine lv_iconst (v := nI 1) hx hb de_M_get_75 (by decide) ?_
            refine lv_goto (tgt := 80) hx hb de_M_get_76 (by decide) ?_
            refine lv_iconst (v := nI 2) hx hb de_M_get_80 (by decide) ?_
            rw [show (nI 1) = bo_i true from (by decide)]
            refine dk_calli (va_runV (As := [.int (bo_i true), .int (nI 2)]) (rest := []) ⟨hx, hb, hml, hown, hts⟩ (c_M_fails l G w_5558 h D (((((μ.er' 0).er' 0).pr' (pm_K (μ.er' 0) k ((none : Option Nat).bind μ.rf) (none)).1).mi' (pm_K (μ.er' 0) k ((none : Option Nat).bind μ.rf) (none)).2).bt' B) hm_5561 true 2 (by decide) (by decide) (show (0 : Nat) < 3 by decide)) (cwV 2 hts (wd_gV (C := "RunKeeperModel") wi_799 wi_796 wi_798 (wd_p (q := (⟨"RunKeeperModel", "fails", "(ZI)Z"⟩, 22)) (by decide +kernel) (by decide +kernel)) wi_8) rfl rfl rfl (by decide +kernel) ⟨Nat.le_of_ble_eq_true rfl, Nat.le_of_ble_eq_true rfl⟩) (dk_preV (kn_M, kt_M, 22) hE hP hS hh_5562 rfl) rfl rfl hl.1 rfl (lv_room (Nat.le_of_ble_eq_true rfl)) de_M_get_81 ⟨(by first | exact Nat.le_of_ble_eq_true rfl | (simp only [Nat.zero_add]; omega) | omega), (by first | exact Nat.le_of_ble_eq_true rfl | (simp only [Nat.zero_add]; omega) | omega)⟩) hS (fun r_5580 w_5578 H locs hq_5579 hP hS => ?_)
            obtain ⟨hr_5581, hq_5582, hf_5583⟩ := hq_5579
            subst hr_5581
            have hm_5584 : md_at G w_5578 h D ((((((μ.er' 0).er' 0).pr' (pm_K (μ.er' 0) k ((none : Option Nat).bind μ.rf) (none)).1).mi' (pm_K (μ.er' 0) k ((none : Option Nat).bind μ.rf) (none)).2).bt' B).er' 2) := hq_5582
            have hh_5585 : w_5578 h = some (100, .inr (cx_M, [.int (nI 2), .int (nI μ.n), .int (nI μ.sq), .int (nI μ.sf), .int (nI μ.rs), .int (rI μ.ba), .int (nI ((pm_K (μ.er' 0) k ((none : Option Nat).bind μ.rf) (none)).1)), .int (nI ((pm_K (μ.er' 0) k ((none : Option Nat).bind μ.rf) (none)).2)), .ref D.kf, .ref D.nf, .ref D.rf, .ref D.lf, .ref D.sv, .ref D.bk, .ref D.od, .ref D.vf, .ref D.bv, .ref D.df, .ref D.ss, .ref D.bd, .ref D.ks, .ref D.bt])) := hm_5584.o
            have ha_5586 : w_5578 D.kf = some (101, dk_ci G 700 (fun i9 => nI (μ.kf i9))) := hm_5584.kf
            have ha_5587 : w_5578 D.nf = some (102, dk_ci G 700 (fun i9 => nI (μ.nf i9))) := hm_5584.nf
            have ha_5588 : w_5578 D.rf = some (103, dk_ci G 700 (fun i9 => rI (μ.rf i9))) := hm_5584.rf
            have ha_5589 : w_5578 D.lf = some (104, dk_ci G 5000 (fun i9 => rI (μ.lf i9))) := hm_5584.lf
            have ha_5590 : w_5578 D.sv = some (105, dk_ci G 6 (fun i9 => nI (μ.sv i9))) := hm_5584.sv
            have ha_5591 : w_5578 D.bk = some (106, dk_ci G 16 (fun i9 => nI (μ.bk i9))) := hm_5584.bk
            have ha_5592 : w_5578 D.od = some (107, dk_ci G 700 (fun i9 => nI (μ.od i9))) := hm_5584.od
            have ha_5593 : w_5578 D.vf = some (108, dk_cl G 700 (fun i9 => μ.vf i9)) := hm_5584.vf
            have ha_5594 : w_5578 D.bv = some (109, dk_cl G 16 (fun i9 => μ.bv i9)) := hm_5584.bv
            have ha_5595 : w_5578 D.df = some (110, dk_cz G 700 (fun i9 => bo_i (μ.df i9))) := hm_5584.df
            have ha_5596 : w_5578 D.ss = some (111, dk_cz G 6 (fun i9 => bo_i (μ.ss i9))) := hm_5584.ss
            have ha_5597 : w_5578 D.bd = some (112, dk_cz G 16 (fun i9 => bo_i (μ.bd i9))) := hm_5584.bd
            have ha_5598 : w_5578 D.ks = some (113, dk_cz G 700 (fun i9 => bo_i (μ.ks i9))) := hm_5584.ks
            have ha_5599 : w_5578 D.bt = some (114, dk_cz G 6000 (fun i9 => bo_i (B i9))) := hm_5584.bt
            refine bo_if_eq (b := true) (tgt := 91) hx hb de_M_get_84 (by decide) (fun c_5600 => ?_) (fun c_5600 => ?_)
            · exact absurd c_5600 (by decide)
            · refine lv_lconst (v := 0) hx hb de_M_get_87 (by decide) ?_
              refine lv_goto (tgt := 97) hx hb de_M_get_88 (by decide) ?_
              exact dk_lret hQ hx hb hr hlocks hP hS (Nat.le_refl _) (Nat.le_refl _) (⟨rfl, ⟨B, hm_5584⟩, ((((dk_fr.rf).tr ((dk_fr.up (T := md_T) hh_5402 (by unfold md_T; omega)).eq hw_5404)).tr (hf_5477)).tr (hfB)).tr (hf_5583)⟩) de_M_get_97
          · exact absurd c_5577 (by decide)
        · exact absurd c_5494 (by decide)
      · exact absurd c_5448 (by decide)
set_option maxHeartbeats 4000000 in
set_option maxRecDepth 100000 in
theorem c_M_getD (l : Launch) (G : dk_G) (w : dk_H) (h : Nat) (D : md_D) (μ : md_S) (hm : md_at G w h D μ) (hmo : md_ok μ) (v : Int32) (k : Nat) (hk0 : k < 1024) (u : Nat) (hu0 : u < 2 ^ 31) (hv : mu_u μ v = some u) (q9 : Nat) (hb9 : be_f μ k u μ.n = some q9) (hd : μ.df q9 = true) (hlive : ∀ r l, r < μ.rs → μ.lf r = some l → 0 < ct_f (fun k9 => decide (μ.rf k9 = some r)) μ.n) : dk_Ml l my_M_get (wd_c my_M_get mb_M_get 4 (some .long)) rm_M_get G w [.ref h, .int v, .int (nI k)] (fun r w1 => r = 0 ∧ (∃ B, md_at G w1 h D ((((μ.er' 2).pr' (pm_K (μ.er' 0) k ((some q9 : Option Nat).bind μ.rf) (some q9)).1).mi' (pm_K (μ.er' 0) k ((some q9 : Option Nat).bind μ.rf) (some q9)).2).bt' B)) ∧ dk_fr md_T w w1) 0 0 := by
  obtain ⟨ok1, ok2, ok3, ok4, ok5, ok6, ok7, ok8, ok9, ok10, ok11⟩ := id hmo
  have hq8 := be_lt hb9
  refine dk_enter (lv := [(0, .ref h), (1, .int v), (2, .int (nI k))]) (by decide) (Nat.le_of_ble_eq_true rfl) rfl (fun p e s m args below meth c ls Q hQ C hP hS hl => ?_)
  obtain ⟨hx, hb, hr, hml, hlocks, hown, hnm, hts, hE⟩ := C
  have hK := hE.1
  have hN := hE.2.1
  have hh_5601 : w h = some (100, .inr (cx_M, [.int (nI μ.er), .int (nI μ.n), .int (nI μ.sq), .int (nI μ.sf), .int (nI μ.rs), .int (rI μ.ba), .int (nI μ.pr), .int (nI μ.mi), .ref D.kf, .ref D.nf, .ref D.rf, .ref D.lf, .ref D.sv, .ref D.bk, .ref D.od, .ref D.vf, .ref D.bv, .ref D.df, .ref D.ss, .ref D.bd, .ref D.ks, .ref D.bt])) := hm.o
  refine lv_aload_n hx hb de_M_get_0 rfl (lv_at hl 0 rfl) ?_
  refine lv_iconst (v := nI 0) hx hb de_M_get_1 (by decide) ?_
  refine dk_put (a := h) (v := .int (nI 0)) (ty := .int) (C := kn_M) (T := kt_M) (N := 22) hx hb hts ki_M ky_M kk_M kd_M hown hK hP hS hh_5601 rfl 0 (by decide) (hts _ wi_714) (fun _ h9 => h9) rfl (by decide +kernel) rfl rfl (Nat.le_of_ble_eq_true rfl) de_M_get_2 (fun H locs w_5602 hw_5603 hP hS => ?_)
  have h_5604 : w_5602 h = some (100, .inr (cx_M, [.int (nI 0), .int (nI μ.n), .int (nI μ.sq), .int (nI μ.sf), .int (nI μ.rs), .int (rI μ.ba), .int (nI μ.pr), .int (nI μ.mi), .ref D.kf, .ref D.nf, .ref D.rf, .ref D.lf, .ref D.sv, .ref D.bk, .ref D.od, .ref D.vf, .ref D.bv, .ref D.df, .ref D.ss, .ref D.bd, .ref D.ks, .ref D.bt])) := dk_here hw_5603
  have h_5605 : w_5602 D.kf = some (101, dk_ci G 700 (fun i9 => nI (μ.kf i9))) := dk_keep hw_5603 hh_5601 hm.kf (by decide)
  have h_5606 : w_5602 D.nf = some (102, dk_ci G 700 (fun i9 => nI (μ.nf i9))) := dk_keep hw_5603 hh_5601 hm.nf (by decide)
  have h_5607 : w_5602 D.rf = some (103, dk_ci G 700 (fun i9 => rI (μ.rf i9))) := dk_keep hw_5603 hh_5601 hm.rf (by decide)
  have h_5608 : w_5602 D.lf = some (104, dk_ci G 5000 (fun i9 => rI (μ.lf i9))) := dk_keep hw_5603 hh_5601 hm.lf (by decide)
  have h_5609 : w_5602 D.sv = some (105, dk_ci G 6 (fun i9 => nI (μ.sv i9))) := dk_keep hw_5603 hh_5601 hm.sv (by decide)
  have h_5610 : w_5602 D.bk = some (106, dk_ci G 16 (fun i9 => nI (μ.bk i9))) := dk_keep hw_5603 hh_5601 hm.bk (by decide)
  have h_5611 : w_5602 D.od = some (107, dk_ci G 700 (fun i9 => nI (μ.od i9))) := dk_keep hw_5603 hh_5601 hm.od (by decide)
  have h_5612 : w_5602 D.vf = some (108, dk_cl G 700 (fun i9 => μ.vf i9)) := dk_keep hw_5603 hh_5601 hm.vf (by decide)
  have h_5613 : w_5602 D.bv = some (109, dk_cl G 16 (fun i9 => μ.bv i9)) := dk_keep hw_5603 hh_5601 hm.bv (by decide)
  have h_5614 : w_5602 D.df = some (110, dk_cz G 700 (fun i9 => bo_i (μ.df i9))) := dk_keep hw_5603 hh_5601 hm.df (by decide)
  have h_5615 : w_5602 D.ss = some (111, dk_cz G 6 (fun i9 => bo_i (μ.ss i9))) := dk_keep hw_5603 hh_5601 hm.ss (by decide)
  have h_5616 : w_5602 D.bd = some (112, dk_cz G 16 (fun i9 => bo_i (μ.bd i9))) := dk_keep hw_5603 hh_5601 hm.bd (by decide)
  have h_5617 : w_5602 D.ks = some (113, dk_cz G 700 (fun i9 => bo_i (μ.ks i9))) := dk_keep hw_5603 hh_5601 hm.ks (by decide)
  have h_5618 : w_5602 D.bt = some (114, dk_cz G 6000 (fun i9 => bo_i (μ.bt i9))) := dk_keep hw_5603 hh_5601 hm.bt (by decide)
  have hm_5619 : md_at G w_5602 h D (μ.er' 0) := ⟨h_5604, h_5605, h_5606, h_5607, h_5608, h_5609, h_5610, h_5611, h_5612, h_5613, h_5614, h_5615, h_5616, h_5617, h_5618⟩
  have hh_5620 : w_5602 h = some (100, .inr (cx_M, [.int (nI 0), .int (nI μ.n), .int (nI μ.sq), .int (nI μ.sf), .int (nI μ.rs), .int (rI μ.ba), .int (nI μ.pr), .int (nI μ.mi), .ref D.kf, .ref D.nf, .ref D.rf, .ref D.lf, .ref D.sv, .ref D.bk, .ref D.od, .ref D.vf, .ref D.bv, .ref D.df, .ref D.ss, .ref D.bd, .ref D.ks, .ref D.bt])) := hm_5619.o
  have ha_5621 : w_5602 D.kf = some (101, dk_ci G 700 (fun i9 => nI (μ.kf i9))) := hm_5619.kf
  have ha_5622 : w_5602 D.nf = some (102, dk_ci G 700 (fun i9 => nI (μ.nf i9))) := hm_5619.nf
  have ha_5623 : w_5602 D.rf = some (103, dk_ci G 700 (fun i9 => rI (μ.rf i9))) := hm_5619.rf
  have ha_5624 : w_5602 D.lf = some (104, dk_ci G 5000 (fun i9 => rI (μ.lf i9))) := hm_5619.lf
  have ha_5625 : w_5602 D.sv = some (105, dk_ci G 6 (fun i9 => nI (μ.sv i9))) := hm_5619.sv
  have ha_5626 : w_5602 D.bk = some (106, dk_ci G 16 (fun i9 => nI (μ.bk i9))) := hm_5619.bk
  have ha_5627 : w_5602 D.od = some (107, dk_ci G 700 (fun i9 => nI (μ.od i9))) := hm_5619.od
  have ha_5628 : w_5602 D.vf = some (108, dk_cl G 700 (fun i9 => μ.vf i9)) := hm_5619.vf
  have ha_5629 : w_5602 D.bv = some (109, dk_cl G 16 (fun i9 => μ.bv i9)) := hm_5619.bv
  have ha_5630 : w_5602 D.df = some (110, dk_cz G 700 (fun i9 => bo_i (μ.df i9))) := hm_5619.df
  have ha_5631 : w_5602 D.ss = some (111, dk_cz G 6 (fun i9 => bo_i (μ.ss i9))) := hm_5619.ss
  have ha_5632 : w_5602 D.bd = some (112, dk_cz G 16 (fun i9 => bo_i (μ.bd i9))) := hm_5619.bd
  have ha_5633 : w_5602 D.ks = some (113, dk_cz G 700 (fun i9 => bo_i (μ.ks i9))) := hm_5619.ks
  have ha_5634 : w_5602 D.bt = some (114, dk_cz G 6000 (fun i9 => bo_i (μ.bt i9))) := hm_5619.bt
  refine lv_aload_n hx hb de_M_get_5 rfl (lv_at hl 0 rfl) ?_
  refine lv_iload_n hx hb de_M_get_6 rfl (lv_at hl 2 rfl) ?_
  refine lv_iconst (v := nI 0) hx hb de_M_get_7 (by decide) ?_
  refine lv_sipush (v := nI 1023) hx hb de_M_get_8 (by decide) ?_
  refine dk_calli (va_runS (As := [.int (nI k), .int (nI 0), .int (nI 1023)]) (rest := [.ref h]) ⟨hx, hb, hml, hown, hts⟩ (c_M_in l G w_5602 (nI k) (nI 0) (nI 1023)) (va_cwS 3 hts (wd_gS wi_795 wi_793 wi_794 wi_8) rfl rfl rfl (by decide +kernel) ⟨Nat.le_of_ble_eq_true rfl, Nat.le_of_ble_eq_true rfl⟩) (dk_preS hE hP hS) rfl rfl hl.1 rfl (lv_room (Nat.le_of_ble_eq_true rfl)) de_M_get_11 ⟨(by first | exact Nat.le_of_ble_eq_true rfl | (simp only [Nat.zero_add]; omega) | omega), (by first | exact Nat.le_of_ble_eq_true rfl | (simp only [Nat.zero_add]; omega) | omega)⟩) hS (fun r_5637 w_5635 H locs hq_5636 hP hS => ?_)
  rw [im_y (by decide) (by omega)] at hq_5636
  obtain ⟨hr_5638, he_5639⟩ := hq_5636
  subst hr_5638
  rw [he_5639] at hP
  refine bo_if_eq (b := true) (tgt := 30) hx hb de_M_get_14 (by decide) (fun c_5640 => ?_) (fun c_5640 => ?_)
  · exact absurd c_5640 (by decide)
  · refine lv_iload_n hx hb de_M_get_17 rfl (lv_at hl 1 rfl) ?_
    refine lv_iconst (v := (-1)) hx hb de_M_get_18 (by decide) ?_
    refine lv_icmp_eq (tgt := 34) hx hb de_M_get_19 (by decide) (fun c_5641 => ?_) (fun c_5641 => ?_)
    · refine lv_iconst (v := nI 0) hx hb de_M_get_34 (by decide) ?_
      refine lv_iconst (v := nI 1) hx hb de_M_get_35 (by decide) ?_
      rw [show (nI 0) = bo_i false from (by decide)]
      refine dk_calli (va_runV (As := [.int (bo_i false), .int (nI 1)]) (rest := []) ⟨hx, hb, hml, hown, hts⟩ (c_M_fails l G w_5602 h D (μ.er' 0) hm_5619 false 1 (by decide) (by decide) (show (0 : Nat) < 3 by decide)) (cwV 2 hts (wd_gV (C := "RunKeeperModel") wi_799 wi_796 wi_798 (wd_p (q := (⟨"RunKeeperModel", "fails", "(ZI)Z"⟩, 22)) (by decide +kernel) (by decide +kernel)) wi_8) rfl rfl rfl (by decide +kernel) ⟨Nat.le_of_ble_eq_true rfl, Nat.le_of_ble_eq_true rfl⟩) (dk_preV (kn_M, kt_M, 22) hE hP hS hh_5620 rfl) rfl rfl hl.1 rfl (lv_room (Nat.le_of_ble_eq_true rfl)) de_M_get_36 ⟨(by first | exact Nat.le_of_ble_eq_true rfl | (simp only [Nat.zero_add]; omega) | omega), (by first | exact Nat.le_of_ble_eq_true rfl | (simp only [Nat.zero_add]; omega) | omega)⟩) hS (fun r_5650 w_5648 H locs hq_5649 hP hS => ?_)
      obtain ⟨hr_5651, hq_5652, hf_5653⟩ := hq_5649
      subst hr_5651
      have hm_5654 : md_at G w_5648 h D ((μ.er' 0).er' 0) := hq_5652
      have hh_5655 : w_5648 h = some (100, .inr (cx_M, [.int (nI 0), .int (nI μ.n), .int (nI μ.sq), .int (nI μ.sf), .int (nI μ.rs), .int (rI μ.ba), .int (nI μ.pr), .int (nI μ.mi), .ref D.kf, .ref D.nf, .ref D.rf, .ref D.lf, .ref D.sv, .ref D.bk, .ref D.od, .ref D.vf, .ref D.bv, .ref D.df, .ref D.ss, .ref D.bd, .ref D.ks, .ref D.bt])) := hm_5654.o
      have ha_5656 : w_5648 D.kf = some (101, dk_ci G 700 (fun i9 => nI (μ.kf i9))) := hm_5654.kf
      have ha_5657 : w_5648 D.nf = some (102, dk_ci G 700 (fun i9 => nI (μ.nf i9))) := hm_5654.nf
      have ha_5658 : w_5648 D.rf = some (103, dk_ci G 700 (fun i9 => rI (μ.rf i9))) := hm_5654.rf
      have ha_5659 : w_5648 D.lf = some (104, dk_ci G 5000 (fun i9 => rI (μ.lf i9))) := hm_5654.lf
      have ha_5660 : w_5648 D.sv = some (105, dk_ci G 6 (fun i9 => nI (μ.sv i9))) := hm_5654.sv
      have ha_5661 : w_5648 D.bk = some (106, dk_ci G 16 (fun i9 => nI (μ.bk i9))) := hm_5654.bk
      have ha_5662 : w_5648 D.od = some (107, dk_ci G 700 (fun i9 => nI (μ.od i9))) := hm_5654.od
      have ha_5663 : w_5648 D.vf = some (108, dk_cl G 700 (fun i9 => μ.vf i9)) := hm_5654.vf
      have ha_5664 : w_5648 D.bv = some (109, dk_cl G 16 (fun i9 => μ.bv i9)) := hm_5654.bv
      have ha_5665 : w_5648 D.df = some (110, dk_cz G 700 (fun i9 => bo_i (μ.df i9))) := hm_5654.df
      have ha_5666 : w_5648 D.ss = some (111, dk_cz G 6 (fun i9 => bo_i (μ.ss i9))) := hm_5654.ss
      have ha_5667 : w_5648 D.bd = some (112, dk_cz G 16 (fun i9 => bo_i (μ.bd i9))) := hm_5654.bd
      have ha_5668 : w_5648 D.ks = some (113, dk_cz G 700 (fun i9 => bo_i (μ.ks i9))) := hm_5654.ks
      have ha_5669 : w_5648 D.bt = some (114, dk_cz G 6000 (fun i9 => bo_i (μ.bt i9))) := hm_5654.bt
      refine bo_if_eq (b := false) (tgt := 44) hx hb de_M_get_39 (by decide) (fun c_5670 => ?_) (fun c_5670 => ?_)
      · have hmo2 : md_ok ((μ.er' 0).er' 0) := ⟨ok1, ok2, ok3, ok4, ok5, ok6, ok7, ok8, ok9, ok10, show (0 : Nat) < 3 by decide⟩
        refine lv_aload_n hx hb de_M_get_44 rfl (lv_at hl 0 rfl) ?_
        refine lv_iload_n hx hb de_M_get_45 rfl (lv_at hl 2 rfl) ?_
        refine lv_aload_n hx hb de_M_get_46 rfl (lv_at hl 0 rfl) ?_
        refine lv_iload_n hx hb de_M_get_47 rfl (lv_at hl 1 rfl) ?_
        refine dk_calli (va_runV (As := [.int v]) (rest := [.int (nI k), .ref h]) ⟨hx, hb, hml, hown, hts⟩ (c_M_upTo l G w_5648 h D ((μ.er' 0).er' 0) hm_5654 v u hv) (cwV 1 hts (wd_gV (C := "RunKeeperModel") wi_880 wi_877 wi_879 (wd_p (q := (⟨"RunKeeperModel", "upTo", "(I)I"⟩, 22)) (by decide +kernel) (by decide +kernel)) wi_8) rfl rfl rfl (by decide +kernel) ⟨Nat.le_of_ble_eq_true rfl, Nat.le_of_ble_eq_true rfl⟩) (dk_preV (kn_M, kt_M, 22) hE hP hS hh_5655 rfl) rfl rfl hl.1 rfl (lv_room (Nat.le_of_ble_eq_true rfl)) de_M_get_48 ⟨(by first | exact Nat.le_of_ble_eq_true rfl | (simp only [Nat.zero_add]; omega) | omega), (by first | exact Nat.le_of_ble_eq_true rfl | (simp only [Nat.zero_add]; omega) | omega)⟩) hS (fun r_5696 w_5694 H locs hq_5695 hP hS => ?_)
        obtain ⟨hr_5697, he_5698⟩ := hq_5695
        subst hr_5697
        rw [he_5698] at hP
        refine dk_calli (va_runV (As := [.int (nI k), .int (nI u)]) (rest := []) ⟨hx, hb, hml, hown, hts⟩ (c_M_best l G w_5648 h D ((μ.er' 0).er' 0) hm_5654 hmo2 k u (by omega) hu0) (cwV 2 hts (wd_gV (C := "RunKeeperModel") wi_884 wi_881 wi_883 (wd_p (q := (⟨"RunKeeperModel", "best", "(II)I"⟩, 22)) (by decide +kernel) (by decide +kernel)) wi_8) rfl rfl rfl (by decide +kernel) ⟨Nat.le_of_ble_eq_true rfl, Nat.le_of_ble_eq_true rfl⟩) (dk_preV (kn_M, kt_M, 22) hE hP hS hh_5655 rfl) rfl rfl hl.1 rfl (lv_room (Nat.le_of_ble_eq_true rfl)) de_M_get_51 ⟨(by first | exact Nat.le_of_ble_eq_true rfl | (simp only [Nat.zero_add]; omega) | omega), (by first | exact Nat.le_of_ble_eq_true rfl | (simp only [Nat.zero_add]; omega) | omega)⟩) hS (fun r_5701 w_5699 H locs hq_5700 hP hS => ?_)
        rw [show be_f ((μ.er' 0).er' 0) k u ((μ.er' 0).er' 0).n = some q9 from (be_e μ 0 0 k u).trans hb9] at hq_5700
        obtain ⟨hr_5702, he_5703⟩ := hq_5700
        subst hr_5702
        rw [he_5703] at hP
        rw [show rI (some q9) = nI q9 from rfl]
        refine lv_istore_n (lv' := [(3, .int (nI q9)), (0, .ref h), (1, .int v), (2, .int (nI k))]) hx hb de_M_get_54 rfl hl (by decide) rfl (fun ls hl => ?_)
        refine lv_aload_n hx hb de_M_get_55 rfl (lv_at hl 1 rfl) ?_
        refine lv_iload_n hx hb de_M_get_56 rfl (lv_at hl 3 rfl) ?_
        refine lv_iload_n hx hb de_M_get_57 rfl (lv_at hl 0 rfl) ?_
        refine dk_callv (va_runV (As := [.int (nI k), .int (nI q9)]) (rest := []) ⟨hx, hb, hml, hown, hts⟩ (c_M_probe l G w_5648 h D ((μ.er' 0).er' 0) hm_5654 hmo2 k hk0 (some q9) (fun q hq => by cases hq; exact hq8) hlive) (cwV 2 hts (wd_gV (C := "RunKeeperModel") wi_888 wi_885 wi_887 (wd_p (q := (⟨"RunKeeperModel", "probe", "(II)V"⟩, 22)) (by decide +kernel) (by decide +kernel)) wi_8) rfl rfl rfl (by decide +kernel) ⟨Nat.le_of_ble_eq_true rfl, Nat.le_of_ble_eq_true rfl⟩) (dk_preV (kn_M, kt_M, 22) hE hP hS hh_5655 rfl) rfl rfl hl.1 rfl (lv_room (Nat.le_of_ble_eq_true rfl)) de_M_get_58 ⟨(by first | exact Nat.le_of_ble_eq_true rfl | (simp only [Nat.zero_add]; omega) | omega), (by first | exact Nat.le_of_ble_eq_true rfl | (simp only [Nat.zero_add]; omega) | omega)⟩) hS (fun w_5704 H locs hq_5705 hP hS => ?_)
        obtain ⟨⟨B, hmB⟩, hfB⟩ := hq_5705
        have hm_5707 : md_at G w_5704 h D (((((μ.er' 0).er' 0).pr' (pm_K (μ.er' 0) k ((some q9 : Option Nat).bind μ.rf) (some q9)).1).mi' (pm_K (μ.er' 0) k ((some q9 : Option Nat).bind μ.rf) (some q9)).2).bt' B) := hmB
        have hh_5708 : w_5704 h = some (100, .inr (cx_M, [.int (nI 0), .int (nI μ.n), .int (nI μ.sq), .int (nI μ.sf), .int (nI μ.rs), .int (rI μ.ba), .int (nI ((pm_K (μ.er' 0) k ((some q9 : Option Nat).bind μ.rf) (some q9)).1)), .int (nI ((pm_K (μ.er' 0) k ((some q9 : Option Nat).bind μ.rf) (some q9)).2)), .ref D.kf, .ref D.nf, .ref D.rf, .ref D.lf, .ref D.sv, .ref D.bk, .ref D.od, .ref D.vf, .ref D.bv, .ref D.df, .ref D.ss, .ref D.bd, .ref D.ks, .ref D.bt])) := hm_5707.o
        have ha_5709 : w_5704 D.kf = some (101, dk_ci G 700 (fun i9 => nI (μ.kf i9))) := hm_5707.kf
        have ha_5710 : w_5704 D.nf = some (102, dk_ci G 700 (fun i9 => nI (μ.nf i9))) := hm_5707.nf
        have ha_5711 : w_5704 D.rf = some (103, dk_ci G 700 (fun i9 => rI (μ.rf i9))) := hm_5707.rf
        have ha_5712 : w_5704 D.lf = some (104, dk_ci G 5000 (fun i9 => rI (μ.lf i9))) := hm_5707.lf
        have ha_5713 : w_5704 D.sv = some (105, dk_ci G 6 (fun i9 => nI (μ.sv i9))) := hm_5707.sv
        have ha_5714 : w_5704 D.bk = some (106, dk_ci G 16 (fun i9 => nI (μ.bk i9))) := hm_5707.bk
        have ha_5715 : w_5704 D.od = some (107, dk_ci G 700 (fun i9 => nI (μ.od i9))) := hm_5707.od
        have ha_5716 : w_5704 D.vf = some (108, dk_cl G 700 (fun i9 => μ.vf i9)) := hm_5707.vf
        have ha_5717 : w_5704 D.bv = some (109, dk_cl G 16 (fun i9 => μ.bv i9)) := hm_5707.bv
        have ha_5718 : w_5704 D.df = some (110, dk_cz G 700 (fun i9 => bo_i (μ.df i9))) := hm_5707.df
        have ha_5719 : w_5704 D.ss = some (111, dk_cz G 6 (fun i9 => bo_i (μ.ss i9))) := hm_5707.ss
        have ha_5720 : w_5704 D.bd = some (112, dk_cz G 16 (fun i9 => bo_i (μ.bd i9))) := hm_5707.bd
        have ha_5721 : w_5704 D.ks = some (113, dk_cz G 700 (fun i9 => bo_i (μ.ks i9))) := hm_5707.ks
        have ha_5722 : w_5704 D.bt = some (114, dk_cz G 6000 (fun i9 => bo_i (B i9))) := hm_5707.bt
        refine lv_aload_n hx hb de_M_get_61 rfl (lv_at hl 1 rfl) ?_
        refine lv_iload_n hx hb de_M_get_62 rfl (lv_at hl 0 rfl) ?_
        refine nx_if_lt (a := q9) (tgt := 75) hx hb (by omega) de_M_get_63 (by decide) ?_
        refine lv_aload_n hx hb de_M_get_66 rfl (lv_at hl 1 rfl) ?_
        refine dk_get (a := h) (v := .ref D.df) (C := kn_M) (T := kt_M) (N := 22) hx hb hts ki_M hown hK hP hh_5708 rfl 17 (by decide) (hts _ wi_731) (fun _ h9 => h9) rfl de_M_get_67 ?_
        refine lv_iload_n hx hb de_M_get_70 rfl (lv_at hl 0 rfl) ?_
        refine dk_zald (a := D.df) hx hb hK hP ha_5718 q9 rfl (by omega) (by omega) de_M_get_71 ?_
        refine bo_if_eq (b := (μ.df q9)) (tgt := 79) hx hb de_M_get_72 (by decide) (fun c_5724 => ?_) (fun c_5724 => ?_)
        · exact absurd c_5724 (by rw [hd]; decide)
        · refine lv_iconst (v := nI 1) hx hb de_M_get_75 (by decide) ?_
          refine lv_goto (tgt := 80) hx hb de_M_get_76 (by decide) ?_
          refine lv_iconst (v := nI 2) hx hb de_M_get_80 (by decide) ?_
          rw [show (nI 1) = bo_i true from (by decide)]
          refine dk_calli (va_runV (As := [.int (bo_i true), .int (nI 2)]) (rest := []) ⟨hx, hb, hml, hown, hts⟩ (c_M_fails l G w_5704 h D (((((μ.er' 0).er' 0).pr' (pm_K (μ.er' 0) k ((some q9 : Option Nat).bind μ.rf) (some q9)).1).mi' (pm_K (μ.er' 0) k ((some q9 : Option Nat).bind μ.rf) (some q9)).2).bt' B) hm_5707 true 2 (by decide) (by decide) (show (0 : Nat) < 3 by decide)) (cwV 2 hts (wd_gV (C := "RunKeeperModel") wi_799 wi_796 wi_798 (wd_p (q := (⟨"RunKeeperModel", "fails", "(ZI)Z"⟩, 22)) (by decide +kernel) (by decide +kernel)) wi_8) rfl rfl rfl (by decide +kernel) ⟨Nat.le_of_ble_eq_true rfl, Nat.le_of_ble_eq_true rfl⟩) (dk_preV (kn_M, kt_M, 22) hE hP hS hh_5708 rfl) rfl rfl hl.1 rfl (lv_room (Nat.le_of_ble_eq_true rfl)) de_M_get_81 ⟨(by first | exact Nat.le_of_ble_eq_true rfl | (simp only [Nat.zero_add]; omega) | omega), (by first | exact Nat.le_of_ble_eq_true rfl | (simp only [Nat.zero_add]; omega) | omega)⟩) hS (fun r_5727 w_5725 H locs hq_5726 hP hS => ?_)
          obtain ⟨hr_5728, hq_5729, hf_5730⟩ := hq_5726
          subst hr_5728
          have hm_5731 : md_at G w_5725 h D ((((((μ.er' 0).er' 0).pr' (pm_K (μ.er' 0) k ((some q9 : Option Nat).bind μ.rf) (some q9)).1).mi' (pm_K (μ.er' 0) k ((some q9 : Option Nat).bind μ.rf) (some q9)).2).bt' B).er' 2) := hq_5729
          have hh_5732 : w_5725 h = some (100, .inr (cx_M, [.int (nI 2), .int (nI μ.n), .int (nI μ.sq), .int (nI μ.sf), .int (nI μ.rs), .int (rI μ.ba), .int (nI ((pm_K (μ.er' 0) k ((some q9 : Option Nat).bind μ.rf) (some q9)).1)), .int (nI ((pm_K (μ.er' 0) k ((some q9 : Option Nat).bind μ.rf) (some q9)).2)), .ref D.kf, .ref D.nf, .ref D.rf, .ref D.lf, .ref D.sv, .ref D.bk, .ref D.od, .ref D.vf, .ref D.bv, .ref D.df, .ref D.ss, .ref D.bd, .ref D.ks, .ref D.bt])) := hm_5731.o
          have ha_5733 : w_5725 D.kf = some (101, dk_ci G 700 (fun i9 => nI (μ.kf i9))) := hm_5731.kf
          have ha_5734 : w_5725 D.nf = some (102, dk_ci G 700 (fun i9 => nI (μ.nf i9))) := hm_5731.nf
          have ha_5735 : w_5725 D.rf = some (103, dk_ci G 700 (fun i9 => rI (μ.rf i9))) := hm_5731.rf
          have ha_5736 : w_5725 D.lf = some (104, dk_ci G 5000 (fun i9 => rI (μ.lf i9))) := hm_5731.lf
          have ha_5737 : w_5725 D.sv = some (105, dk_ci G 6 (fun i9 => nI (μ.sv i9))) := hm_5731.sv
          have ha_5738 : w_5725 D.bk = some (106, dk_ci G 16 (fun i9 => nI (μ.bk i9))) := hm_5731.bk
          have ha_5739 : w_5725 D.od = some (107, dk_ci G 700 (fun i9 => nI (μ.od i9))) := hm_5731.od
          have ha_5740 : w_5725 D.vf = some (108, dk_cl G 700 (fun i9 => μ.vf i9)) := hm_5731.vf
          have ha_5741 : w_5725 D.bv = some (109, dk_cl G 16 (fun i9 => μ.bv i9)) := hm_5731.bv
          have ha_5742 : w_5725 D.df = some (110, dk_cz G 700 (fun i9 => bo_i (μ.df i9))) := hm_5731.df
          have ha_5743 : w_5725 D.ss = some (111, dk_cz G 6 (fun i9 => bo_i (μ.ss i9))) := hm_5731.ss
          have ha_5744 : w_5725 D.bd = some (112, dk_cz G 16 (fun i9 => bo_i (μ.bd i9))) := hm_5731.bd
          have ha_5745 : w_5725 D.ks = some (113, dk_cz G 700 (fun i9 => bo_i (μ.ks i9))) := hm_5731.ks
          have ha_5746 : w_5725 D.bt = some (114, dk_cz G 6000 (fun i9 => bo_i (B i9))) := hm_5731.bt
          refine bo_if_eq (b := true) (tgt := 91) hx hb de_M_get_84 (by decide) (fun c_5747 => ?_) (fun c_5747 => ?_)
          · exact absurd c_5747 (by decide)
          · refine lv_lconst (v := 0) hx hb de_M_get_87 (by decide) ?_
            refine lv_goto (tgt := 97) hx hb de_M_get_88 (by decide) ?_
            exact dk_lret hQ hx hb hr hlocks hP hS (Nat.le_refl _) (Nat.le_refl _) (⟨rfl, ⟨B, hm_5731⟩, ((((dk_fr.rf).tr ((dk_fr.up (T := md_T) hh_5601 (by unfold md_T; omega)).eq hw_5603)).tr (hf_5653)).tr (hfB)).tr (hf_5730)⟩) de_M_get_97
      · exact absurd c_5670 (by decide)
    · refine lv_aload_n hx hb de_M_get_22 rfl (lv_at hl 0 rfl) ?_
      refine lv_iload_n hx hb de_M_get_23 rfl (lv_at hl 1 rfl) ?_
      refine dk_calli (va_runV (As := [.int v]) (rest := [.ref h]) ⟨hx, hb, hml, hown, hts⟩ (c_M_isNone l G w_5602 h D (μ.er' 0) hm_5619 v) (cwV 1 hts (wd_gV (C := "RunKeeperModel") wi_872 wi_869 wi_871 (wd_p (q := (⟨"RunKeeperModel", "isNone", "(I)Z"⟩, 22)) (by decide +kernel) (by decide +kernel)) wi_8) rfl rfl rfl (by decide +kernel) ⟨Nat.le_of_ble_eq_true rfl, Nat.le_of_ble_eq_true rfl⟩) (dk_preV (kn_M, kt_M, 22) hE hP hS hh_5620 rfl) rfl rfl hl.1 rfl (lv_room (Nat.le_of_ble_eq_true rfl)) de_M_get_24 ⟨(by first | exact Nat.le_of_ble_eq_true rfl | (simp only [Nat.zero_add]; omega) | omega), (by first | exact Nat.le_of_ble_eq_true rfl | (simp only [Nat.zero_add]; omega) | omega)⟩) hS (fun r_5644 w_5642 H locs hq_5643 hP hS => ?_)
      rw [show vs_g (μ.er' 0) v = some u from by rw [mu_u, if_neg c_5641] at hv; exact hv] at hq_5643
      obtain ⟨hr_5645, he_5646⟩ := hq_5643
      subst hr_5645
      rw [he_5646] at hP
      refine bo_if_eq (b := false) (tgt := 34) hx hb de_M_get_27 (by decide) (fun c_5647 => ?_) (fun c_5647 => ?_)
      · refine lv_iconst (v := nI 0) hx hb de_M_get_34 (by decide) ?_
        refine lv_iconst (v := nI 1) hx hb de_M_get_35 (by decide) ?_
        rw [show (nI 0) = bo_i false from (by decide)]
        refine dk_calli (va_runV (As := [.int (bo_i false), .int (nI 1)]) (rest := []) ⟨hx, hb, hml, hown, hts⟩ (c_M_fails l G w_5602 h D (μ.er' 0) hm_5619 false 1 (by decide) (by decide) (show (0 : Nat) < 3 by decide)) (cwV 2 hts (wd_gV (C := "RunKeeperModel") wi_799 wi_796 wi_798 (wd_p (q := (⟨"RunKeeperModel", "fails", "(ZI)Z"⟩, 22)) (by decide +kernel) (by decide +kernel)) wi_8) rfl rfl rfl (by decide +kernel) ⟨Nat.le_of_ble_eq_true rfl, Nat.le_of_ble_eq_true rfl⟩) (dk_preV (kn_M, kt_M, 22) hE hP hS hh_5620 rfl) rfl rfl hl.1 rfl (lv_room (Nat.le_of_ble_eq_true rfl)) de_M_get_36 ⟨(by first | exact Nat.le_of_ble_eq_true rfl | (simp only [Nat.zero_add]; omega) | omega), (by first | exact Nat.le_of_ble_eq_true rfl | (simp only [Nat.zero_add]; omega) | omega)⟩) hS (fun r_5673 w_5671 H locs hq_5672 hP hS => ?_)
        obtain ⟨hr_5674, hq_5675, hf_5676⟩ := hq_5672
        subst hr_5674
        have hm_5677 : md_at G w_5671 h D ((μ.er' 0).er' 0) := hq_5675
        have hh_5678 : w_5671 h = some (100, .inr (cx_M, [.int (nI 0), .int (nI μ.n), .int (nI μ.sq), .int (nI μ.sf), .int (nI μ.rs), .int (rI μ.ba), .int (nI μ.pr), .int (nI μ.mi), .ref D.kf, .ref D.nf, .ref D.rf, .ref D.lf, .ref D.sv, .ref D.bk, .ref D.od, .ref D.vf, .ref D.bv, .ref D.df, .ref D.ss, .ref D.bd, .ref D.ks, .ref D.bt])) := hm_5677.o
        have ha_5679 : w_5671 D.kf = some (101, dk_ci G 700 (fun i9 => nI (μ.kf i9))) := hm_5677.kf
        have ha_5680 : w_5671 D.nf = some (102, dk_ci G 700 (fun i9 => nI (μ.nf i9))) := hm_5677.nf
        have ha_5681 : w_5671 D.rf = some (103, dk_ci G 700 (fun i9 => rI (μ.rf i9))) := hm_5677.rf
        have ha_5682 : w_5671 D.lf = some (104, dk_ci G 5000 (fun i9 => rI (μ.lf i9))) := hm_5677.lf
        have ha_5683 : w_5671 D.sv = some (105, dk_ci G 6 (fun i9 => nI (μ.sv i9))) := hm_5677.sv
        have ha_5684 : w_5671 D.bk = some (106, dk_ci G 16 (fun i9 => nI (μ.bk i9))) := hm_5677.bk
        have ha_5685 : w_5671 D.od = some (107, dk_ci G 700 (fun i9 => nI (μ.od i9))) := hm_5677.od
        have ha_5686 : w_5671 D.vf = some (108, dk_cl G 700 (fun i9 => μ.vf i9)) := hm_5677.vf
        have ha_5687 : w_5671 D.bv = some (109, dk_cl G 16 (fun i9 => μ.bv i9)) := hm_5677.bv
        have ha_5688 : w_5671 D.df = some (110, dk_cz G 700 (fun i9 => bo_i (μ.df i9))) := hm_5677.df
        have ha_5689 : w_5671 D.ss = some (111, dk_cz G 6 (fun i9 => bo_i (μ.ss i9))) := hm_5677.ss
        have ha_5690 : w_5671 D.bd = some (112, dk_cz G 16 (fun i9 => bo_i (μ.bd i9))) := hm_5677.bd
        have ha_5691 : w_5671 D.ks = some (113, dk_cz G 700 (fun i9 => bo_i (μ.ks i9))) := hm_5677.ks
        have ha_5692 : w_5671 D.bt = some (114, dk_cz G 6000 (fun i9 => bo_i (μ.bt i9))) := hm_5677.bt
        refine bo_if_eq (b := false) (tgt := 44) hx hb de_M_get_39 (by decide) (fun c_5693 => ?_) (fun c_5693 => ?_)
        · have hmo2 : md_ok ((μ.er' 0).er' 0) := ⟨ok1, ok2, ok3, ok4, ok5, ok6, ok7, ok8, ok9, ok10, show (0 : Nat) < 3 by decide⟩
          refine lv_aload_n hx hb de_M_get_44 rfl (lv_at hl 0 rfl) ?_
          refine lv_iload_n hx hb de_M_get_45 rfl (lv_at hl 2 rfl) ?_
          refine lv_aload_n hx hb de_M_get_46 rfl (lv_at hl 0 rfl) ?_
          refine lv_iload_n hx hb de_M_get_47 rfl (lv_at hl 1 rfl) ?_
          refine dk_calli (va_runV (As := [.int v]) (rest := [.int (nI k), .ref h]) ⟨hx, hb, hml, hown, hts⟩ (c_M_upTo l G w_5671 h D ((μ.er' 0).er' 0) hm_5677 v u hv) (cwV 1 hts (wd_gV (C := "RunKeeperModel") wi_880 wi_877 wi_879 (wd_p (q := (⟨"RunKeeperModel", "upTo", "(I)I"⟩, 22)) (by decide +kernel) (by decide +kernel)) wi_8) rfl rfl rfl (by decide +kernel) ⟨Nat.le_of_ble_eq_true rfl, Nat.le_of_ble_eq_true rfl⟩) (dk_preV (kn_M, kt_M, 22) hE hP hS hh_5678 rfl) rfl rfl hl.1 rfl (lv_room (Nat.le_of_ble_eq_true rfl)) de_M_get_48 ⟨(by first | exact Nat.le_of_ble_eq_true rfl | (simp only [Nat.zero_add]; omega) | omega), (by first | exact Nat.le_of_ble_eq_true rfl | (simp only [Nat.zero_add]; omega) | omega)⟩) hS (fun r_5750 w_5748 H locs hq_5749 hP hS => ?_)
          obtain ⟨hr_5751, he_5752⟩ := hq_5749
          subst hr_5751
          rw [he_5752] at hP
          refine dk_calli (va_runV (As := [.int (nI k), .int (nI u)]) (rest := []) ⟨hx, hb, hml, hown, hts⟩ (c_M_best l G w_5671 h D ((μ.er' 0).er' 0) hm_5677 hmo2 k u (by omega) hu0) (cwV 2 hts (wd_gV (C := "RunKeeperModel") wi_884 wi_881 wi_883 (wd_p (q := (⟨"RunKeeperModel", "best", "(II)I"⟩, 22)) (by decide +kernel) (by decide +kernel)) wi_8) rfl rfl rfl (by decide +kernel) ⟨Nat.le_of_ble_eq_true rfl, Nat.le_of_ble_eq_true rfl⟩) (dk_preV (kn_M, kt_M, 22) hE hP hS hh_5678 rfl) rfl rfl hl.1 rfl (lv_room (Nat.le_of_ble_eq_true rfl)) de_M_get_51 ⟨(by first | exact Nat.le_of_ble_eq_true rfl | (simp only [Nat.zero_add]; omega) | omega), (by first | exact Nat.le_of_ble_eq_true rfl | (simp only [Nat.zero_add]; omega) | omega)⟩) hS (fun r_5755 w_5753 H locs hq_5754 hP hS => ?_)
          rw [show be_f ((μ.er' 0).er' 0) k u ((μ.er' 0).er' 0).n = some q9 from (be_e μ 0 0 k u).trans hb9] at hq_5754
          obtain ⟨hr_5756, he_5757⟩ := hq_5754
          subst hr_5756
          rw [he_5757] at hP
          rw [show rI (some q9) = nI q9 from rfl]
          refine lv_istore_n (lv' := [(3, .int (nI q9)), (0, .ref h), (1, .int v), (2, .int (nI k))]) hx hb de_M_get_54 rfl hl (by decide) rfl (fun ls hl => ?_)
          refine lv_aload_n hx hb de_M_get_55 rfl (lv_at hl 1 rfl) ?_
          refine lv_iload_n hx hb de_M_get_56 rfl (lv_at hl 3 rfl) ?_
          refine lv_iload_n hx hb de_M_get_57 rfl (lv_at hl 0 rfl) ?_
          refine dk_callv (va_runV (As := [.int (nI k), .int (nI q9)]) (rest := []) ⟨hx, hb, hml, hown, hts⟩ (c_M_probe l G w_5671 h D ((μ.er' 0).er' 0) hm_5677 hmo2 k hk0 (some q9) (fun q hq => by cases hq; exact hq8) hlive) (cwV 2 hts (wd_gV (C := "RunKeeperModel") wi_888 wi_885 wi_887 (wd_p (q := (⟨"RunKeeperModel", "probe", "(II)V"⟩, 22)) (by decide +kernel) (by decide +kernel)) wi_8) rfl rfl rfl (by decide +kernel) ⟨Nat.le_of_ble_eq_true rfl, Nat.le_of_ble_eq_true rfl⟩) (dk_preV (kn_M, kt_M, 22) hE hP hS hh_5678 rfl) rfl rfl hl.1 rfl (lv_room (Nat.le_of_ble_eq_true rfl)) de_M_get_58 ⟨(by first | exact Nat.le_of_ble_eq_true rfl | (simp only [Nat.zero_add]; omega) | omega), (by first | exact Nat.le_of_ble_eq_true rfl | (simp only [Nat.zero_add]; omega) | omega)⟩) hS (fun w_5758 H locs hq_5759 hP hS => ?_)
          obtain ⟨⟨B, hmB⟩, hfB⟩ := hq_5759
          have hm_5761 : md_at G w_5758 h D (((((μ.er' 0).er' 0).pr' (pm_K (μ.er' 0) k ((some q9 : Option Nat).bind μ.rf) (some q9)).1).mi' (pm_K (μ.er' 0) k ((some q9 : Option Nat).bind μ.rf) (some q9)).2).bt' B) := hmB
          have hh_5762 : w_5758 h = some (100, .inr (cx_M, [.int (nI 0), .int (nI μ.n), .int (nI μ.sq), .int (nI μ.sf), .int (nI μ.rs), .int (rI μ.ba), .int (nI ((pm_K (μ.er' 0) k ((some q9 : Option Nat).bind μ.rf) (some q9)).1)), .int (nI ((pm_K (μ.er' 0) k ((some q9 : Option Nat).bind μ.rf) (some q9)).2)), .ref D.kf, .ref D.nf, .ref D.rf, .ref D.lf, .ref D.sv, .ref D.bk, .ref D.od, .ref D.vf, .ref D.bv, .ref D.df, .ref D.ss, .ref D.bd, .ref D.ks, .ref D.bt])) := hm_5761.o
          have ha_5763 : w_5758 D.kf = some (101, dk_ci G 700 (fun i9 => nI (μ.kf i9))) := hm_5761.kf
          have ha_5764 : w_5758 D.nf = some (102, dk_ci G 700 (fun i9 => nI (μ.nf i9))) := hm_5761.nf
          have ha_5765 : w_5758 D.rf = some (103, dk_ci G 700 (fun i9 => rI (μ.rf i9))) := hm_5761.rf
          have ha_5766 : w_5758 D.lf = some (104, dk_ci G 5000 (fun i9 => rI (μ.lf i9))) := hm_5761.lf
          have ha_5767 : w_5758 D.sv = some (105, dk_ci G 6 (fun i9 => nI (μ.sv i9))) := hm_5761.sv
          have ha_5768 : w_5758 D.bk = some (106, dk_ci G 16 (fun i9 => nI (μ.bk i9))) := hm_5761.bk
          have ha_5769 : w_5758 D.od = some (107, dk_ci G 700 (fun i9 => nI (μ.od i9))) := hm_5761.od
          have ha_5770 : w_5758 D.vf = some (108, dk_cl G 700 (fun i9 => μ.vf i9)) := hm_5761.vf
          have ha_5771 : w_5758 D.bv = some (109, dk_cl G 16 (fun i9 => μ.bv i9)) := hm_5761.bv
          have ha_5772 : w_5758 D.df = some (110, dk_cz G 700 (fun i9 => bo_i (μ.df i9))) := hm_5761.df
          have ha_5773 : w_5758 D.ss = some (111, dk_cz G 6 (fun i9 => bo_i (μ.ss i9))) := hm_5761.ss
          have ha_5774 : w_5758 D.bd = some (112, dk_cz G 16 (fun i9 => bo_i (μ.bd i9))) := hm_5761.bd
          have ha_5775 : w_5758 D.ks = some (113, dk_cz G 700 (fun i9 => bo_i (μ.ks i9))) := hm_5761.ks
          have ha_5776 : w_5758 D.bt = some (114, dk_cz G 6000 (fun i9 => bo_i (B i9))) := hm_5761.bt
          refine lv_aload_n hx hb de_M_get_61 rfl (lv_at hl 1 rfl) ?_
          refine lv_iload_n hx hb de_M_get_62 rfl (lv_at hl 0 rfl) ?_
          refine nx_if_lt (a := q9) (tgt := 75) hx hb (by omega) de_M_get_63 (by decide) ?_
          refine lv_aload_n hx hb de_M_get_66 rfl (lv_at hl 1 rfl) ?_
          refine dk_get (a := h) (v := .ref D.df) (C := kn_M) (T := kt_M) (N := 22) hx hb hts ki_M hown hK hP hh_5762 rfl 17 (by decide) (hts _ wi_731) (fun _ h9 => h9) rfl de_M_get_67 ?_
          refine lv_iload_n hx hb de_M_get_70 rfl (lv_at hl 0 rfl) ?_
          refine dk_zald (a := D.df) hx hb hK hP ha_5772 q9 rfl (by omega) (by omega) de_M_get_71 ?_
          refine bo_if_eq (b := (μ.df q9)) (tgt := 79) hx hb de_M_get_72 (by decide) (fun c_5778 => ?_) (fun c_5778 => ?_)
          · exact absurd c_5778 (by rw [hd]; decide)
          · refine lv_iconst (v := nI 1) hx hb de_M_get_75 (by decide) ?_
            refine lv_goto (tgt := 80) hx hb de_M_get_76 (by decide) ?_
            refine lv_iconst (v := nI 2) hx hb de_M_get_80 (by decide) ?_
            rw [show (nI 1) = bo_i true from (by decide)]
            refine dk_calli (va_runV (As := [.int (bo_i true), .int (nI 2)]) (rest := []) ⟨hx, hb, hml, hown, hts⟩ (c_M_fails l G w_5758 h D (((((μ.er' 0).er' 0).pr' (pm_K (μ.er' 0) k ((some q9 : Option Nat).bind μ.rf) (some q9)).1).mi' (pm_K (μ.er' 0) k ((some q9 : Option Nat).bind μ.rf) (some q9)).2).bt' B) hm_5761 true 2 (by decide) (by decide) (show (0 : Nat) < 3 by decide)) (cwV 2 hts (wd_gV (C := "RunKeeperModel") wi_799 wi_796 wi_798 (wd_p (q := (⟨"RunKeeperModel", "fails", "(ZI)Z"⟩, 22)) (by decide +kernel) (by decide +kernel)) wi_8) rfl rfl rfl (by decide +kernel) ⟨Nat.le_of_ble_eq_true rfl, Nat.le_of_ble_eq_true rfl⟩) (dk_preV (kn_M, kt_M, 22) hE hP hS hh_5762 rfl) rfl rfl hl.1 rfl (lv_room (Nat.le_of_ble_eq_true rfl)) de_M_get_81 ⟨(by first | exact Nat.le_of_ble_eq_true rfl | (simp only [Nat.zero_add]; omega) | omega), (by first | exact Nat.le_of_ble_eq_true rfl | (simp only [Nat.zero_add]; omega) | omega)⟩) hS (fun r_5781 w_5779 H locs hq_5780 hP hS => ?_)
            obtain ⟨hr_5782, hq_5783, hf_5784⟩ := hq_5780
            subst hr_5782
            have hm_5785 : md_at G w_5779 h D ((((((μ.er' 0).er' 0).pr' (pm_K (μ.er' 0) k ((some q9 : Option Nat).bind μ.rf) (some q9)).1).mi' (pm_K (μ.er' 0) k ((some q9 : Option Nat).bind μ.rf) (some q9)).2).bt' B).er' 2) := hq_5783
            have hh_5786 : w_5779 h = some (100, .inr (cx_M, [.int (nI 2), .int (nI μ.n), .int (nI μ.sq), .int (nI μ.sf), .int (nI μ.rs), .int (rI μ.ba), .int (nI ((pm_K (μ.er' 0) k ((some q9 : Option Nat).bind μ.rf) (some q9)).1)), .int (nI ((pm_K (μ.er' 0) k ((some q9 : Option Nat).bind μ.rf) (some q9)).2)), .ref D.kf, .ref D.nf, .ref D.rf, .ref D.lf, .ref D.sv, .ref D.bk, .ref D.od, .ref D.vf, .ref D.bv, .ref D.df, .ref D.ss, .ref D.bd, .ref D.ks, .ref D.bt])) := hm_5785.o
            have ha_5787 : w_5779 D.kf = some (101, dk_ci G 700 (fun i9 => nI (μ.kf i9))) := hm_5785.kf
            have ha_5788 : w_5779 D.nf = some (102, dk_ci G 700 (fun i9 => nI (μ.nf i9))) := hm_5785.nf
            have ha_5789 : w_5779 D.rf = some (103, dk_ci G 700 (fun i9 => rI (μ.rf i9))) := hm_5785.rf
            have ha_5790 : w_5779 D.lf = some (104, dk_ci G 5000 (fun i9 => rI (μ.lf i9))) := hm_5785.lf
            have ha_5791 : w_5779 D.sv = some (105, dk_ci G 6 (fun i9 => nI (μ.sv i9))) := hm_5785.sv
            have ha_5792 : w_5779 D.bk = some (106, dk_ci G 16 (fun i9 => nI (μ.bk i9))) := hm_5785.bk
            have ha_5793 : w_5779 D.od = some (107, dk_ci G 700 (fun i9 => nI (μ.od i9))) := hm_5785.od
            have ha_5794 : w_5779 D.vf = some (108, dk_cl G 700 (fun i9 => μ.vf i9)) := hm_5785.vf
            have ha_5795 : w_5779 D.bv = some (109, dk_cl G 16 (fun i9 => μ.bv i9)) := hm_5785.bv
            have ha_5796 : w_5779 D.df = some (110, dk_cz G 700 (fun i9 => bo_i (μ.df i9))) := hm_5785.df
            have ha_5797 : w_5779 D.ss = some (111, dk_cz G 6 (fun i9 => bo_i (μ.ss i9))) := hm_5785.ss
            have ha_5798 : w_5779 D.bd = some (112, dk_cz G 16 (fun i9 => bo_i (μ.bd i9))) := hm_5785.bd
            have ha_5799 : w_5779 D.ks = some (113, dk_cz G 700 (fun i9 => bo_i (μ.ks i9))) := hm_5785.ks
            have ha_5800 : w_5779 D.bt = some (114, dk_cz G 6000 (fun i9 => bo_i (B i9))) := hm_5785.bt
            refine bo_if_eq (b := true) (tgt := 91) hx hb de_M_get_84 (by decide) (fun c_5801 => ?_) (fun c_5801 => ?_)
            · exact absurd c_5801 (by decide)
            · refine lv_lconst (v := 0) hx hb de_M_get_87 (by decide) ?_
              refine lv_goto (tgt := 97) hx hb de_M_get_88 (by decide) ?_
              exact dk_lret hQ hx hb hr hlocks hP hS (Nat.le_refl _) (Nat.le_refl _) (⟨rfl, ⟨B, hm_5785⟩, ((((dk_fr.rf).tr ((dk_fr.up (T := md_T) hh_5601 (by unfold md_T; omega)).eq hw_5603)).tr (hf_5676)).tr (hfB)).tr (hf_5784)⟩) de_M_get_97
        · exact absurd c_5693 (by decide)
      · exact absurd c_5647 (by decide)
set_option maxHeartbeats 4000000 in
set_option maxRecDepth 100000 in
theorem c_M_getY (l : Launch) (G : dk_G) (w : dk_H) (h : Nat) (D : md_D) (μ : md_S) (hm : md_at G w h D μ) (hmo : md_ok μ) (v : Int32) (k : Nat) (hk0 : k < 1024) (u : Nat) (hu0 : u < 2 ^ 31) (hv : mu_u μ v = some u) (q9 : Nat) (hb9 : be_f μ k u μ.n = some q9) (hd : μ.df q9 = false) (hlive : ∀ r l, r < μ.rs → μ.lf r = some l → 0 < ct_f (fun k9 => decide (μ.rf k9 = some r)) μ.n) : dk_Ml l my_M_get (wd_c my_M_get mb_M_get 4 (some .long)) rm_M_get G w [.ref h, .int v, .int (nI k)] (fun r w1 => r = μ.vf q9 ∧ (∃ B, md_at G w1 h D ((((μ.er' 0).pr' (pm_K (μ.er' 0) k ((some q9 : Option Nat).bind μ.rf) (some q9)).1).mi' (pm_K (μ.er' 0) k ((some q9 : Option Nat).bind μ.rf) (some q9)).2).bt' B)) ∧ dk_fr md_T w w1) 0 0 := by
  obtain ⟨ok1, ok2, ok3, ok4, ok5, ok6, ok7, ok8, ok9, ok10, ok11⟩ := id hmo
  have hq8 := be_lt hb9
  refine dk_enter (lv := [(0, .ref h), (1, .int v), (2, .int (nI k))]) (by decide) (Nat.le_of_ble_eq_true rfl) rfl (fun p e s m args below meth c ls Q hQ C hP hS hl => ?_)
  obtain ⟨hx, hb, hr, hml, hlocks, hown, hnm, hts, hE⟩ := C
  have hK := hE.1
  have hN := hE.2.1
  have hh_5802 : w h = some (100, .inr (cx_M, [.int (nI μ.er), .int (nI μ.n), .int (nI μ.sq), .int (nI μ.sf), .int (nI μ.rs), .int (rI μ.ba), .int (nI μ.pr), .int (nI μ.mi), .ref D.kf, .ref D.nf, .ref D.rf, .ref D.lf, .ref D.sv, .ref D.bk, .ref D.od, .ref D.vf, .ref D.bv, .ref D.df, .ref D.ss, .ref D.bd, .ref D.ks, .ref D.bt])) := hm.o
  refine lv_aload_n hx hb de_M_get_0 rfl (lv_at hl 0 rfl) ?_
  refine lv_iconst (v := nI 0) hx hb de_M_get_1 (by decide) ?_
  refine dk_put (a := h) (v := .int (nI 0)) (ty := .int) (C := kn_M) (T := kt_M) (N := 22) hx hb hts ki_M ky_M kk_M kd_M hown hK hP hS hh_5802 rfl 0 (by decide) (hts _ wi_714) (fun _ h9 => h9) rfl (by decide +kernel) rfl rfl (Nat.le_of_ble_eq_true rfl) de_M_get_2 (fun H locs w_5803 hw_5804 hP hS => ?_)
  have h_5805 : w_5803 h = some (100, .inr (cx_M, [.int (nI 0), .int (nI μ.n), .int (nI μ.sq), .int (nI μ.sf), .int (nI μ.rs), .int (rI μ.ba), .int (nI μ.pr), .int (nI μ.mi), .ref D.kf, .ref D.nf, .ref D.rf, .ref D.lf, .ref D.sv, .ref D.bk, .ref D.od, .ref D.vf, .ref D.bv, .ref D.df, .ref D.ss, .ref D.bd, .ref D.ks, .ref D.bt])) := dk_here hw_5804
  have h_5806 : w_5803 D.kf = some (101, dk_ci G 700 (fun i9 => nI (μ.kf i9))) := dk_keep hw_5804 hh_5802 hm.kf (by decide)
  have h_5807 : w_5803 D.nf = some (102, dk_ci G 700 (fun i9 => nI (μ.nf i9))) := dk_keep hw_5804 hh_5802 hm.nf (by decide)
  have h_5808 : w_5803 D.rf = some (103, dk_ci G 700 (fun i9 => rI (μ.rf i9))) := dk_keep hw_5804 hh_5802 hm.rf (by decide)
  have h_5809 : w_5803 D.lf = some (104, dk_ci G 5000 (fun i9 => rI (μ.lf i9))) := dk_keep hw_5804 hh_5802 hm.lf (by decide)
  have h_5810 : w_5803 D.sv = some (105, dk_ci G 6 (fun i9 => nI (μ.sv i9))) := dk_keep hw_5804 hh_5802 hm.sv (by decide)
  have h_5811 : w_5803 D.bk = some (106, dk_ci G 16 (fun i9 => nI (μ.bk i9))) := dk_keep hw_5804 hh_5802 hm.bk (by decide)
  have h_5812 : w_5803 D.od = some (107, dk_ci G 700 (fun i9 => nI (μ.od i9))) := dk_keep hw_5804 hh_5802 hm.od (by decide)
  have h_5813 : w_5803 D.vf = some (108, dk_cl G 700 (fun i9 => μ.vf i9)) := dk_keep hw_5804 hh_5802 hm.vf (by decide)
  have h_5814 : w_5803 D.bv = some (109, dk_cl G 16 (fun i9 => μ.bv i9)) := dk_keep hw_5804 hh_5802 hm.bv (by decide)
  have h_5815 : w_5803 D.df = some (110, dk_cz G 700 (fun i9 => bo_i (μ.df i9))) := dk_keep hw_5804 hh_5802 hm.df (by decide)
  have h_5816 : w_5803 D.ss = some (111, dk_cz G 6 (fun i9 => bo_i (μ.ss i9))) := dk_keep hw_5804 hh_5802 hm.ss (by decide)
  have h_5817 : w_5803 D.bd = some (112, dk_cz G 16 (fun i9 => bo_i (μ.bd i9))) := dk_keep hw_5804 hh_5802 hm.bd (by decide)
  have h_5818 : w_5803 D.ks = some (113, dk_cz G 700 (fun i9 => bo_i (μ.ks i9))) := dk_keep hw_5804 hh_5802 hm.ks (by decide)
  have h_5819 : w_5803 D.bt = some (114, dk_cz G 6000 (fun i9 => bo_i (μ.bt i9))) := dk_keep hw_5804 hh_5802 hm.bt (by decide)
  have hm_5820 : md_at G w_5803 h D (μ.er' 0) := ⟨h_5805, h_5806, h_5807, h_5808, h_5809, h_5810, h_5811, h_5812, h_5813, h_5814, h_5815, h_5816, h_5817, h_5818, h_5819⟩
  have hh_5821 : w_5803 h = some (100, .inr (cx_M, [.int (nI 0), .int (nI μ.n), .int (nI μ.sq), .int (nI μ.sf), .int (nI μ.rs), .int (rI μ.ba), .int (nI μ.pr), .int (nI μ.mi), .ref D.kf, .ref D.nf, .ref D.rf, .ref D.lf, .ref D.sv, .ref D.bk, .ref D.od, .ref D.vf, .ref D.bv, .ref D.df, .ref D.ss, .ref D.bd, .ref D.ks, .ref D.bt])) := hm_5820.o
  have ha_5822 : w_5803 D.kf = some (101, dk_ci G 700 (fun i9 => nI (μ.kf i9))) := hm_5820.kf
  have ha_5823 : w_5803 D.nf = some (102, dk_ci G 700 (fun i9 => nI (μ.nf i9))) := hm_5820.nf
  have ha_5824 : w_5803 D.rf = some (103, dk_ci G 700 (fun i9 => rI (μ.rf i9))) := hm_5820.rf
  have ha_5825 : w_5803 D.lf = some (104, dk_ci G 5000 (fun i9 => rI (μ.lf i9))) := hm_5820.lf
  have ha_5826 : w_5803 D.sv = some (105, dk_ci G 6 (fun i9 => nI (μ.sv i9))) := hm_5820.sv
  have ha_5827 : w_5803 D.bk = some (106, dk_ci G 16 (fun i9 => nI (μ.bk i9))) := hm_5820.bk
  have ha_5828 : w_5803 D.od = some (107, dk_ci G 700 (fun i9 => nI (μ.od i9))) := hm_5820.od
  have ha_5829 : w_5803 D.vf = some (108, dk_cl G 700 (fun i9 => μ.vf i9)) := hm_5820.vf
  have ha_5830 : w_5803 D.bv = some (109, dk_cl G 16 (fun i9 => μ.bv i9)) := hm_5820.bv
  have ha_5831 : w_5803 D.df = some (110, dk_cz G 700 (fun i9 => bo_i (μ.df i9))) := hm_5820.df
  have ha_5832 : w_5803 D.ss = some (111, dk_cz G 6 (fun i9 => bo_i (μ.ss i9))) := hm_5820.ss
  have ha_5833 : w_5803 D.bd = some (112, dk_cz G 16 (fun i9 => bo_i (μ.bd i9))) := hm_5820.bd
  have ha_5834 : w_5803 D.ks = some (113, dk_cz G 700 (fun i9 => bo_i (μ.ks i9))) := hm_5820.ks
  have ha_5835 : w_5803 D.bt = some (114, dk_cz G 6000 (fun i9 => bo_i (μ.bt i9))) := hm_5820.bt
  refine lv_aload_n hx hb de_M_get_5 rfl (lv_at hl 0 rfl) ?_
  refine lv_iload_n hx hb de_M_get_6 rfl (lv_at hl 2 rfl) ?_
  refine lv_iconst (v := nI 0) hx hb de_M_get_7 (by decide) ?_
  refine lv_sipush (v := nI 1023) hx hb de_M_get_8 (by decide) ?_
  refine dk_calli (va_runS (As := [.int (nI k), .int (nI 0), .int (nI 1023)]) (rest := [.ref h]) ⟨hx, hb, hml, hown, hts⟩ (c_M_in l G w_5803 (nI k) (nI 0) (nI 1023)) (va_cwS 3 hts (wd_gS wi_795 wi_793 wi_794 wi_8) rfl rfl rfl (by decide +kernel) ⟨Nat.le_of_ble_eq_true rfl, Nat.le_of_ble_eq_true rfl⟩) (dk_preS hE hP hS) rfl rfl hl.1 rfl (lv_room (Nat.le_of_ble_eq_true rfl)) de_M_get_11 ⟨(by first | exact Nat.le_of_ble_eq_true rfl | (simp only [Nat.zero_add]; omega) | omega), (by first | exact Nat.le_of_ble_eq_true rfl | (simp only [Nat.zero_add]; omega) | omega)⟩) hS (fun r_5838 w_5836 H locs hq_5837 hP hS => ?_)
  rw [im_y (by decide) (by omega)] at hq_5837
  obtain ⟨hr_5839, he_5840⟩ := hq_5837
  subst hr_5839
  rw [he_5840] at hP
  refine bo_if_eq (b := true) (tgt := 30) hx hb de_M_get_14 (by decide) (fun c_5841 => ?_) (fun c_5841 => ?_)
  · exact absurd c_5841 (by decide)
  · refine lv_iload_n hx hb de_M_get_17 rfl (lv_at hl 1 rfl) ?_
    refine lv_iconst (v := (-1)) hx hb de_M_get_18 (by decide) ?_
    refine lv_icmp_eq (tgt := 34) hx hb de_M_get_19 (by decide) (fun c_5842 => ?_) (fun c_5842 => ?_)
    · refine lv_iconst (v := nI 0) hx hb de_M_get_34 (by decide) ?_
      refine lv_iconst (v := nI 1) hx hb de_M_get_35 (by decide) ?_
      rw [show (nI 0) = bo_i false from (by decide)]
      refine dk_calli (va_runV (As := [.int (bo_i false), .int (nI 1)]) (rest := []) ⟨hx, hb, hml, hown, hts⟩ (c_M_fails l G w_5803 h D (μ.er' 0) hm_5820 false 1 (by decide) (by decide) (show (0 : Nat) < 3 by decide)) (cwV 2 hts (wd_gV (C := "RunKeeperModel") wi_799 wi_796 wi_798 (wd_p (q := (⟨"RunKeeperModel", "fails", "(ZI)Z"⟩, 22)) (by decide +kernel) (by decide +kernel)) wi_8) rfl rfl rfl (by decide +kernel) ⟨Nat.le_of_ble_eq_true rfl, Nat.le_of_ble_eq_true rfl⟩) (dk_preV (kn_M, kt_M, 22) hE hP hS hh_5821 rfl) rfl rfl hl.1 rfl (lv_room (Nat.le_of_ble_eq_true rfl)) de_M_get_36 ⟨(by first | exact Nat.le_of_ble_eq_true rfl | (simp only [Nat.zero_add]; omega) | omega), (by first | exact Nat.le_of_ble_eq_true rfl | (simp only [Nat.zero_add]; omega) | omega)⟩) hS (fun r_5851 w_5849 H locs hq_5850 hP hS => ?_)
      obtain ⟨hr_5852, hq_5853, hf_5854⟩ := hq_5850
      subst hr_5852
      have hm_5855 : md_at G w_5849 h D ((μ.er' 0).er' 0) := hq_5853
      have hh_5856 : w_5849 h = some (100, .inr (cx_M, [.int (nI 0), .int (nI μ.n), .int (nI μ.sq), .int (nI μ.sf), .int (nI μ.rs), .int (rI μ.ba), .int (nI μ.pr), .int (nI μ.mi), .ref D.kf, .ref D.nf, .ref D.rf, .ref D.lf, .ref D.sv, .ref D.bk, .ref D.od, .ref D.vf, .ref D.bv, .ref D.df, .ref D.ss, .ref D.bd, .ref D.ks, .ref D.bt])) := hm_5855.o
      have ha_5857 : w_5849 D.kf = some (101, dk_ci G 700 (fun i9 => nI (μ.kf i9))) := hm_5855.kf
      have ha_5858 : w_5849 D.nf = some (102, dk_ci G 700 (fun i9 => nI (μ.nf i9))) := hm_5855.nf
      have ha_5859 : w_5849 D.rf = some (103, dk_ci G 700 (fun i9 => rI (μ.rf i9))) := hm_5855.rf
      have ha_5860 : w_5849 D.lf = some (104, dk_ci G 5000 (fun i9 => rI (μ.lf i9))) := hm_5855.lf
      have ha_5861 : w_5849 D.sv = some (105, dk_ci G 6 (fun i9 => nI (μ.sv i9))) := hm_5855.sv
      have ha_5862 : w_5849 D.bk = some (106, dk_ci G 16 (fun i9 => nI (μ.bk i9))) := hm_5855.bk
      have ha_5863 : w_5849 D.od = some (107, dk_ci G 700 (fun i9 => nI (μ.od i9))) := hm_5855.od
      have ha_5864 : w_5849 D.vf = some (108, dk_cl G 700 (fun i9 => μ.vf i9)) := hm_5855.vf
      have ha_5865 : w_5849 D.bv = some (109, dk_cl G 16 (fun i9 => μ.bv i9)) := hm_5855.bv
      have ha_5866 : w_5849 D.df = some (110, dk_cz G 700 (fun i9 => bo_i (μ.df i9))) := hm_5855.df
      have ha_5867 : w_5849 D.ss = some (111, dk_cz G 6 (fun i9 => bo_i (μ.ss i9))) := hm_5855.ss
      have ha_5868 : w_5849 D.bd = some (112, dk_cz G 16 (fun i9 => bo_i (μ.bd i9))) := hm_5855.bd
      have ha_5869 : w_5849 D.ks = some (113, dk_cz G 700 (fun i9 => bo_i (μ.ks i9))) := hm_5855.ks
      have ha_5870 : w_5849 D.bt = some (114, dk_cz G 6000 (fun i9 => bo_i (μ.bt i9))) := hm_5855.bt
      refine bo_if_eq (b := false) (tgt := 44) hx hb de_M_get_39 (by decide) (fun c_5871 => ?_) (fun c_5871 => ?_)
      · have hmo2 : md_ok ((μ.er' 0).er' 0) := ⟨ok1, ok2, ok3, ok4, ok5, ok6, ok7, ok8, ok9, ok10, show (0 : Nat) < 3 by decide⟩
        refine lv_aload_n hx hb de_M_get_44 rfl (lv_at hl 0 rfl) ?_
        refine lv_iload_n hx hb de_M_get_45 rfl (lv_at hl 2 rfl) ?_
        refine lv_aload_n hx hb de_M_get_46 rfl (lv_at hl 0 rfl) ?_
        refine lv_iload_n hx hb de_M_get_47 rfl (lv_at hl 1 rfl) ?_
        refine dk_calli (va_runV (As := [.int v]) (rest := [.int (nI k), .ref h]) ⟨hx, hb, hml, hown, hts⟩ (c_M_upTo l G w_5849 h D ((μ.er' 0).er' 0) hm_5855 v u hv) (cwV 1 hts (wd_gV (C := "RunKeeperModel") wi_880 wi_877 wi_879 (wd_p (q := (⟨"RunKeeperModel", "upTo", "(I)I"⟩, 22)) (by decide +kernel) (by decide +kernel)) wi_8) rfl rfl rfl (by decide +kernel) ⟨Nat.le_of_ble_eq_true rfl, Nat.le_of_ble_eq_true rfl⟩) (dk_preV (kn_M, kt_M, 22) hE hP hS hh_5856 rfl) rfl rfl hl.1 rfl (lv_room (Nat.le_of_ble_eq_true rfl)) de_M_get_48 ⟨(by first | exact Nat.le_of_ble_eq_true rfl | (simp only [Nat.zero_add]; omega) | omega), (by first | exact Nat.le_of_ble_eq_true rfl | (simp only [Nat.zero_add]; omega) | omega)⟩) hS (fun r_5897 w_5895 H locs hq_5896 hP hS => ?_)
        obtain ⟨hr_5898, he_5899⟩ := hq_5896
        subst hr_5898
        rw [he_5899] at hP
        refine dk_calli (va_runV (As := [.int (nI k), .int (nI u)]) (rest := []) ⟨hx, hb, hml, hown, hts⟩ (c_M_best l G w_5849 h D ((μ.er' 0).er' 0) hm_5855 hmo2 k u (by omega) hu0) (cwV 2 hts (wd_gV (C := "RunKeeperModel") wi_884 wi_881 wi_883 (wd_p (q := (⟨"RunKeeperModel", "best", "(II)I"⟩, 22)) (by decide +kernel) (by decide +kernel)) wi_8) rfl rfl rfl (by decide +kernel) ⟨Nat.le_of_ble_eq_true rfl, Nat.le_of_ble_eq_true rfl⟩) (dk_preV (kn_M, kt_M, 22) hE hP hS hh_5856 rfl) rfl rfl hl.1 rfl (lv_room (Nat.le_of_ble_eq_true rfl)) de_M_get_51 ⟨(by first | exact Nat.le_of_ble_eq_true rfl | (simp only [Nat.zero_add]; omega) | omega), (by first | exact Nat.le_of_ble_eq_true rfl | (simp only [Nat.zero_add]; omega) | omega)⟩) hS (fun r_5902 w_5900 H locs hq_5901 hP hS => ?_)
        rw [show be_f ((μ.er' 0).er' 0) k u ((μ.er' 0).er' 0).n = some q9 from (be_e μ 0 0 k u).trans hb9] at hq_5901
        obtain ⟨hr_5903, he_5904⟩ := hq_5901
        subst hr_5903
        rw [he_5904] at hP
        rw [show rI (some q9) = nI q9 from rfl]
        refine lv_istore_n (lv' := [(3, .int (nI q9)), (0, .ref h), (1, .int v), (2, .int (nI k))]) hx hb de_M_get_54 rfl hl (by decide) rfl (fun ls hl => ?_)
        refine lv_aload_n hx hb de_M_get_55 rfl (lv_at hl 1 rfl) ?_
        refine lv_iload_n hx hb de_M_get_56 rfl (lv_at hl 3 rfl) ?_
        refine lv_iload_n hx hb de_M_get_57 rfl (lv_at hl 0 rfl) ?_
        refine dk_callv (va_runV (As := [.int (nI k), .int (nI q9)]) (rest := []) ⟨hx, hb, hml, hown, hts⟩ (c_M_probe l G w_5849 h D ((μ.er' 0).er' 0) hm_5855 hmo2 k hk0 (some q9) (fun q hq => by cases hq; exact hq8) hlive) (cwV 2 hts (wd_gV (C := "RunKeeperModel") wi_888 wi_885 wi_887 (wd_p (q := (⟨"RunKeeperModel", "probe", "(II)V"⟩, 22)) (by decide +kernel) (by decide +kernel)) wi_8) rfl rfl rfl (by decide +kernel) ⟨Nat.le_of_ble_eq_true rfl, Nat.le_of_ble_eq_true rfl⟩) (dk_preV (kn_M, kt_M, 22) hE hP hS hh_5856 rfl) rfl rfl hl.1 rfl (lv_room (Nat.le_of_ble_eq_true rfl)) de_M_get_58 ⟨(by first | exact Nat.le_of_ble_eq_true rfl | (simp only [Nat.zero_add]; omega) | omega), (by first | exact Nat.le_of_ble_eq_true rfl | (simp only [Nat.zero_add]; omega) | omega)⟩) hS (fun w_5905 H locs hq_5906 hP hS => ?_)
        obtain ⟨⟨B, hmB⟩, hfB⟩ := hq_5906
        have hm_5908 : md_at G w_5905 h D (((((μ.er' 0).er' 0).pr' (pm_K (μ.er' 0) k ((some q9 : Option Nat).bind μ.rf) (some q9)).1).mi' (pm_K (μ.er' 0) k ((some q9 : Option Nat).bind μ.rf) (some q9)).2).bt' B) := hmB
        have hh_5909 : w_5905 h = some (100, .inr (cx_M, [.int (nI 0), .int (nI μ.n), .int (nI μ.sq), .int (nI μ.sf), .int (nI μ.rs), .int (rI μ.ba), .int (nI ((pm_K (μ.er' 0) k ((some q9 : Option Nat).bind μ.rf) (some q9)).1)), .int (nI ((pm_K (μ.er' 0) k ((some q9 : Option Nat).bind μ.rf) (some q9)).2)), .ref D.kf, .ref D.nf, .ref D.rf, .ref D.lf, .ref D.sv, .ref D.bk, .ref D.od, .ref D.vf, .ref D.bv, .ref D.df, .ref D.ss, .ref D.bd, .ref D.ks, .ref D.bt])) := hm_5908.o
        have ha_5910 : w_5905 D.kf = some (101, dk_ci G 700 (fun i9 => nI (μ.kf i9))) := hm_5908.kf
        have ha_5911 : w_5905 D.nf = some (102, dk_ci G 700 (fun i9 => nI (μ.nf i9))) := hm_5908.nf
        have ha_5912 : w_5905 D.rf = some (103, dk_ci G 700 (fun i9 => rI (μ.rf i9))) := hm_5908.rf
        have ha_5913 : w_5905 D.lf = some (104, dk_ci G 5000 (fun i9 => rI (μ.lf i9))) := hm_5908.lf
        have ha_5914 : w_5905 D.sv = some (105, dk_ci G 6 (fun i9 => nI (μ.sv i9))) := hm_5908.sv
        have ha_5915 : w_5905 D.bk = some (106, dk_ci G 16 (fun i9 => nI (μ.bk i9))) := hm_5908.bk
        have ha_5916 : w_5905 D.od = some (107, dk_ci G 700 (fun i9 => nI (μ.od i9))) := hm_5908.od
        have ha_5917 : w_5905 D.vf = some (108, dk_cl G 700 (fun i9 => μ.vf i9)) := hm_5908.vf
        have ha_5918 : w_5905 D.bv = some (109, dk_cl G 16 (fun i9 => μ.bv i9)) := hm_5908.bv
        have ha_5919 : w_5905 D.df = some (110, dk_cz G 700 (fun i9 => bo_i (μ.df i9))) := hm_5908.df
        have ha_5920 : w_5905 D.ss = some (111, dk_cz G 6 (fun i9 => bo_i (μ.ss i9))) := hm_5908.ss
        have ha_5921 : w_5905 D.bd = some (112, dk_cz G 16 (fun i9 => bo_i (μ.bd i9))) := hm_5908.bd
        have ha_5922 : w_5905 D.ks = some (113, dk_cz G 700 (fun i9 => bo_i (μ.ks i9))) := hm_5908.ks
        have ha_5923 : w_5905 D.bt = some (114, dk_cz G 6000 (fun i9 => bo_i (B i9))) := hm_5908.bt
        refine lv_aload_n hx hb de_M_get_61 rfl (lv_at hl 1 rfl) ?_
        refine lv_iload_n hx hb de_M_get_62 rfl (lv_at hl 0 rfl) ?_
        refine nx_if_lt (a := q9) (tgt := 75) hx hb (by omega) de_M_get_63 (by decide) ?_
        refine lv_aload_n hx hb de_M_get_66 rfl (lv_at hl 1 rfl) ?_
        refine dk_get (a := h) (v := .ref D.df) (C := kn_M) (T := kt_M) (N := 22) hx hb hts ki_M hown hK hP hh_5909 rfl 17 (by decide) (hts _ wi_731) (fun _ h9 => h9) rfl de_M_get_67 ?_
        refine lv_iload_n hx hb de_M_get_70 rfl (lv_at hl 0 rfl) ?_
        refine dk_zald (a := D.df) hx hb hK hP ha_5919 q9 rfl (by omega) (by omega) de_M_get_71 ?_
        refine bo_if_eq (b := (μ.df q9)) (tgt := 79) hx hb de_M_get_72 (by decide) (fun c_5925 => ?_) (fun c_5925 => ?_)
        · refine lv_iconst (v := nI 0) hx hb de_M_get_79 (by decide) ?_
          refine lv_iconst (v := nI 2) hx hb de_M_get_80 (by decide) ?_
          rw [show (nI 0) = bo_i false from (by decide)]
          refine dk_calli (va_runV (As := [.int (bo_i false), .int (nI 2)]) (rest := []) ⟨hx, hb, hml, hown, hts⟩ (c_M_fails l G w_5905 h D (((((μ.er' 0).er' 0).pr' (pm_K (μ.er' 0) k ((some q9 : Option Nat).bind μ.rf) (some q9)).1).mi' (pm_K (μ.er' 0) k ((some q9 : Option Nat).bind μ.rf) (some q9)).2).bt' B) hm_5908 false 2 (by decide) (by decide) (show (0 : Nat) < 3 by decide)) (cwV 2 hts (wd_gV (C := "RunKeeperModel") wi_799 wi_796 wi_798 (wd_p (q := (⟨"RunKeeperModel", "fails", "(ZI)Z"⟩, 22)) (by decide +kernel) (by decide +kernel)) wi_8) rfl rfl rfl (by decide +kernel) ⟨Nat.le_of_ble_eq_true rfl, Nat.le_of_ble_eq_true rfl⟩) (dk_preV (kn_M, kt_M, 22) hE hP hS hh_5909 rfl) rfl rfl hl.1 rfl (lv_room (Nat.le_of_ble_eq_true rfl)) de_M_get_81 ⟨(by first | exact Nat.le_of_ble_eq_true rfl | (simp only [Nat.zero_add]; omega) | omega), (by first | exact Nat.le_of_ble_eq_true rfl | (simp only [Nat.zero_add]; omega) | omega)⟩) hS (fun r_5928 w_5926 H locs hq_5927 hP hS => ?_)
          obtain ⟨hr_5929, hq_5930, hf_5931⟩ := hq_5927
          subst hr_5929
          have hm_5932 : md_at G w_5926 h D ((((((μ.er' 0).er' 0).pr' (pm_K (μ.er' 0) k ((some q9 : Option Nat).bind μ.rf) (some q9)).1).mi' (pm_K (μ.er' 0) k ((some q9 : Option Nat).bind μ.rf) (some q9)).2).bt' B).er' 0) := hq_5930
          have hh_5933 : w_5926 h = some (100, .inr (cx_M, [.int (nI 0), .int (nI μ.n), .int (nI μ.sq), .int (nI μ.sf), .int (nI μ.rs), .int (rI μ.ba), .int (nI ((pm_K (μ.er' 0) k ((some q9 : Option Nat).bind μ.rf) (some q9)).1)), .int (nI ((pm_K (μ.er' 0) k ((some q9 : Option Nat).bind μ.rf) (some q9)).2)), .ref D.kf, .ref D.nf, .ref D.rf, .ref D.lf, .ref D.sv, .ref D.bk, .ref D.od, .ref D.vf, .ref D.bv, .ref D.df, .ref D.ss, .ref D.bd, .ref D.ks, .ref D.bt])) := hm_5932.o
          have ha_5934 : w_5926 D.kf = some (101, dk_ci G 700 (fun i9 => nI (μ.kf i9))) := hm_5932.kf
          have ha_5935 : w_5926 D.nf = some (102, dk_ci G 700 (fun i9 => nI (μ.nf i9))) := hm_5932.nf
          have ha_5936 : w_5926 D.rf = some (103, dk_ci G 700 (fun i9 => rI (μ.rf i9))) := hm_5932.rf
          have ha_5937 : w_5926 D.lf = some (104, dk_ci G 5000 (fun i9 => rI (μ.lf i9))) := hm_5932.lf
          have ha_5938 : w_5926 D.sv = some (105, dk_ci G 6 (fun i9 => nI (μ.sv i9))) := hm_5932.sv
          have ha_5939 : w_5926 D.bk = some (106, dk_ci G 16 (fun i9 => nI (μ.bk i9))) := hm_5932.bk
          have ha_5940 : w_5926 D.od = some (107, dk_ci G 700 (fun i9 => nI (μ.od i9))) := hm_5932.od
          have ha_5941 : w_5926 D.vf = some (108, dk_cl G 700 (fun i9 => μ.vf i9)) := hm_5932.vf
          have ha_5942 : w_5926 D.bv = some (109, dk_cl G 16 (fun i9 => μ.bv i9)) := hm_5932.bv
          have ha_5943 : w_5926 D.df = some (110, dk_cz G 700 (fun i9 => bo_i (μ.df i9))) := hm_5932.df
          have ha_5944 : w_5926 D.ss = some (111, dk_cz G 6 (fun i9 => bo_i (μ.ss i9))) := hm_5932.ss
          have ha_5945 : w_5926 D.bd = some (112, dk_cz G 16 (fun i9 => bo_i (μ.bd i9))) := hm_5932.bd
          have ha_5946 : w_5926 D.ks = some (113, dk_cz G 700 (fun i9 => bo_i (μ.ks i9))) := hm_5932.ks
          have ha_5947 : w_5926 D.bt = some (114, dk_cz G 6000 (fun i9 => bo_i (B i9))) := hm_5932.bt
          refine bo_if_eq (b := false) (tgt := 91) hx hb de_M_get_84 (by decide) (fun c_5948 => ?_) (fun c_5948 => ?_)
          · refine lv_aload_n hx hb de_M_get_91 rfl (lv_at hl 1 rfl) ?_
            refine dk_get (a := h) (v := .ref D.vf) (C := kn_M) (T := kt_M) (N := 22) hx hb hts ki_M hown hK hP hh_5933 rfl 15 (by decide) (hts _ wi_729) (fun _ h9 => h9) rfl de_M_get_92 ?_
            refine lv_iload_n hx hb de_M_get_95 rfl (lv_at hl 0 rfl) ?_
            refine dk_lald (a := D.vf) hx hb hK hP ha_5941 q9 rfl (by omega) (by omega) de_M_get_96 ?_
            exact dk_lret hQ hx hb hr hlocks hP hS (Nat.le_refl _) (Nat.le_refl _) (⟨rfl, ⟨B, hm_5932⟩, ((((dk_fr.rf).tr ((dk_fr.up (T := md_T) hh_5802 (by unfold md_T; omega)).eq hw_5804)).tr (hf_5854)).tr (hfB)).tr (hf_5931)⟩) de_M_get_97
          · exact absurd c_5948 (by decide)
        · exact absurd c_5925 (by rw [hd]; decide)
      · exact absurd c_5871 (by decide)
    · refine lv_aload_n hx hb de_M_get_22 rfl (lv_at hl 0 rfl) ?_
      refine lv_iload_n hx hb de_M_get_23 rfl (lv_at hl 1 rfl) ?_
      refine dk_calli (va_runV (As := [.int v]) (rest := [.ref h]) ⟨hx, hb, hml, hown, hts⟩ (c_M_isNone l G w_5803 h D (μ.er' 0) hm_5820 v) (cwV 1 hts (wd_gV (C := "RunKeeperModel") wi_872 wi_869 wi_871 (wd_p (q := (⟨"RunKeeperModel", "isNone", "(I)Z"⟩, 22)) (by decide +kernel) (by decide +kernel)) wi_8) rfl rfl rfl (by decide +kernel) ⟨Nat.le_of_ble_eq_true rfl, Nat.le_of_ble_eq_true rfl⟩) (dk_preV (kn_M, kt_M, 22) hE hP hS hh_5821 rfl) rfl rfl hl.1 rfl (lv_room (Nat.le_of_ble_eq_true rfl)) de_M_get_24 ⟨(by first | exact Nat.le_of_ble_eq_true rfl | (simp only [Nat.zero_add]; omega) | omega), (by first | exact Nat.le_of_ble_eq_true rfl | (simp only [Nat.zero_add]; omega) | omega)⟩) hS (fun r_5845 w_5843 H locs hq_5844 hP hS => ?_)
      rw [show vs_g (μ.er' 0) v = some u from by rw [mu_u, if_neg c_5842] at hv; exact hv] at hq_5844
      obtain ⟨hr_5846, he_5847⟩ := hq_5844
      subst hr_5846
      rw [he_5847] at hP
      refine bo_if_eq (b := false) (tgt := 34) hx hb de_M_get_27 (by decide) (fun c_5848 => ?_) (fun c_5848 => ?_)
      · refine lv_iconst (v := nI 0) hx hb de_M_get_34 (by decide) ?_
        refine lv_iconst (v := nI 1) hx hb de_M_get_35 (by decide) ?_
        rw [show (nI 0) = bo_i false from (by decide)]
        refine dk_calli (va_runV (As := [.int (bo_i false), .int (nI 1)]) (rest := []) ⟨hx, hb, hml, hown, hts⟩ (c_M_fails l G w_5803 h D (μ.er' 0) hm_5820 false 1 (by decide) (by decide) (show (0 : Nat) < 3 by decide)) (cwV 2 hts (wd_gV (C := "RunKeeperModel") wi_799 wi_796 wi_798 (wd_p (q := (⟨"RunKeeperModel", "fails", "(ZI)Z"⟩, 22)) (by decide +kernel) (by decide +kernel)) wi_8) rfl rfl rfl (by decide +kernel) ⟨Nat.le_of_ble_eq_true rfl, Nat.le_of_ble_eq_true rfl⟩) (dk_preV (kn_M, kt_M, 22) hE hP hS hh_5821 rfl) rfl rfl hl.1 rfl (lv_room (Nat.le_of_ble_eq_true rfl)) de_M_get_36 ⟨(by first | exact Nat.le_of_ble_eq_true rfl | (simp only [Nat.zero_add]; omega) | omega), (by first | exact Nat.le_of_ble_eq_true rfl | (simp only [Nat.zero_add]; omega) | omega)⟩) hS (fun r_5874 w_5872 H locs hq_5873 hP hS => ?_)
        obtain ⟨hr_5875, hq_5876, hf_5877⟩ := hq_5873
        subst hr_5875
        have hm_5878 : md_at G w_5872 h D ((μ.er' 0).er' 0) := hq_5876
        have hh_5879 : w_5872 h = some (100, .inr (cx_M, [.int (nI 0), .int (nI μ.n), .int (nI μ.sq), .int (nI μ.sf), .int (nI μ.rs), .int (rI μ.ba), .int (nI μ.pr), .int (nI μ.mi), .ref D.kf, .ref D.nf, .ref D.rf, .ref D.lf, .ref D.sv, .ref D.bk, .ref D.od, .ref D.vf, .ref D.bv, .ref D.df, .ref D.ss, .ref D.bd, .ref D.ks, .ref D.bt])) := hm_5878.o
        have ha_5880 : w_5872 D.kf = some (101, dk_ci G 700 (fun i9 => nI (μ.kf i9))) := hm_5878.kf
        have ha_5881 : w_5872 D.nf = some (102, dk_ci G 700 (fun i9 => nI (μ.nf i9))) := hm_5878.nf
        have ha_5882 : w_5872 D.rf = some (103, dk_ci G 700 (fun i9 => rI (μ.rf i9))) := hm_5878.rf
        have ha_5883 : w_5872 D.lf = some (104, dk_ci G 5000 (fun i9 => rI (μ.lf i9))) := hm_5878.lf
        have ha_5884 : w_5872 D.sv = some (105, dk_ci G 6 (fun i9 => nI (μ.sv i9))) := hm_5878.sv
        have ha_5885 : w_5872 D.bk = some (106, dk_ci G 16 (fun i9 => nI (μ.bk i9))) := hm_5878.bk
        have ha_5886 : w_5872 D.od = some (107, dk_ci G 700 (fun i9 => nI (μ.od i9))) := hm_5878.od
        have ha_5887 : w_5872 D.vf = some (108, dk_cl G 700 (fun i9 => μ.vf i9)) := hm_5878.vf
        have ha_5888 : w_5872 D.bv = some (109, dk_cl G 16 (fun i9 => μ.bv i9)) := hm_5878.bv
        have ha_5889 : w_5872 D.df = some (110, dk_cz G 700 (fun i9 => bo_i (μ.df i9))) := hm_5878.df
        have ha_5890 : w_5872 D.ss = some (111, dk_cz G 6 (fun i9 => bo_i (μ.ss i9))) := hm_5878.ss
        have ha_5891 : w_5872 D.bd = some (112, dk_cz G 16 (fun i9 => bo_i (μ.bd i9))) := hm_5878.bd
        have ha_5892 : w_5872 D.ks = some (113, dk_cz G 700 (fun i9 => bo_i (μ.ks i9))) := hm_5878.ks
        have ha_5893 : w_5872 D.bt = some (114, dk_cz G 6000 (fun i9 => bo_i (μ.bt i9))) := hm_5878.bt
        refine bo_if_eq (b := false) (tgt := 44) hx hb de_M_get_39 (by decide) (fun c_5894 => ?_) (fun c_5894 => ?_)
        · have hmo2 : md_ok ((μ.er' 0).er' 0) := ⟨ok1, ok2, ok3, ok4, ok5, ok6, ok7, ok8, ok9, ok10, show (0 : Nat) < 3 by decide⟩
          refine lv_aload_n hx hb de_M_get_44 rfl (lv_at hl 0 rfl) ?_
          refine lv_iload_n hx hb de_M_get_45 rfl (lv_at hl 2 rfl) ?_
          refine lv_aload_n hx hb de_M_get_46 rfl (lv_at hl 0 rfl) ?_
          refine lv_iload_n hx hb de_M_get_47 rfl (lv_at hl 1 rfl) ?_
          refine dk_calli (va_runV (As := [.int v]) (rest := [.int (nI k), .ref h]) ⟨hx, hb, hml, hown, hts⟩ (c_M_upTo l G w_5872 h D ((μ.er' 0).er' 0) hm_5878 v u hv) (cwV 1 hts (wd_gV (C := "RunKeeperModel") wi_880 wi_877 wi_879 (wd_p (q := (⟨"RunKeeperModel", "upTo", "(I)I"⟩, 22)) (by decide +kernel) (by decide +kernel)) wi_8) rfl rfl rfl (by decide +kernel) ⟨Nat.le_of_ble_eq_true rfl, Nat.le_of_ble_eq_true rfl⟩) (dk_preV (kn_M, kt_M, 22) hE hP hS hh_5879 rfl) rfl rfl hl.1 rfl (lv_room (Nat.le_of_ble_eq_true rfl)) de_M_get_48 ⟨(by first | exact Nat.le_of_ble_eq_true rfl | (simp only [Nat.zero_add]; omega) | omega), (by first | exact Nat.le_of_ble_eq_true rfl | (simp only [Nat.zero_add]; omega) | omega)⟩) hS (fun r_5951 w_5949 H locs hq_5950 hP hS => ?_)
          obtain ⟨hr_5952, he_5953⟩ := hq_5950
          subst hr_5952
          rw [he_5953] at hP
          refine dk_calli (va_runV (As := [.int (nI k), .int (nI u)]) (rest := []) ⟨hx, hb, hml, hown, hts⟩ (c_M_best l G w_5872 h D ((μ.er' 0).er' 0) hm_5878 hmo2 k u (by omega) hu0) (cwV 2 hts (wd_gV (C := "RunKeeperModel") wi_884 wi_881 wi_883 (wd_p (q := (⟨"RunKeeperModel", "best", "(II)I"⟩, 22)) (by decide +kernel) (by decide +kernel)) wi_8) rfl rfl rfl (by decide +kernel) ⟨Nat.le_of_ble_eq_true rfl, Nat.le_of_ble_eq_true rfl⟩) (dk_preV (kn_M, kt_M, 22) hE hP hS hh_5879 rfl) rfl rfl hl.1 rfl (lv_room (Nat.le_of_ble_eq_true rfl)) de_M_get_51 ⟨(by first | exact Nat.le_of_ble_eq_true rfl | (simp only [Nat.zero_add]; omega) | omega), (by first | exact Nat.le_of_ble_eq_true rfl | (simp only [Nat.zero_add]; omega) | omega)⟩) hS (fun r_5956 w_5954 H locs hq_5955 hP hS => ?_)
          rw [show be_f ((μ.er' 0).er' 0) k u ((μ.er' 0).er' 0).n = some q9 from (be_e μ 0 0 k u).trans hb9] at hq_5955
          obtain ⟨hr_5957, he_5958⟩ := hq_5955
          subst hr_5957
          rw [he_5958] at hP
          rw [show rI (some q9) = nI q9 from rfl]
          refine lv_istore_n (lv' := [(3, .int (nI q9)), (0, .ref h), (1, .int v), (2, .int (nI k))]) hx hb de_M_get_54 rfl hl (by decide) rfl (fun ls hl => ?_)
          refine lv_aload_n hx hb de_M_get_55 rfl (lv_at hl 1 rfl) ?_
          refine lv_iload_n hx hb de_M_get_56 rfl (lv_at hl 3 rfl) ?_
          refine lv_iload_n hx hb de_M_get_57 rfl (lv_at hl 0 rfl) ?_
          refine dk_callv (va_runV (As := [.int (nI k), .int (nI q9)]) (rest := []) ⟨hx, hb, hml, hown, hts⟩ (c_M_probe l G w_5872 h D ((μ.er' 0).er' 0) hm_5878 hmo2 k hk0 (some q9) (fun q hq => by cases hq; exact hq8) hlive) (cwV 2 hts (wd_gV (C := "RunKeeperModel") wi_888 wi_885 wi_887 (wd_p (q := (⟨"RunKeeperModel", "probe", "(II)V"⟩, 22)) (by decide +kernel) (by decide +kernel)) wi_8) rfl rfl rfl (by decide +kernel) ⟨Nat.le_of_ble_eq_true rfl, Nat.le_of_ble_eq_true rfl⟩) (dk_preV (kn_M, kt_M, 22) hE hP hS hh_5879 rfl) rfl rfl hl.1 rfl (lv_room (Nat.le_of_ble_eq_true rfl)) de_M_get_58 ⟨(by first | exact Nat.le_of_ble_eq_true rfl | (simp only [Nat.zero_add]; omega) | omega), (by first | exact Nat.le_of_ble_eq_true rfl | (simp only [Nat.zero_add]; omega) | omega)⟩) hS (fun w_5959 H locs hq_5960 hP hS => ?_)
          obtain ⟨⟨B, hmB⟩, hfB⟩ := hq_5960
          have hm_5962 : md_at G w_5959 h D (((((μ.er' 0).er' 0).pr' (pm_K (μ.er' 0) k ((some q9 : Option Nat).bind μ.rf) (some q9)).1).mi' (pm_K (μ.er' 0) k ((some q9 : Option Nat).bind μ.rf) (some q9)).2).bt' B) := hmB
          have hh_5963 : w_5959 h = some (100, .inr (cx_M, [.int (nI 0), .int (nI μ.n), .int (nI μ.sq), .int (nI μ.sf), .int (nI μ.rs), .int (rI μ.ba), .int (nI ((pm_K (μ.er' 0) k ((some q9 : Option Nat).bind μ.rf) (some q9)).1)), .int (nI ((pm_K (μ.er' 0) k ((some q9 : Option Nat).bind μ.rf) (some q9)).2)), .ref D.kf, .ref D.nf, .ref D.rf, .ref D.lf, .ref D.sv, .ref D.bk, .ref D.od, .ref D.vf, .ref D.bv, .ref D.df, .ref D.ss, .ref D.bd, .ref D.ks, .ref D.bt])) := hm_5962.o
          have ha_5964 : w_5959 D.kf = some (101, dk_ci G 700 (fun i9 => nI (μ.kf i9))) := hm_5962.kf
          have ha_5965 : w_5959 D.nf = some (102, dk_ci G 700 (fun i9 => nI (μ.nf i9))) := hm_5962.nf
          have ha_5966 : w_5959 D.rf = some (103, dk_ci G 700 (fun i9 => rI (μ.rf i9))) := hm_5962.rf
          have ha_5967 : w_5959 D.lf = some (104, dk_ci G 5000 (fun i9 => rI (μ.lf i9))) := hm_5962.lf
          have ha_5968 : w_5959 D.sv = some (105, dk_ci G 6 (fun i9 => nI (μ.sv i9))) := hm_5962.sv
          have ha_5969 : w_5959 D.bk = some (106, dk_ci G 16 (fun i9 => nI (μ.bk i9))) := hm_5962.bk
          have ha_5970 : w_5959 D.od = some (107, dk_ci G 700 (fun i9 => nI (μ.od i9))) := hm_5962.od
          have ha_5971 : w_5959 D.vf = some (108, dk_cl G 700 (fun i9 => μ.vf i9)) := hm_5962.vf
          have ha_5972 : w_5959 D.bv = some (109, dk_cl G 16 (fun i9 => μ.bv i9)) := hm_5962.bv
          have ha_5973 : w_5959 D.df = some (110, dk_cz G 700 (fun i9 => bo_i (μ.df i9))) := hm_5962.df
          have ha_5974 : w_5959 D.ss = some (111, dk_cz G 6 (fun i9 => bo_i (μ.ss i9))) := hm_5962.ss
          have ha_5975 : w_5959 D.bd = some (112, dk_cz G 16 (fun i9 => bo_i (μ.bd i9))) := hm_5962.bd
          have ha_5976 : w_5959 D.ks = some (113, dk_cz G 700 (fun i9 => bo_i (μ.ks i9))) := hm_5962.ks
          have ha_5977 : w_5959 D.bt = some (114, dk_cz G 6000 (fun i9 => bo_i (B i9))) := hm_5962.bt
          refine lv_aload_n hx hb de_M_get_61 rfl (lv_at hl 1 rfl) ?_
          refine lv_iload_n hx hb de_M_get_62 rfl (lv_at hl 0 rfl) ?_
          refine nx_if_lt (a := q9) (tgt := 75) hx hb (by omega) de_M_get_63 (by decide) ?_
          refine lv_aload_n hx hb de_M_get_66 rfl (lv_at hl 1 rfl) ?_
          refine dk_get (a := h) (v := .ref D.df) (C := kn_M) (T := kt_M) (N := 22) hx hb hts ki_M hown hK hP hh_5963 rfl 17 (by decide) (hts _ wi_731) (fun _ h9 => h9) rfl de_M_get_67 ?_
          refine lv_iload_n hx hb de_M_get_70 rfl (lv_at hl 0 rfl) ?_
          refine dk_zald (a := D.df) hx hb hK hP ha_5973 q9 rfl (by omega) (by omega) de_M_get_71 ?_
          refine bo_if_eq (b := (μ.df q9)) (tgt := 79) hx hb de_M_get_72 (by decide) (fun c_5979 => ?_) (fun c_5979 => ?_)
          · refine lv_iconst (v := nI 0) hx hb de_M_get_79 (by decide) ?_
            refine lv_iconst (v := nI 2) hx hb de_M_get_80 (by decide) ?_
            rw [show (nI 0) = bo_i false from (by decide)]
            refine dk_calli (va_runV (As := [.int (bo_i false), .int (nI 2)]) (rest := []) ⟨hx, hb, hml, hown, hts⟩ (c_M_fails l G w_5959 h D (((((μ.er' 0).er' 0).pr' (pm_K (μ.er' 0) k ((some q9 : Option Nat).bind μ.rf) (some q9)).1).mi' (pm_K (μ.er' 0) k ((some q9 : Option Nat).bind μ.rf) (some q9)).2).bt' B) hm_5962 false 2 (by decide) (by decide) (show (0 : Nat) < 3 by decide)) (cwV 2 hts (wd_gV (C := "RunKeeperModel") wi_799 wi_796 wi_798 (wd_p (q := (⟨"RunKeeperModel", "fails", "(ZI)Z"⟩, 22)) (by decide +kernel) (by decide +kernel)) wi_8) rfl rfl rfl (by decide +kernel) ⟨Nat.le_of_ble_eq_true rfl, Nat.le_of_ble_eq_true rfl⟩) (dk_preV (kn_M, kt_M, 22) hE hP hS hh_5963 rfl) rfl rfl hl.1 rfl (lv_room (Nat.le_of_ble_eq_true rfl)) de_M_get_81 ⟨(by first | exact Nat.le_of_ble_eq_true rfl | (simp only [Nat.zero_add]; omega) | omega), (by first | exact Nat.le_of_ble_eq_true rfl | (simp only [Nat.zero_add]; omega) | omega)⟩) hS (fun r_5982 w_5980 H locs hq_5981 hP hS => ?_)
            obtain ⟨hr_5983, hq_5984, hf_5985⟩ := hq_5981
            subst hr_5983
            have hm_5986 : md_at G w_5980 h D ((((((μ.er' 0).er' 0).pr' (pm_K (μ.er' 0) k ((some q9 : Option Nat).bind μ.rf) (some q9)).1).mi' (pm_K (μ.er' 0) k ((some q9 : Option Nat).bind μ.rf) (some q9)).2).bt' B).er' 0) := hq_5984
            have hh_5987 : w_5980 h = some (100, .inr (cx_M, [.int (nI 0), .int (nI μ.n), .int (nI μ.sq), .int (nI μ.sf), .int (nI μ.rs), .int (rI μ.ba), .int (nI ((pm_K (μ.er' 0) k ((some q9 : Option Nat).bind μ.rf) (some q9)).1)), .int (nI ((pm_K (μ.er' 0) k ((some q9 : Option Nat).bind μ.rf) (some q9)).2)), .ref D.kf, .ref D.nf, .ref D.rf, .ref D.lf, .ref D.sv, .ref D.bk, .ref D.od, .ref D.vf, .ref D.bv, .ref D.df, .ref D.ss, .ref D.bd, .ref D.ks, .ref D.bt])) := hm_5986.o
            have ha_5988 : w_5980 D.kf = some (101, dk_ci G 700 (fun i9 => nI (μ.kf i9))) := hm_5986.kf
            have ha_5989 : w_5980 D.nf = some (102, dk_ci G 700 (fun i9 => nI (μ.nf i9))) := hm_5986.nf
            have ha_5990 : w_5980 D.rf = some (103, dk_ci G 700 (fun i9 => rI (μ.rf i9))) := hm_5986.rf
            have ha_5991 : w_5980 D.lf = some (104, dk_ci G 5000 (fun i9 => rI (μ.lf i9))) := hm_5986.lf
            have ha_5992 : w_5980 D.sv = some (105, dk_ci G 6 (fun i9 => nI (μ.sv i9))) := hm_5986.sv
            have ha_5993 : w_5980 D.bk = some (106, dk_ci G 16 (fun i9 => nI (μ.bk i9))) := hm_5986.bk
            have ha_5994 : w_5980 D.od = some (107, dk_ci G 700 (fun i9 => nI (μ.od i9))) := hm_5986.od
            have ha_5995 : w_5980 D.vf = some (108, dk_cl G 700 (fun i9 => μ.vf i9)) := hm_5986.vf
            have ha_5996 : w_5980 D.bv = some (109, dk_cl G 16 (fun i9 => μ.bv i9)) := hm_5986.bv
            have ha_5997 : w_5980 D.df = some (110, dk_cz G 700 (fun i9 => bo_i (μ.df i9))) := hm_5986.df
            have ha_5998 : w_5980 D.ss = some (111, dk_cz G 6 (fun i9 => bo_i (μ.ss i9))) := hm_5986.ss
            have ha_5999 : w_5980 D.bd = some (112, dk_cz G 16 (fun i9 => bo_i (μ.bd i9))) := hm_5986.bd
            have ha_6000 : w_5980 D.ks = some (113, dk_cz G 700 (fun i9 => bo_i (μ.ks i9))) := hm_5986.ks
            have ha_6001 : w_5980 D.bt = some (114, dk_cz G 6000 (fun i9 => bo_i (B i9))) := hm_5986.bt
            refine bo_if_eq (b := false) (tgt := 91) hx hb de_M_get_84 (by decide) (fun c_6002 => ?_) (fun c_6002 => ?_)
            · refine lv_aload_n hx hb de_M_get_91 rfl (lv_at hl 1 rfl) ?_
              refine dk_get (a := h) (v := .ref D.vf) (C := kn_M) (T := kt_M) (N := 22) hx hb hts ki_M hown hK hP hh_5987 rfl 15 (by decide) (hts _ wi_729) (fun _ h9 => h9) rfl de_M_get_92 ?_
              refine lv_iload_n hx hb de_M_get_95 rfl (lv_at hl 0 rfl) ?_
              refine dk_lald (a := D.vf) hx hb hK hP ha_5995 q9 rfl (by omega) (by omega) de_M_get_96 ?_
              exact dk_lret hQ hx hb hr hlocks hP hS (Nat.le_refl _) (Nat.le_refl _) (⟨rfl, ⟨B, hm_5986⟩, ((((dk_fr.rf).tr ((dk_fr.up (T := md_T) hh_5802 (by unfold md_T; omega)).eq hw_5804)).tr (hf_5877)).tr (hfB)).tr (hf_5985)⟩) de_M_get_97
            · exact absurd c_6002 (by decide)
          · exact absurd c_5979 (by rw [hd]; decide)
        · exact absurd c_5894 (by decide)
      · exact absurd c_5848 (by decide)
abbrev rm_M_init : Room := { frames := 1, cells := 14, slots := 15960, locals := 20 }
set_option maxHeartbeats 4000000 in
set_option maxRecDepth 100000 in
theorem c_M_init (l : Launch) (G : dk_G) (w : dk_H) (h : Nat) (hh : w h = some (100, .inr (cx_M, [.int 0, .int 0, .int 0, .int 0, .int 0, .int 0, .int 0, .int 0, .null, .null, .null, .null, .null, .null, .null, .null, .null, .null, .null, .null, .null, .null]))) : dk_Mv l my_M_init (wd_c my_M_init mb_M_init 1 none) rm_M_init G w [.ref h] (fun w1 => ∃ D, md_at G w1 h D md_0 ∧ dk_fr md_T w w1) 14 15960 := by
  refine dk_enter (lv := [(0, .ref h)]) (by decide) (Nat.le_of_ble_eq_true rfl) rfl (fun p e s m args below meth c ls Q hQ C hP hS hl => ?_)
  obtain ⟨hx, hb, hr, hml, hlocks, hown, hnm, hts, hE⟩ := C
  have hK := hE.1
  have hN := hE.2.1
  refine lv_aload_n hx hb de_M_init_0 rfl (lv_at hl 0 rfl) ?_
  refine W.objInit hx hb hown (hts _ wi_713) (hts _ wi_30) (hts _ wi_31) rfl (by rw [hml]; exact hl.1) rfl de_M_init_1 (Nat.le_of_ble_eq_true rfl) (Nat.le_of_ble_eq_true rfl) ?_
  refine W.eq (g2 := F0 m 4 ls []) rfl ?_
  refine lv_aload_n hx hb de_M_init_4 rfl (lv_at hl 0 rfl) ?_
  refine lv_iconst (v := (-1)) hx hb de_M_init_5 (by decide) ?_
  refine dk_put (a := h) (v := .int (-1)) (ty := .int) (C := kn_M) (T := kt_M) (N := 22) hx hb hts ki_M ky_M kk_M kd_M hown hK hP hS hh rfl 5 (by decide) (hts _ wi_719) (fun _ h9 => h9) rfl (by decide +kernel) rfl rfl (Nat.le_of_ble_eq_true rfl) de_M_init_6 (fun H locs w_6003 hw_6004 hP hS => ?_)
  have h_6005 : w_6003 h = some (100, .inr (cx_M, [.int 0, .int 0, .int 0, .int 0, .int 0, .int (-1), .int 0, .int 0, .null, .null, .null, .null, .null, .null, .null, .null, .null, .null, .null, .null, .null, .null])) := dk_here hw_6004
  refine lv_aload_n hx hb de_M_init_9 rfl (lv_at hl 0 rfl) ?_
  refine lv_sipush (v := nI 700) hx hb de_M_init_10 (by decide) ?_
  refine dk_newa 101 0 (atype := .int) (ty := .int) (a0 := (700, .inl (fun _ => 0))) (N' := 700) hx hb (hts _ wi_62) rfl hK hP hS hE.2.2.2 rfl (fun U cA h => h) (fun cA => rfl) rfl (by omega) (by first | decide | (simp [componentBytes]; done) | (simp [componentBytes]; omega)) (by first | exact Nat.le_of_ble_eq_true rfl | (simp only [Nat.zero_add]; omega) | omega) (by first | exact Nat.le_of_ble_eq_true rfl | (simp only [Nat.zero_add]; omega) | omega) de_M_init_13 (fun q_6006 H w_6007 hn_6009 hw_6008 hP hS => ?_)
  have h_6010 : w_6007 q_6006 = some (101, dk_ci G 700 (fun _ => 0)) := dk_here hw_6008
  have h_6011 : w_6007 h = some (100, .inr (cx_M, [.int 0, .int 0, .int 0, .int 0, .int 0, .int (-1), .int 0, .int 0, .null, .null, .null, .null, .null, .null, .null, .null, .null, .null, .null, .null, .null, .null])) := dk_keepN hw_6008 hn_6009 h_6005
  refine dk_putF (a := h) (v := .ref q_6006) (ty := (.array .int)) (C := kn_M) (T := kt_M) (N := 22) hx hb hts ki_M ky_M kk_M kd_M hown hK hP hS h_6011 rfl 8 (by decide) (hts _ wi_722) (fun _ h9 => h9) rfl hnm rfl (by decide +kernel) rfl rfl (Nat.le_of_ble_eq_true rfl) de_M_init_15 (fun H locs w_6012 hw_6013 hP hS => ?_)
  have h_6014 : w_6012 h = some (100, .inr (cx_M, [.int 0, .int 0, .int 0, .int 0, .int 0, .int (-1), .int 0, .int 0, .ref q_6006, .null, .null, .null, .null, .null, .null, .null, .null, .null, .null, .null, .null, .null])) := dk_here hw_6013
  have h_6015 : w_6012 q_6006 = some (101, dk_ci G 700 (fun _ => 0)) := dk_keep hw_6013 h_6011 h_6010 (by decide)
  refine lv_aload_n hx hb de_M_init_18 rfl (lv_at hl 0 rfl) ?_
  refine lv_sipush (v := nI 700) hx hb de_M_init_19 (by decide) ?_
  refine dk_newa 102 0 (atype := .int) (ty := .int) (a0 := (700, .inl (fun _ => 0))) (N' := 700) hx hb (hts _ wi_62) rfl hK hP hS hE.2.2.2 rfl (fun U cA h => h) (fun cA => rfl) rfl (by omega) (by first | decide | (simp [componentBytes]; done) | (simp [componentBytes]; omega)) (by first | exact Nat.le_of_ble_eq_true rfl | (simp only [Nat.zero_add]; omega) | omega) (by first | exact Nat.le_of_ble_eq_true rfl | (simp only [Nat.zero_add]; omega) | omega) de_M_init_22 (fun q_6016 H w_6017 hn_6019 hw_6018 hP hS => ?_)
  have h_6020 : w_6017 q_6016 = some (102, dk_ci G 700 (fun _ => 0)) := dk_here hw_6018
  have h_6021 : w_6017 h = some (100, .inr (cx_M, [.int 0, .int 0, .int 0, .int 0, .int 0, .int (-1), .int 0, .int 0, .ref q_6006, .null, .null, .null, .null, .null, .null, .null, .null, .null, .null, .null, .null, .null])) := dk_keepN hw_6018 hn_6019 h_6014
  have h_6022 : w_6017 q_6006 = some (101, dk_ci G 700 (fun _ => 0)) := dk_keepN hw_6018 hn_6019 h_6015
  refine dk_putF (a := h) (v := .ref q_6016) (ty := (.array .int)) (C := kn_M) (T := kt_M) (N := 22) hx hb hts ki_M ky_M kk_M kd_M hown hK hP hS h_6021 rfl 9 (by decide) (hts _ wi_723) (fun _ h9 => h9) rfl hnm rfl (by decide +kernel) rfl rfl (Nat.le_of_ble_eq_true rfl) de_M_init_24 (fun H locs w_6023 hw_6024 hP hS => ?_)
  have h_6025 : w_6023 h = some (100, .inr (cx_M, [.int 0, .int 0, .int 0, .int 0, .int 0, .int (-1), .int 0, .int 0, .ref q_6006, .ref q_6016, .null, .null, .null, .null, .null, .null, .null, .null, .null, .null, .null, .null])) := dk_here hw_6024
  have h_6026 : w_6023 q_6006 = some (101, dk_ci G 700 (fun _ => 0)) := dk_keep hw_6024 h_6021 h_6022 (by decide)
  have h_6027 : w_6023 q_6016 = some (102, dk_ci G 700 (fun _ => 0)) := dk_keep hw_6024 h_6021 h_6020 (by decide)
  refine lv_aload_n hx hb de_M_init_27 rfl (lv_at hl 0 rfl) ?_
  refine lv_sipush (v := nI 700) hx hb de_M_init_28 (by decide) ?_
  refine dk_newa 103 0 (atype := .int) (ty := .int) (a0 := (700, .inl (fun _ => 0))) (N' := 700) hx hb (hts _ wi_62) rfl hK hP hS hE.2.2.2 rfl (fun U cA h => h) (fun cA => rfl) rfl (by omega) (by first | decide | (simp [componentBytes]; done) | (simp [componentBytes]; omega)) (by first | exact Nat.le_of_ble_eq_true rfl | (simp only [Nat.zero_add]; omega) | omega) (by first | exact Nat.le_of_ble_eq_true rfl | (simp only [Nat.zero_add]; omega) | omega) de_M_init_31 (fun q_6028 H w_6029 hn_6031 hw_6030 hP hS => ?_)
  have h_6032 : w_6029 q_6028 = some (103, dk_ci G 700 (fun _ => 0)) := dk_here hw_6030
  have h_6033 : w_6029 h = some (100, .inr (cx_M, [.int 0, .int 0, .int 0, .int 0, .int 0, .int (-1), .int 0, .int 0, .ref q_6006, .ref q_6016, .null, .null, .null, .null, .null, .null, .null, .null, .null, .null, .null, .null])) := dk_keepN hw_6030 hn_6031 h_6025
  have h_6034 : w_6029 q_6006 = some (101, dk_ci G 700 (fun _ => 0)) := dk_keepN hw_6030 hn_6031 h_6026
  have h_6035 : w_6029 q_6016 = some (102, dk_ci G 700 (fun _ => 0)) := dk_keepN hw_6030 hn_6031 h_6027
  refine dk_putF (a := h) (v := .ref q_6028) (ty := (.array .int)) (C := kn_M) (T := kt_M) (N := 22) hx hb hts ki_M ky_M kk_M kd_M hown hK hP hS h_6033 rfl 10 (by decide) (hts _ wi_724) (fun _ h9 => h9) rfl hnm rfl (by decide +kernel) rfl rfl (Nat.le_of_ble_eq_true rfl) de_M_init_33 (fun H locs w_6036 hw_6037 hP hS => ?_)
  have h_6038 : w_6036 h = some (100, .inr (cx_M, [.int 0, .int 0, .int 0, .int 0, .int 0, .int (-1), .int 0, .int 0, .ref q_6006, .ref q_6016, .ref q_6028, .null, .null, .null, .null, .null, .null, .null, .null, .null, .null, .null])) := dk_here hw_6037
  have h_6039 : w_6036 q_6006 = some (101, dk_ci G 700 (fun _ => 0)) := dk_keep hw_6037 h_6033 h_6034 (by decide)
  have h_6040 : w_6036 q_6016 = some (102, dk_ci G 700 (fun _ => 0)) := dk_keep hw_6037 h_6033 h_6035 (by decide)
  have h_6041 : w_6036 q_6028 = some (103, dk_ci G 700 (fun _ => 0)) := dk_keep hw_6037 h_6033 h_6032 (by decide)
  refine lv_aload_n hx hb de_M_init_36 rfl (lv_at hl 0 rfl) ?_
  refine lv_sipush (v := nI 5000) hx hb de_M_init_37 (by decide) ?_
  refine dk_newa 104 0 (atype := .int) (ty := .int) (a0 := (5000, .inl (fun _ => 0))) (N' := 5000) hx hb (hts _ wi_62) rfl hK hP hS hE.2.2.2 rfl (fun U cA h => h) (fun cA => rfl) rfl (by omega) (by first | decide | (simp [componentBytes]; done) | (simp [componentBytes]; omega)) (by first | exact Nat.le_of_ble_eq_true rfl | (simp only [Nat.zero_add]; omega) | omega) (by first | exact Nat.le_of_ble_eq_true rfl | (simp only [Nat.zero_add]; omega) | omega) de_M_init_40 (fun q_6042 H w_6043 hn_6045 hw_6044 hP hS => ?_)
  have h_6046 : w_6043 q_6042 = some (104, dk_ci G 5000 (fun _ => 0)) := dk_here hw_6044
  have h_6047 : w_6043 h = some (100, .inr (cx_M, [.int 0, .int 0, .int 0, .int 0, .int 0, .int (-1), .int 0, .int 0, .ref q_6006, .ref q_6016, .ref q_6028, .null, .null, .null, .null, .null, .null, .null, .null, .null, .null, .null])) := dk_keepN hw_6044 hn_6045 h_6038
  have h_6048 : w_6043 q_6006 = some (101, dk_ci G 700 (fun _ => 0)) := dk_keepN hw_6044 hn_6045 h_6039
  have h_6049 : w_6043 q_6016 = some (102, dk_ci G 700 (fun _ => 0)) := dk_keepN hw_6044 hn_6045 h_6040
  have h_6050 : w_6043 q_6028 = some (103, dk_ci G 700 (fun _ => 0)) := dk_keepN hw_6044 hn_6045 h_6041
  refine dk_putF (a := h) (v := .ref q_6042) (ty := (.array .int)) (C := kn_M) (T := kt_M) (N := 22) hx hb hts ki_M ky_M kk_M kd_M hown hK hP hS h_6047 rfl 11 (by decide) (hts _ wi_725) (fun _ h9 => h9) rfl hnm rfl (by decide +kernel) rfl rfl (Nat.le_of_ble_eq_true rfl) de_M_init_42 (fun H locs w_6051 hw_6052 hP hS => ?_)
  have h_6053 : w_6051 h = some (100, .inr (cx_M, [.int 0, .int 0, .int 0, .int 0, .int 0, .int (-1), .int 0, .int 0, .ref q_6006, .ref q_6016, .ref q_6028, .ref q_6042, .null, .null, .null, .null, .null, .null, .null, .null, .null, .null])) := dk_here hw_6052
  have h_6054 : w_6051 q_6006 = some (101, dk_ci G 700 (fun _ => 0)) := dk_keep hw_6052 h_6047 h_6048 (by decide)
  have h_6055 : w_6051 q_6016 = some (102, dk_ci G 700 (fun _ => 0)) := dk_keep hw_6052 h_6047 h_6049 (by decide)
  have h_6056 : w_6051 q_6028 = some (103, dk_ci G 700 (fun _ => 0)) := dk_keep hw_6052 h_6047 h_6050 (by decide)
  have h_6057 : w_6051 q_6042 = some (104, dk_ci G 5000 (fun _ => 0)) := dk_keep hw_6052 h_6047 h_6046 (by decide)
  refine lv_aload_n hx hb de_M_init_45 rfl (lv_at hl 0 rfl) ?_
  refine lv_bipush (v := nI 6) hx hb de_M_init_46 (by decide) ?_
  refine dk_newa 105 0 (atype := .int) (ty := .int) (a0 := (6, .inl (fun _ => 0))) (N' := 6) hx hb (hts _ wi_62) rfl hK hP hS hE.2.2.2 rfl (fun U cA h => h) (fun cA => rfl) rfl (by omega) (by first | decide | (simp [componentBytes]; done) | (simp [componentBytes]; omega)) (by first | exact Nat.le_of_ble_eq_true rfl | (simp only [Nat.zero_add]; omega) | omega) (by first | exact Nat.le_of_ble_eq_true rfl | (simp only [Nat.zero_add]; omega) | omega) de_M_init_48 (fun q_6058 H w_6059 hn_6061 hw_6060 hP hS => ?_)
  have h_6062 : w_6059 q_6058 = some (105, dk_ci G 6 (fun _ => 0)) := dk_here hw_6060
  have h_6063 : w_6059 h = some (100, .inr (cx_M, [.int 0, .int 0, .int 0, .int 0, .int 0, .int (-1), .int 0, .int 0, .ref q_6006, .ref q_6016, .ref q_6028, .ref q_6042, .null, .null, .null, .null, .null, .null, .null, .null, .null, .null])) := dk_keepN hw_6060 hn_6061 h_6053
  have h_6064 : w_6059 q_6006 = some (101, dk_ci G 700 (fun _ => 0)) := dk_keepN hw_6060 hn_6061 h_6054
  have h_6065 : w_6059 q_6016 = some (102, dk_ci G 700 (fun _ => 0)) := dk_keepN hw_6060 hn_6061 h_6055
  have h_6066 : w_6059 q_6028 = some (103, dk_ci G 700 (fun _ => 0)) := dk_keepN hw_6060 hn_6061 h_6056
  have h_6067 : w_6059 q_6042 = some (104, dk_ci G 5000 (fun _ => 0)) := dk_keepN hw_6060 hn_6061 h_6057
  refine dk_putF (a := h) (v := .ref q_6058) (ty := (.array .int)) (C := kn_M) (T := kt_M) (N := 22) hx hb hts ki_M ky_M kk_M kd_M hown hK hP hS h_6063 rfl 12 (by decide) (hts _ wi_726) (fun _ h9 => h9) rfl hnm rfl (by decide +kernel) rfl rfl (Nat.le_of_ble_eq_true rfl) de_M_init_50 (fun H locs w_6068 hw_6069 hP hS => ?_)
  have h_6070 : w_6068 h = some (100, .inr (cx_M, [.int 0, .int 0, .int 0, .int 0, .int 0, .int (-1), .int 0, .int 0, .ref q_6006, .ref q_6016, .ref q_6028, .ref q_6042, .ref q_6058, .null, .null, .null, .null, .null, .null, .null, .null, .null])) := dk_here hw_6069
  have h_6071 : w_6068 q_6006 = some (101, dk_ci G 700 (fun _ => 0)) := dk_keep hw_6069 h_6063 h_6064 (by decide)
  have h_6072 : w_6068 q_6016 = some (102, dk_ci G 700 (fun _ => 0)) := dk_keep hw_6069 h_6063 h_6065 (by decide)
  have h_6073 : w_6068 q_6028 = some (103, dk_ci G 700 (fun _ => 0)) := dk_keep hw_6069 h_6063 h_6066 (by decide)
  have h_6074 : w_6068 q_6042 = some (104, dk_ci G 5000 (fun _ => 0)) := dk_keep hw_6069 h_6063 h_6067 (by decide)
  have h_6075 : w_6068 q_6058 = some (105, dk_ci G 6 (fun _ => 0)) := dk_keep hw_6069 h_6063 h_6062 (by decide)
  refine lv_aload_n hx hb de_M_init_53 rfl (lv_at hl 0 rfl) ?_
  refine lv_bipush (v := nI 16) hx hb de_M_init_54 (by decide) ?_
  refine dk_newa 106 0 (atype := .int) (ty := .int) (a0 := (16, .inl (fun _ => 0))) (N' := 16) hx hb (hts _ wi_62) rfl hK hP hS hE.2.2.2 rfl (fun U cA h => h) (fun cA => rfl) rfl (by omega) (by first | decide | (simp [componentBytes]; done) | (simp [componentBytes]; omega)) (by first | exact Nat.le_of_ble_eq_true rfl | (simp only [Nat.zero_add]; omega) | omega) (by first | exact Nat.le_of_ble_eq_true rfl | (simp only [Nat.zero_add]; omega) | omega) de_M_init_56 (fun q_6076 H w_6077 hn_6079 hw_6078 hP hS => ?_)
  have h_6080 : w_6077 q_6076 = some (106, dk_ci G 16 (fun _ => 0)) := dk_here hw_6078
  have h_6081 : w_6077 h = some (100, .inr (cx_M, [.int 0, .int 0, .int 0, .int 0, .int 0, .int (-1), .int 0, .int 0, .ref q_6006, .ref q_6016, .ref q_6028, .ref q_6042, .ref q_6058, .null, .null, .null, .null, .null, .null, .null, .null, .null])) := dk_keepN hw_6078 hn_6079 h_6070
  have h_6082 : w_6077 q_6006 = some (101, dk_ci G 700 (fun _ => 0)) := dk_keepN hw_6078 hn_6079 h_6071
  have h_6083 : w_6077 q_6016 = some (102, dk_ci G 700 (fun _ => 0)) := dk_keepN hw_6078 hn_6079 h_6072
  have h_6084 : w_6077 q_6028 = some (103, dk_ci G 700 (fun _ => 0)) := dk_keepN hw_6078 hn_6079 h_6073
  have h_6085 : w_6077 q_6042 = some (104, dk_ci G 5000 (fun _ => 0)) := dk_keepN hw_6078 hn_6079 h_6074
  have h_6086 : w_6077 q_6058 = some (105, dk_ci G 6 (fun _ => 0)) := dk_keepN hw_6078 hn_6079 h_6075
  refine dk_putF (a := h) (v := .ref q_6076) (ty := (.array .int)) (C := kn_M) (T := kt_M) (N := 22) hx hb hts ki_M ky_M kk_M kd_M hown hK hP hS h_6081 rfl 13 (by decide) (hts _ wi_727) (fun _ h9 => h9) rfl hnm rfl (by decide +kernel) rfl rfl (Nat.le_of_ble_eq_true rfl) de_M_init_58 (fun H locs w_6087 hw_6088 hP hS => ?_)
  have h_6089 : w_6087 h = some (100, .inr (cx_M, [.int 0, .int 0, .int 0, .int 0, .int 0, .int (-1), .int 0, .int 0, .ref q_6006, .ref q_6016, .ref q_6028, .ref q_6042, .ref q_6058, .ref q_6076, .null, .null, .null, .null, .null, .null, .null, .null])) := dk_here hw_6088
  have h_6090 : w_6087 q_6006 = some (101, dk_ci G 700 (fun _ => 0)) := dk_keep hw_6088 h_6081 h_6082 (by decide)
  have h_6091 : w_6087 q_6016 = some (102, dk_ci G 700 (fun _ => 0)) := dk_keep hw_6088 h_6081 h_6083 (by decide)
  have h_6092 : w_6087 q_6028 = some (103, dk_ci G 700 (fun _ => 0)) := dk_keep hw_6088 h_6081 h_6084 (by decide)
  have h_6093 : w_6087 q_6042 = some (104, dk_ci G 5000 (fun _ => 0)) := dk_keep hw_6088 h_6081 h_6085 (by decide)
  have h_6094 : w_6087 q_6058 = some (105, dk_ci G 6 (fun _ => 0)) := dk_keep hw_6088 h_6081 h_6086 (by decide)
  have h_6095 : w_6087 q_6076 = some (106, dk_ci G 16 (fun _ => 0)) := dk_keep hw_6088 h_6081 h_6080 (by decide)
  refine lv_aload_n hx hb de_M_init_61 rfl (lv_at hl 0 rfl) ?_
  refine lv_sipush (v := nI 700) hx hb de_M_init_62 (by decide) ?_
  refine dk_newa 107 0 (atype := .int) (ty := .int) (a0 := (700, .inl (fun _ => 0))) (N' := 700) hx hb (hts _ wi_62) rfl hK hP hS hE.2.2.2 rfl (fun U cA h => h) (fun cA => rfl) rfl (by omega) (by first | decide | (simp [componentBytes]; done) | (simp [componentBytes]; omega)) (by first | exact Nat.le_of_ble_eq_true rfl | (simp only [Nat.zero_add]; omega) | omega) (by first | exact Nat.le_of_ble_eq_true rfl | (simp only [Nat.zero_add]; omega) | omega) de_M_init_65 (fun q_6096 H w_6097 hn_6099 hw_6098 hP hS => ?_)
  have h_6100 : w_6097 q_6096 = some (107, dk_ci G 700 (fun _ => 0)) := dk_here hw_6098
  have h_6101 : w_6097 h = some (100, .inr (cx_M, [.int 0, .int 0, .int 0, .int 0, .int 0, .int (-1), .int 0, .int 0, .ref q_6006, .ref q_6016, .ref q_6028, .ref q_6042, .ref q_6058, .ref q_6076, .null, .null, .null, .null, .null, .null, .null, .null])) := dk_keepN hw_6098 hn_6099 h_6089
  have h_6102 : w_6097 q_6006 = some (101, dk_ci G 700 (fun _ => 0)) := dk_keepN hw_6098 hn_6099 h_6090
  have h_6103 : w_6097 q_6016 = some (102, dk_ci G 700 (fun _ => 0)) := dk_keepN hw_6098 hn_6099 h_6091
  have h_6104 : w_6097 q_6028 = some (103, dk_ci G 700 (fun _ => 0)) := dk_keepN hw_6098 hn_6099 h_6092
  have h_6105 : w_6097 q_6042 = some (104, dk_ci G 5000 (fun _ => 0)) := dk_keepN hw_6098 hn_6099 h_6093
  have h_6106 : w_6097 q_6058 = some (105, dk_ci G 6 (fun _ => 0)) := dk_keepN hw_6098 hn_6099 h_6094
  have h_6107 : w_6097 q_6076 = some (106, dk_ci G 16 (fun _ => 0)) := dk_keepN hw_6098 hn_6099 h_6095
  refine dk_putF (a := h) (v := .ref q_6096) (ty := (.array .int)) (C := kn_M) (T := kt_M) (N := 22) hx hb hts ki_M ky_M kk_M kd_M hown hK hP hS h_6101 rfl 14 (by decide) (hts _ wi_728) (fun _ h9 => h9) rfl hnm rfl (by decide +kernel) rfl rfl (Nat.le_of_ble_eq_true rfl) de_M_init_67 (fun H locs w_6108 hw_6109 hP hS => ?_)
  have h_6110 : w_6108 h = some (100, .inr (cx_M, [.int 0, .int 0, .int 0, .int 0, .int 0, .int (-1), .int 0, .int 0, .ref q_6006, .ref q_6016, .ref q_6028, .ref q_6042, .ref q_6058, .ref q_6076, .ref q_6096, .null, .null, .null, .null, .null, .null, .null])) := dk_here hw_6109
  have h_6111 : w_6108 q_6006 = some (101, dk_ci G 700 (fun _ => 0)) := dk_keep hw_6109 h_6101 h_6102 (by decide)
  have h_6112 : w_6108 q_6016 = some (102, dk_ci G 700 (fun _ => 0)) := dk_keep hw_6109 h_6101 h_6103 (by decide)
  have h_6113 : w_6108 q_6028 = some (103, dk_ci G 700 (fun _ => 0)) := dk_keep hw_6109 h_6101 h_6104 (by decide)
  have h_6114 : w_6108 q_6042 = some (104, dk_ci G 5000 (fun _ => 0)) := dk_keep hw_6109 h_6101 h_6105 (by decide)
  have h_6115 : w_6108 q_6058 = some (105, dk_ci G 6 (fun _ => 0)) := dk_keep hw_6109 h_6101 h_6106 (by decide)
  have h_6116 : w_6108 q_6076 = some (106, dk_ci G 16 (fun _ => 0)) := dk_keep hw_6109 h_6101 h_6107 (by decide)
  have h_6117 : w_6108 q_6096 = some (107, dk_ci G 700 (fun _ => 0)) := dk_keep hw_6109 h_6101 h_6100 (by decide)
  refine lv_aload_n hx hb de_M_init_70 rfl (lv_at hl 0 rfl) ?_
  refine lv_sipush (v := nI 700) hx hb de_M_init_71 (by decide) ?_
  refine dk_newa 108 1 (atype := .long) (ty := .long) (a0 := (700, .inr (.inl (fun _ => 0)))) (N' := 700) hx hb (hts _ wi_207) rfl hK hP hS hE.2.2.2 rfl (fun U cA h => h) (fun cA => rfl) rfl (by omega) (by first | decide | (simp [componentBytes]; done) | (simp [componentBytes]; omega)) (by first | exact Nat.le_of_ble_eq_true rfl | (simp only [Nat.zero_add]; omega) | omega) (by first | exact Nat.le_of_ble_eq_true rfl | (simp only [Nat.zero_add]; omega) | omega) de_M_init_74 (fun q_6118 H w_6119 hn_6121 hw_6120 hP hS => ?_)
  have h_6122 : w_6119 q_6118 = some (108, dk_cl G 700 (fun _ => 0)) := dk_here hw_6120
  have h_6123 : w_6119 h = some (100, .inr (cx_M, [.int 0, .int 0, .int 0, .int 0, .int 0, .int (-1), .int 0, .int 0, .ref q_6006, .ref q_6016, .ref q_6028, .ref q_6042, .ref q_6058, .ref q_6076, .ref q_6096, .null, .null, .null, .null, .null, .null, .null])) := dk_keepN hw_6120 hn_6121 h_6110
  have h_6124 : w_6119 q_6006 = some (101, dk_ci G 700 (fun _ => 0)) := dk_keepN hw_6120 hn_6121 h_6111
  have h_6125 : w_6119 q_6016 = some (102, dk_ci G 700 (fun _ => 0)) := dk_keepN hw_6120 hn_6121 h_6112
  have h_6126 : w_6119 q_6028 = some (103, dk_ci G 700 (fun _ => 0)) := dk_keepN hw_6120 hn_6121 h_6113
  have h_6127 : w_6119 q_6042 = some (104, dk_ci G 5000 (fun _ => 0)) := dk_keepN hw_6120 hn_6121 h_6114
  have h_6128 : w_6119 q_6058 = some (105, dk_ci G 6 (fun _ => 0)) := dk_keepN hw_6120 hn_6121 h_6115
  have h_6129 : w_6119 q_6076 = some (106, dk_ci G 16 (fun _ => 0)) := dk_keepN hw_6120 hn_6121 h_6116
  have h_6130 : w_6119 q_6096 = some (107, dk_ci G 700 (fun _ => 0)) := dk_keepN hw_6120 hn_6121 h_6117
  refine dk_putF (a := h) (v := .ref q_6118) (ty := (.array .long)) (C := kn_M) (T := kt_M) (N := 22) hx hb hts ki_M ky_M kk_M kd_M hown hK hP hS h_6123 rfl 15 (by decide) (hts _ wi_729) (fun _ h9 => h9) rfl hnm rfl (by decide +kernel) rfl rfl (Nat.le_of_ble_eq_true rfl) de_M_init_76 (fun H locs w_6131 hw_6132 hP hS => ?_)
  have h_6133 : w_6131 h = some (100, .inr (cx_M, [.int 0, .int 0, .int 0, .int 0, .int 0, .int (-1), .int 0, .int 0, .ref q_6006, .ref q_6016, .ref q_6028, .ref q_6042, .ref q_6058, .ref q_6076, .ref q_6096, .ref q_6118, .null, .null, .null, .null, .null, .null])) := dk_here hw_6132
  have h_6134 : w_6131 q_6006 = some (101, dk_ci G 700 (fun _ => 0)) := dk_keep hw_6132 h_6123 h_6124 (by decide)
  have h_6135 : w_6131 q_6016 = some (102, dk_ci G 700 (fun _ => 0)) := dk_keep hw_6132 h_6123 h_6125 (by decide)
  have h_6136 : w_6131 q_6028 = some (103, dk_ci G 700 (fun _ => 0)) := dk_keep hw_6132 h_6123 h_6126 (by decide)
  have h_6137 : w_6131 q_6042 = some (104, dk_ci G 5000 (fun _ => 0)) := dk_keep hw_6132 h_6123 h_6127 (by decide)
  have h_6138 : w_6131 q_6058 = some (105, dk_ci G 6 (fun _ => 0)) := dk_keep hw_6132 h_6123 h_6128 (by decide)
  have h_6139 : w_6131 q_6076 = some (106, dk_ci G 16 (fun _ => 0)) := dk_keep hw_6132 h_6123 h_6129 (by decide)
  have h_6140 : w_6131 q_6096 = some (107, dk_ci G 700 (fun _ => 0)) := dk_keep hw_6132 h_6123 h_6130 (by decide)
  have h_6141 : w_6131 q_6118 = some (108, dk_cl G 700 (fun _ => 0)) := dk_keep hw_6132 h_6123 h_6122 (by decide)
  refine lv_aload_n hx hb de_M_init_79 rfl (lv_at hl 0 rfl) ?_
  refine lv_bipush (v := nI 16) hx hb de_M_init_80 (by decide) ?_
  refine dk_newa 109 1 (atype := .long) (ty := .long) (a0 := (16, .inr (.inl (fun _ => 0)))) (N' := 16) hx hb (hts _ wi_207) rfl hK hP hS hE.2.2.2 rfl (fun U cA h => h) (fun cA => rfl) rfl (by omega) (by first | decide | (simp [componentBytes]; done) | (simp [componentBytes]; omega)) (by first | exact Nat.le_of_ble_eq_true rfl | (simp only [Nat.zero_add]; omega) | omega) (by first | exact Nat.le_of_ble_eq_true rfl | (simp only [Nat.zero_add]; omega) | omega) de_M_init_82 (fun q_6142 H w_6143 hn_6145 hw_6144 hP hS => ?_)
  have h_6146 : w_6143 q_6142 = some (109, dk_cl G 16 (fun _ => 0)) := dk_here hw_6144
  have h_6147 : w_6143 h = some (100, .inr (cx_M, [.int 0, .int 0, .int 0, .int 0, .int 0, .int (-1), .int 0, .int 0, .ref q_6006, .ref q_6016, .ref q_6028, .ref q_6042, .ref q_6058, .ref q_6076, .ref q_6096, .ref q_6118, .null, .null, .null, .null, .null, .null])) := dk_keepN hw_6144 hn_6145 h_6133
  have h_6148 : w_6143 q_6006 = some (101, dk_ci G 700 (fun _ => 0)) := dk_keepN hw_6144 hn_6145 h_6134
  have h_6149 : w_6143 q_6016 = some (102, dk_ci G 700 (fun _ => 0)) := dk_keepN hw_6144 hn_6145 h_6135
  have h_6150 : w_6143 q_6028 = some (103, dk_ci G 700 (fun _ => 0)) := dk_keepN hw_6144 hn_6145 h_6136
  have h_6151 : w_6143 q_6042 = some (104, dk_ci G 5000 (fun _ => 0)) := dk_keepN hw_6144 hn_6145 h_6137
  have h_6152 : w_6143 q_6058 = some (105, dk_ci G 6 (fun _ => 0)) := dk_keepN hw_6144 hn_6145 h_6138
  have h_6153 : w_6143 q_6076 = some (106, dk_ci G 16 (fun _ => 0)) := dk_keepN hw_6144 hn_6145 h_6139
  have h_6154 : w_6143 q_6096 = some (107, dk_ci G 700 (fun _ => 0)) := dk_keepN hw_6144 hn_6145 h_6140
  have h_6155 : w_6143 q_6118 = some (108, dk_cl G 700 (fun _ => 0)) := dk_keepN hw_6144 hn_6145 h_6141
  refine dk_putF (a := h) (v := .ref q_6142) (ty := (.array .long)) (C := kn_M) (T := kt_M) (N := 22) hx hb hts ki_M ky_M kk_M kd_M hown hK hP hS h_6147 rfl 16 (by decide) (hts _ wi_730) (fun _ h9 => h9) rfl hnm rfl (by decide +kernel) rfl rfl (Nat.le_of_ble_eq_true rfl) de_M_init_84 (fun H locs w_6156 hw_6157 hP hS => ?_)
  have h_6158 : w_6156 h = some (100, .inr (cx_M, [.int 0, .int 0, .int 0, .int 0, .int 0, .int (-1), .int 0, .int 0, .ref q_6006, .ref q_6016, .ref q_6028, .ref q_6042, .ref q_6058, .ref q_6076, .ref q_6096, .ref q_6118, .ref q_6142, .null, .null, .null, .null, .null])) := dk_here hw_6157
  have h_6159 : w_6156 q_6006 = some (101, dk_ci G 700 (fun _ => 0)) := dk_keep hw_6157 h_6147 h_6148 (by decide)
  have h_6160 : w_6156 q_6016 = some (102, dk_ci G 700 (fun _ => 0)) := dk_keep hw_6157 h_6147 h_6149 (by decide)
  have h_6161 : w_6156 q_6028 = some (103, dk_ci G 700 (fun _ => 0)) := dk_keep hw_6157 h_6147 h_6150 (by decide)
  have h_6162 : w_6156 q_6042 = some (104, dk_ci G 5000 (fun _ => 0)) := dk_keep hw_6157 h_6147 h_6151 (by decide)
  have h_6163 : w_6156 q_6058 = some (105, dk_ci G 6 (fun _ => 0)) := dk_keep hw_6157 h_6147 h_6152 (by decide)
  have h_6164 : w_6156 q_6076 = some (106, dk_ci G 16 (fun _ => 0)) := dk_keep hw_6157 h_6147 h_6153 (by decide)
  have h_6165 : w_6156 q_6096 = some (107, dk_ci G 700 (fun _ => 0)) := dk_keep hw_6157 h_6147 h_6154 (by decide)
  have h_6166 : w_6156 q_6118 = some (108, dk_cl G 700 (fun _ => 0)) := dk_keep hw_6157 h_6147 h_6155 (by decide)
  have h_6167 : w_6156 q_6142 = some (109, dk_cl G 16 (fun _ => 0)) := dk_keep hw_6157 h_6147 h_6146 (by decide)
  refine lv_aload_n hx hb de_M_init_87 rfl (lv_at hl 0 rfl) ?_
  refine lv_sipush (v := nI 700) hx hb de_M_init_88 (by decide) ?_
  refine dk_newa 110 2 (atype := .boolean) (ty := .boolean) (a0 := (700, .inl (fun _ => 0))) (N' := 700) hx hb (hts _ wi_63) rfl hK hP hS hE.2.2.2 rfl (fun U cA h => h) (fun cA => rfl) rfl (by omega) (by first | decide | (simp [componentBytes]; done) | (simp [componentBytes]; omega)) (by first | exact Nat.le_of_ble_eq_true rfl | (simp only [Nat.zero_add]; omega) | omega) (by first | exact Nat.le_of_ble_eq_true rfl | (simp only [Nat.zero_add]; omega) | omega) de_M_init_91 (fun q_6168 H w_6169 hn_6171 hw_6170 hP hS => ?_)
  have h_6172 : w_6169 q_6168 = some (110, dk_cz G 700 (fun _ => 0)) := dk_here hw_6170
  have h_6173 : w_6169 h = some (100, .inr (cx_M, [.int 0, .int 0, .int 0, .int 0, .int 0, .int (-1), .int 0, .int 0, .ref q_6006, .ref q_6016, .ref q_6028, .ref q_6042, .ref q_6058, .ref q_6076, .ref q_6096, .ref q_6118, .ref q_6142, .null, .null, .null, .null, .null])) := dk_keepN hw_6170 hn_6171 h_6158
  have h_6174 : w_6169 q_6006 = some (101, dk_ci G 700 (fun _ => 0)) := dk_keepN hw_6170 hn_6171 h_6159
  have h_6175 : w_6169 q_6016 = some (102, dk_ci G 700 (fun _ => 0)) := dk_keepN hw_6170 hn_6171 h_6160
  have h_6176 : w_6169 q_6028 = some (103, dk_ci G 700 (fun _ => 0)) := dk_keepN hw_6170 hn_6171 h_6161
  have h_6177 : w_6169 q_6042 = some (104, dk_ci G 5000 (fun _ => 0)) := dk_keepN hw_6170 hn_6171 h_6162
  have h_6178 : w_6169 q_6058 = some (105, dk_ci G 6 (fun _ => 0)) := dk_keepN hw_6170 hn_6171 h_6163
  have h_6179 : w_6169 q_6076 = some (106, dk_ci G 16 (fun _ => 0)) := dk_keepN hw_6170 hn_6171 h_6164
  have h_6180 : w_6169 q_6096 = some (107, dk_ci G 700 (fun _ => 0)) := dk_keepN hw_6170 hn_6171 h_6165
  have h_6181 : w_6169 q_6118 = some (108, dk_cl G 700 (fun _ => 0)) := dk_keepN hw_6170 hn_6171 h_6166
  have h_6182 : w_6169 q_6142 = some (109, dk_cl G 16 (fun _ => 0)) := dk_keepN hw_6170 hn_6171 h_6167
  refine dk_putF (a := h) (v := .ref q_6168) (ty := (.array .boolean)) (C := kn_M) (T := kt_M) (N := 22) hx hb hts ki_M ky_M kk_M kd_M hown hK hP hS h_6173 rfl 17 (by decide) (hts _ wi_731) (fun _ h9 => h9) rfl hnm rfl (by decide +kernel) rfl rfl (Nat.le_of_ble_eq_true rfl) de_M_init_93 (fun H locs w_6183 hw_6184 hP hS => ?_)
  have h_6185 : w_6183 h = some (100, .inr (cx_M, [.int 0, .int 0, .int 0, .int 0, .int 0, .int (-1), .int 0, .int 0, .ref q_6006, .ref q_6016, .ref q_6028, .ref q_6042, .ref q_6058, .ref q_6076, .ref q_6096, .ref q_6118, .ref q_6142, .ref q_6168, .null, .null, .null, .null])) := dk_here hw_6184
  have h_6186 : w_6183 q_6006 = some (101, dk_ci G 700 (fun _ => 0)) := dk_keep hw_6184 h_6173 h_6174 (by decide)
  have h_6187 : w_6183 q_6016 = some (102, dk_ci G 700 (fun _ => 0)) := dk_keep hw_6184 h_6173 h_6175 (by decide)
  have h_6188 : w_6183 q_6028 = some (103, dk_ci G 700 (fun _ => 0)) := dk_keep hw_6184 h_6173 h_6176 (by decide)
  have h_6189 : w_6183 q_6042 = some (104, dk_ci G 5000 (fun _ => 0)) := dk_keep hw_6184 h_6173 h_6177 (by decide)
  have h_6190 : w_6183 q_6058 = some (105, dk_ci G 6 (fun _ => 0)) := dk_keep hw_6184 h_6173 h_6178 (by decide)
  have h_6191 : w_6183 q_6076 = some (106, dk_ci G 16 (fun _ => 0)) := dk_keep hw_6184 h_6173 h_6179 (by decide)
  have h_6192 : w_6183 q_6096 = some (107, dk_ci G 700 (fun _ => 0)) := dk_keep hw_6184 h_6173 h_6180 (by decide)
  have h_6193 : w_6183 q_6118 = some (108, dk_cl G 700 (fun _ => 0)) := dk_keep hw_6184 h_6173 h_6181 (by decide)
  have h_6194 : w_6183 q_6142 = some (109, dk_cl G 16 (fun _ => 0)) := dk_keep hw_6184 h_6173 h_6182 (by decide)
  have h_6195 : w_6183 q_6168 = some (110, dk_cz G 700 (fun _ => 0)) := dk_keep hw_6184 h_6173 h_6172 (by decide)
  refine lv_aload_n hx hb de_M_init_96 rfl (lv_at hl 0 rfl) ?_
  refine lv_bipush (v := nI 6) hx hb de_M_init_97 (by decide) ?_
  refine dk_newa 111 2 (atype := .boolean) (ty := .boolean) (a0 := (6, .inl (fun _ => 0))) (N' := 6) hx hb (hts _ wi_63) rfl hK hP hS hE.2.2.2 rfl (fun U cA h => h) (fun cA => rfl) rfl (by omega) (by first | decide | (simp [componentBytes]; done) | (simp [componentBytes]; omega)) (by first | exact Nat.le_of_ble_eq_true rfl | (simp only [Nat.zero_add]; omega) | omega) (by first | exact Nat.le_of_ble_eq_true rfl | (simp only [Nat.zero_add]; omega) | omega) de_M_init_99 (fun q_6196 H w_6197 hn_6199 hw_6198 hP hS => ?_)
  have h_6200 : w_6197 q_6196 = some (111, dk_cz G 6 (fun _ => 0)) := dk_here hw_6198
  have h_6201 : w_6197 h = some (100, .inr (cx_M, [.int 0, .int 0, .int 0, .int 0, .int 0, .int (-1), .int 0, .int 0, .ref q_6006, .ref q_6016, .ref q_6028, .ref q_6042, .ref q_6058, .ref q_6076, .ref q_6096, .ref q_6118, .ref q_6142, .ref q_6168, .null, .null, .null, .null])) := dk_keepN hw_6198 hn_6199 h_6185
  have h_6202 : w_6197 q_6006 = some (101, dk_ci G 700 (fun _ => 0)) := dk_keepN hw_6198 hn_6199 h_6186
  have h_6203 : w_6197 q_6016 = some (102, dk_ci G 700 (fun _ => 0)) := dk_keepN hw_6198 hn_6199 h_6187
  have h_6204 : w_6197 q_6028 = some (103, dk_ci G 700 (fun _ => 0)) := dk_keepN hw_6198 hn_6199 h_6188
  have h_6205 : w_6197 q_6042 = some (104, dk_ci G 5000 (fun _ => 0)) := dk_keepN hw_6198 hn_6199 h_6189
  have h_6206 : w_6197 q_6058 = some (105, dk_ci G 6 (fun _ => 0)) := dk_keepN hw_6198 hn_6199 h_6190
  have h_6207 : w_6197 q_6076 = some (106, dk_ci G 16 (fun _ => 0)) := dk_keepN hw_6198 hn_6199 h_6191
  have h_6208 : w_6197 q_6096 = some (107, dk_ci G 700 (fun _ => 0)) := dk_keepN hw_6198 hn_6199 h_6192
  have h_6209 : w_6197 q_6118 = some (108, dk_cl G 700 (fun _ => 0)) := dk_keepN hw_6198 hn_6199 h_6193
  have h_6210 : w_6197 q_6142 = some (109, dk_cl G 16 (fun _ => 0)) := dk_keepN hw_6198 hn_6199 h_6194
  have h_6211 : w_6197 q_6168 = some (110, dk_cz G 700 (fun _ => 0)) := dk_keepN hw_6198 hn_6199 h_6195
  refine dk_putF (a := h) (v := .ref q_6196) (ty := (.array .boolean)) (C := kn_M) (T := kt_M) (N := 22) hx hb hts ki_M ky_M kk_M kd_M hown hK hP hS h_6201 rfl 18 (by decide) (hts _ wi_732) (fun _ h9 => h9) rfl hnm rfl (by decide +kernel) rfl rfl (Nat.le_of_ble_eq_true rfl) de_M_init_101 (fun H locs w_6212 hw_6213 hP hS => ?_)
  have h_6214 : w_6212 h = some (100, .inr (cx_M, [.int 0, .int 0, .int 0, .int 0, .int 0, .int (-1), .int 0, .int 0, .ref q_6006, .ref q_6016, .ref q_6028, .ref q_6042, .ref q_6058, .ref q_6076, .ref q_6096, .ref q_6118, .ref q_6142, .ref q_6168, .ref q_6196, .null, .null, .null])) := dk_here hw_6213
  have h_6215 : w_6212 q_6006 = some (101, dk_ci G 700 (fun _ => 0)) := dk_keep hw_6213 h_6201 h_6202 (by decide)
  have h_6216 : w_6212 q_6016 = some (102, dk_ci G 700 (fun _ => 0)) := dk_keep hw_6213 h_6201 h_6203 (by decide)
  have h_6217 : w_6212 q_6028 = some (103, dk_ci G 700 (fun _ => 0)) := dk_keep hw_6213 h_6201 h_6204 (by decide)
  have h_6218 : w_6212 q_6042 = some (104, dk_ci G 5000 (fun _ => 0)) := dk_keep hw_6213 h_6201 h_6205 (by decide)
  have h_6219 : w_6212 q_6058 = some (105, dk_ci G 6 (fun _ => 0)) := dk_keep hw_6213 h_6201 h_6206 (by decide)
  have h_6220 : w_6212 q_6076 = some (106, dk_ci G 16 (fun _ => 0)) := dk_keep hw_6213 h_6201 h_6207 (by decide)
  have h_6221 : w_6212 q_6096 = some (107, dk_ci G 700 (fun _ => 0)) := dk_keep hw_6213 h_6201 h_6208 (by decide)
  have h_6222 : w_6212 q_6118 = some (108, dk_cl G 700 (fun _ => 0)) := dk_keep hw_6213 h_6201 h_6209 (by decide)
  have h_6223 : w_6212 q_6142 = some (109, dk_cl G 16 (fun _ => 0)) := dk_keep hw_6213 h_6201 h_6210 (by decide)
  have h_6224 : w_6212 q_6168 = some (110, dk_cz G 700 (fun _ => 0)) := dk_keep hw_6213 h_6201 h_6211 (by decide)
  have h_6225 : w_6212 q_6196 = some (111, dk_cz G 6 (fun _ => 0)) := dk_keep hw_6213 h_6201 h_6200 (by decide)
  refine lv_aload_n hx hb de_M_init_104 rfl (lv_at hl 0 rfl) ?_
  refine lv_bipush (v := nI 16) hx hb de_M_init_105 (by decide) ?_
  refine dk_newa 112 2 (atype := .boolean) (ty := .boolean) (a0 := (16, .inl (fun _ => 0))) (N' := 16) hx hb (hts _ wi_63) rfl hK hP hS hE.2.2.2 rfl (fun U cA h => h) (fun cA => rfl) rfl (by omega) (by first | decide | (simp [componentBytes]; done) | (simp [componentBytes]; omega)) (by first | exact Nat.le_of_ble_eq_true rfl | (simp only [Nat.zero_add]; omega) | omega) (by first | exact Nat.le_of_ble_eq_true rfl | (simp only [Nat.zero_add]; omega) | omega) de_M_init_107 (fun q_6226 H w_6227 hn_6229 hw_6228 hP hS => ?_)
  have h_6230 : w_6227 q_6226 = some (112, dk_cz G 16 (fun _ => 0)) := dk_here hw_6228
  have h_6231 : w_6227 h = some (100, .inr (cx_M, [.int 0, .int 0, .int 0, .int 0, .int 0, .int (-1), .int 0, .int 0, .ref q_6006, .ref q_6016, .ref q_6028, .ref q_6042, .ref q_6058, .ref q_6076, .ref q_6096, .ref q_6118, .ref q_6142, .ref q_6168, .ref q_6196, .null, .null, .null])) := dk_keepN hw_6228 hn_6229 h_6214
  have h_6232 : w_6227 q_6006 = some (101, dk_ci G 700 (fun _ => 0)) := dk_keepN hw_6228 hn_6229 h_6215
  have h_6233 : w_6227 q_6016 = some (102, dk_ci G 700 (fun _ => 0)) := dk_keepN hw_6228 hn_6229 h_6216
  have h_6234 : w_6227 q_6028 = some (103, dk_ci G 700 (fun _ => 0)) := dk_keepN hw_6228 hn_6229 h_6217
  have h_6235 : w_6227 q_6042 = some (104, dk_ci G 5000 (fun _ => 0)) := dk_keepN hw_6228 hn_6229 h_6218
  have h_6236 : w_6227 q_6058 = some (105, dk_ci G 6 (fun _ => 0)) := dk_keepN hw_6228 hn_6229 h_6219
  have h_6237 : w_6227 q_6076 = some (106, dk_ci G 16 (fun _ => 0)) := dk_keepN hw_6228 hn_6229 h_6220
  have h_6238 : w_6227 q_6096 = some (107, dk_ci G 700 (fun _ => 0)) := dk_keepN hw_6228 hn_6229 h_6221
  have h_6239 : w_6227 q_6118 = some (108, dk_cl G 700 (fun _ => 0)) := dk_keepN hw_6228 hn_6229 h_6222
  have h_6240 : w_6227 q_6142 = some (109, dk_cl G 16 (fun _ => 0)) := dk_keepN hw_6228 hn_6229 h_6223
  have h_6241 : w_6227 q_6168 = some (110, dk_cz G 700 (fun _ => 0)) := dk_keepN hw_6228 hn_6229 h_6224
  have h_6242 : w_6227 q_6196 = some (111, dk_cz G 6 (fun _ => 0)) := dk_keepN hw_6228 hn_6229 h_6225
  refine dk_putF (a := h) (v := .ref q_6226) (ty := (.array .boolean)) (C := kn_M) (T := kt_M) (N := 22) hx hb hts ki_M ky_M kk_M kd_M hown hK hP hS h_6231 rfl 19 (by decide) (hts _ wi_733) (fun _ h9 => h9) rfl hnm rfl (by decide +kernel) rfl rfl (Nat.le_of_ble_eq_true rfl) de_M_init_109 (fun H locs w_6243 hw_6244 hP hS => ?_)
  have h_6245 : w_6243 h = some (100, .inr (cx_M, [.int 0, .int 0, .int 0, .int 0, .int 0, .int (-1), .int 0, .int 0, .ref q_6006, .ref q_6016, .ref q_6028, .ref q_6042, .ref q_6058, .ref q_6076, .ref q_6096, .ref q_6118, .ref q_6142, .ref q_6168, .ref q_6196, .ref q_6226, .null, .null])) := dk_here hw_6244
  have h_6246 : w_6243 q_6006 = some (101, dk_ci G 700 (fun _ => 0)) := dk_keep hw_6244 h_6231 h_6232 (by decide)
  have h_6247 : w_6243 q_6016 = some (102, dk_ci G 700 (fun _ => 0)) := dk_keep hw_6244 h_6231 h_6233 (by decide)
  have h_6248 : w_6243 q_6028 = some (103, dk_ci G 700 (fun _ => 0)) := dk_keep hw_6244 h_6231 h_6234 (by decide)
  have h_6249 : w_6243 q_6042 = some (104, dk_ci G 5000 (fun _ => 0)) := dk_keep hw_6244 h_6231 h_6235 (by decide)
  have h_6250 : w_6243 q_6058 = some (105, dk_ci G 6 (fun _ => 0)) := dk_keep hw_6244 h_6231 h_6236 (by decide)
  have h_6251 : w_6243 q_6076 = some (106, dk_ci G 16 (fun _ => 0)) := dk_keep hw_6244 h_6231 h_6237 (by decide)
  have h_6252 : w_6243 q_6096 = some (107, dk_ci G 700 (fun _ => 0)) := dk_keep hw_6244 h_6231 h_6238 (by decide)
  have h_6253 : w_6243 q_6118 = some (108, dk_cl G 700 (fun _ => 0)) := dk_keep hw_6244 h_6231 h_6239 (by decide)
  have h_6254 : w_6243 q_6142 = some (109, dk_cl G 16 (fun _ => 0)) := dk_keep hw_6244 h_6231 h_6240 (by decide)
  have h_6255 : w_6243 q_6168 = some (110, dk_cz G 700 (fun _ => 0)) := dk_keep hw_6244 h_6231 h_6241 (by decide)
  have h_6256 : w_6243 q_6196 = some (111, dk_cz G 6 (fun _ => 0)) := dk_keep hw_6244 h_6231 h_6242 (by decide)
  have h_6257 : w_6243 q_6226 = some (112, dk_cz G 16 (fun _ => 0)) := dk_keep hw_6244 h_6231 h_6230 (by decide)
  refine lv_aload_n hx hb de_M_init_112 rfl (lv_at hl 0 rfl) ?_
  refine lv_sipush (v := nI 700) hx hb de_M_init_113 (by decide) ?_
  refine dk_newa 113 2 (atype := .boolean) (ty := .boolean) (a0 := (700, .inl (fun _ => 0))) (N' := 700) hx hb (hts _ wi_63) rfl hK hP hS hE.2.2.2 rfl (fun U cA h => h) (fun cA => rfl) rfl (by omega) (by first | decide | (simp [componentBytes]; done) | (simp [componentBytes]; omega)) (by first | exact Nat.le_of_ble_eq_true rfl | (simp only [Nat.zero_add]; omega) | omega) (by first | exact Nat.le_of_ble_eq_true rfl | (simp only [Nat.zero_add]; omega) | omega) de_M_init_116 (fun q_6258 H w_6259 hn_6261 hw_6260 hP hS => ?_)
  have h_6262 : w_6259 q_6258 = some (113, dk_cz G 700 (fun _ => 0)) := dk_here hw_6260
  have h_6263 : w_6259 h = some (100, .inr (cx_M, [.int 0, .int 0, .int 0, .int 0, .int 0, .int (-1), .int 0, .int 0, .ref q_6006, .ref q_6016, .ref q_6028, .ref q_6042, .ref q_6058, .ref q_6076, .ref q_6096, .ref q_6118, .ref q_6142, .ref q_6168, .ref q_6196, .ref q_6226, .null, .null])) := dk_keepN hw_6260 hn_6261 h_6245
  have h_6264 : w_6259 q_6006 = some (101, dk_ci G 700 (fun _ => 0)) := dk_keepN hw_6260 hn_6261 h_6246
  have h_6265 : w_6259 q_6016 = some (102, dk_ci G 700 (fun _ => 0)) := dk_keepN hw_6260 hn_6261 h_6247
  have h_6266 : w_6259 q_6028 = some (103, dk_ci G 700 (fun _ => 0)) := dk_keepN hw_6260 hn_6261 h_6248
  have h_6267 : w_6259 q_6042 = some (104, dk_ci G 5000 (fun _ => 0)) := dk_keepN hw_6260 hn_6261 h_6249
  have h_6268 : w_6259 q_6058 = some (105, dk_ci G 6 (fun _ => 0)) := dk_keepN hw_6260 hn_6261 h_6250
  have h_6269 : w_6259 q_6076 = some (106, dk_ci G 16 (fun _ => 0)) := dk_keepN hw_6260 hn_6261 h_6251
  have h_6270 : w_6259 q_6096 = some (107, dk_ci G 700 (fun _ => 0)) := dk_keepN hw_6260 hn_6261 h_6252
  have h_6271 : w_6259 q_6118 = some (108, dk_cl G 700 (fun _ => 0)) := dk_keepN hw_6260 hn_6261 h_6253
  have h_6272 : w_6259 q_6142 = some (109, dk_cl G 16 (fun _ => 0)) := dk_keepN hw_6260 hn_6261 h_6254
  have h_6273 : w_6259 q_6168 = some (110, dk_cz G 700 (fun _ => 0)) := dk_keepN hw_6260 hn_6261 h_6255
  have h_6274 : w_6259 q_6196 = some (111, dk_cz G 6 (fun _ => 0)) := dk_keepN hw_6260 hn_6261 h_6256
  have h_6275 : w_6259 q_6226 = some (112, dk_cz G 16 (fun _ => 0)) := dk_keepN hw_6260 hn_6261 h_6257
  refine dk_putF (a := h) (v := .ref q_6258) (ty := (.array .boolean)) (C := kn_M) (T := kt_M) (N := 22) hx hb hts ki_M ky_M kk_M kd_M hown hK hP hS h_6263 rfl 20 (by decide) (hts _ wi_734) (fun _ h9 => h9) rfl hnm rfl (by decide +kernel) rfl rfl (Nat.le_of_ble_eq_true rfl) de_M_init_118 (fun H locs w_6276 hw_6277 hP hS => ?_)
  have h_6278 : w_6276 h = some (100, .inr (cx_M, [.int 0, .int 0, .int 0, .int 0, .int 0, .int (-1), .int 0, .int 0, .ref q_6006, .ref q_6016, .ref q_6028, .ref q_6042, .ref q_6058, .ref q_6076, .ref q_6096, .ref q_6118, .ref q_6142, .ref q_6168, .ref q_6196, .ref q_6226, .ref q_6258, .null])) := dk_here hw_6277
  have h_6279 : w_6276 q_6006 = some (101, dk_ci G 700 (fun _ => 0)) := dk_keep hw_6277 h_6263 h_6264 (by decide)
  have h_6280 : w_6276 q_6016 = some (102, dk_ci G 700 (fun _ => 0)) := dk_keep hw_6277 h_6263 h_6265 (by decide)
  have h_6281 : w_6276 q_6028 = some (103, dk_ci G 700 (fun _ => 0)) := dk_keep hw_6277 h_6263 h_6266 (by decide)
  have h_6282 : w_6276 q_6042 = some (104, dk_ci G 5000 (fun _ => 0)) := dk_keep hw_6277 h_6263 h_6267 (by decide)
  have h_6283 : w_6276 q_6058 = some (105, dk_ci G 6 (fun _ => 0)) := dk_keep hw_6277 h_6263 h_6268 (by decide)
  have h_6284 : w_6276 q_6076 = some (106, dk_ci G 16 (fun _ => 0)) := dk_keep hw_6277 h_6263 h_6269 (by decide)
  have h_6285 : w_6276 q_6096 = some (107, dk_ci G 700 (fun _ => 0)) := dk_keep hw_6277 h_6263 h_6270 (by decide)
  have h_6286 : w_6276 q_6118 = some (108, dk_cl G 700 (fun _ => 0)) := dk_keep hw_6277 h_6263 h_6271 (by decide)
  have h_6287 : w_6276 q_6142 = some (109, dk_cl G 16 (fun _ => 0)) := dk_keep hw_6277 h_6263 h_6272 (by decide)
  have h_6288 : w_6276 q_6168 = some (110, dk_cz G 700 (fun _ => 0)) := dk_keep hw_6277 h_6263 h_6273 (by decide)
  have h_6289 : w_6276 q_6196 = some (111, dk_cz G 6 (fun _ => 0)) := dk_keep hw_6277 h_6263 h_6274 (by decide)
  have h_6290 : w_6276 q_6226 = some (112, dk_cz G 16 (fun _ => 0)) := dk_keep hw_6277 h_6263 h_6275 (by decide)
  have h_6291 : w_6276 q_6258 = some (113, dk_cz G 700 (fun _ => 0)) := dk_keep hw_6277 h_6263 h_6262 (by decide)
  refine lv_aload_n hx hb de_M_init_121 rfl (lv_at hl 0 rfl) ?_
  refine lv_sipush (v := nI 6000) hx hb de_M_init_122 (by decide) ?_
  refine dk_newa 114 2 (atype := .boolean) (ty := .boolean) (a0 := (6000, .inl (fun _ => 0))) (N' := 6000) hx hb (hts _ wi_63) rfl hK hP hS hE.2.2.2 rfl (fun U cA h => h) (fun cA => rfl) rfl (by omega) (by first | decide | (simp [componentBytes]; done) | (simp [componentBytes]; omega)) (by first | exact Nat.le_of_ble_eq_true rfl | (simp only [Nat.zero_add]; omega) | omega) (by first | exact Nat.le_of_ble_eq_true rfl | (simp only [Nat.zero_add]; omega) | omega) de_M_init_125 (fun q_6292 H w_6293 hn_6295 hw_6294 hP hS => ?_)
  have h_6296 : w_6293 q_6292 = some (114, dk_cz G 6000 (fun _ => 0)) := dk_here hw_6294
  have h_6297 : w_6293 h = some (100, .inr (cx_M, [.int 0, .int 0, .int 0, .int 0, .int 0, .int (-1), .int 0, .int 0, .ref q_6006, .ref q_6016, .ref q_6028, .ref q_6042, .ref q_6058, .ref q_6076, .ref q_6096, .ref q_6118, .ref q_6142, .ref q_6168, .ref q_6196, .ref q_6226, .ref q_6258, .null])) := dk_keepN hw_6294 hn_6295 h_6278
  have h_6298 : w_6293 q_6006 = some (101, dk_ci G 700 (fun _ => 0)) := dk_keepN hw_6294 hn_6295 h_6279
  have h_6299 : w_6293 q_6016 = some (102, dk_ci G 700 (fun _ => 0)) := dk_keepN hw_6294 hn_6295 h_6280
  have h_6300 : w_6293 q_6028 = some (103, dk_ci G 700 (fun _ => 0)) := dk_keepN hw_6294 hn_6295 h_6281
  have h_6301 : w_6293 q_6042 = some (104, dk_ci G 5000 (fun _ => 0)) := dk_keepN hw_6294 hn_6295 h_6282
  have h_6302 : w_6293 q_6058 = some (105, dk_ci G 6 (fun _ => 0)) := dk_keepN hw_6294 hn_6295 h_6283
  have h_6303 : w_6293 q_6076 = some (106, dk_ci G 16 (fun _ => 0)) := dk_keepN hw_6294 hn_6295 h_6284
  have h_6304 : w_6293 q_6096 = some (107, dk_ci G 700 (fun _ => 0)) := dk_keepN hw_6294 hn_6295 h_6285
  have h_6305 : w_6293 q_6118 = some (108, dk_cl G 700 (fun _ => 0)) := dk_keepN hw_6294 hn_6295 h_6286
  have h_6306 : w_6293 q_6142 = some (109, dk_cl G 16 (fun _ => 0)) := dk_keepN hw_6294 hn_6295 h_6287
  have h_6307 : w_6293 q_6168 = some (110, dk_cz G 700 (fun _ => 0)) := dk_keepN hw_6294 hn_6295 h_6288
  have h_6308 : w_6293 q_6196 = some (111, dk_cz G 6 (fun _ => 0)) := dk_keepN hw_6294 hn_6295 h_6289
  have h_6309 : w_6293 q_6226 = some (112, dk_cz G 16 (fun _ => 0)) := dk_keepN hw_6294 hn_6295 h_6290
  have h_6310 : w_6293 q_6258 = some (113, dk_cz G 700 (fun _ => 0)) := dk_keepN hw_6294 hn_6295 h_6291
  refine dk_putF (a := h) (v := .ref q_6292) (ty := (.array .boolean)) (C := kn_M) (T := kt_M) (N := 22) hx hb hts ki_M ky_M kk_M kd_M hown hK hP hS h_6297 rfl 21 (by decide) (hts _ wi_735) (fun _ h9 => h9) rfl hnm rfl (by decide +kernel) rfl rfl (Nat.le_of_ble_eq_true rfl) de_M_init_127 (fun H locs w_6311 hw_6312 hP hS => ?_)
  have h_6313 : w_6311 h = some (100, .inr (cx_M, [.int 0, .int 0, .int 0, .int 0, .int 0, .int (-1), .int 0, .int 0, .ref q_6006, .ref q_6016, .ref q_6028, .ref q_6042, .ref q_6058, .ref q_6076, .ref q_6096, .ref q_6118, .ref q_6142, .ref q_6168, .ref q_6196, .ref q_6226, .ref q_6258, .ref q_6292])) := dk_here hw_6312
  have h_6314 : w_6311 q_6006 = some (101, dk_ci G 700 (fun _ => 0)) := dk_keep hw_6312 h_6297 h_6298 (by decide)
  have h_6315 : w_6311 q_6016 = some (102, dk_ci G 700 (fun _ => 0)) := dk_keep hw_6312 h_6297 h_6299 (by decide)
  have h_6316 : w_6311 q_6028 = some (103, dk_ci G 700 (fun _ => 0)) := dk_keep hw_6312 h_6297 h_6300 (by decide)
  have h_6317 : w_6311 q_6042 = some (104, dk_ci G 5000 (fun _ => 0)) := dk_keep hw_6312 h_6297 h_6301 (by decide)
  have h_6318 : w_6311 q_6058 = some (105, dk_ci G 6 (fun _ => 0)) := dk_keep hw_6312 h_6297 h_6302 (by decide)
  have h_6319 : w_6311 q_6076 = some (106, dk_ci G 16 (fun _ => 0)) := dk_keep hw_6312 h_6297 h_6303 (by decide)
  have h_6320 : w_6311 q_6096 = some (107, dk_ci G 700 (fun _ => 0)) := dk_keep hw_6312 h_6297 h_6304 (by decide)
  have h_6321 : w_6311 q_6118 = some (108, dk_cl G 700 (fun _ => 0)) := dk_keep hw_6312 h_6297 h_6305 (by decide)
  have h_6322 : w_6311 q_6142 = some (109, dk_cl G 16 (fun _ => 0)) := dk_keep hw_6312 h_6297 h_6306 (by decide)
  have h_6323 : w_6311 q_6168 = some (110, dk_cz G 700 (fun _ => 0)) := dk_keep hw_6312 h_6297 h_6307 (by decide)
  have h_6324 : w_6311 q_6196 = some (111, dk_cz G 6 (fun _ => 0)) := dk_keep hw_6312 h_6297 h_6308 (by decide)
  have h_6325 : w_6311 q_6226 = some (112, dk_cz G 16 (fun _ => 0)) := dk_keep hw_6312 h_6297 h_6309 (by decide)
  have h_6326 : w_6311 q_6258 = some (113, dk_cz G 700 (fun _ => 0)) := dk_keep hw_6312 h_6297 h_6310 (by decide)
  have h_6327 : w_6311 q_6292 = some (114, dk_cz G 6000 (fun _ => 0)) := dk_keep hw_6312 h_6297 h_6296 (by decide)
  exact dk_vret hQ hx hb hr hlocks hP hS (by omega) (by omega) (⟨(q_6006, q_6016, q_6028, q_6042, q_6058, q_6076, q_6096, q_6118, q_6142, q_6168, q_6196, q_6226, q_6258, q_6292), ⟨md_z h_6313, h_6314, h_6315, h_6316, h_6317, h_6318, h_6319, h_6320, h_6321, h_6322, h_6323, h_6324, h_6325, h_6326, h_6327⟩, (((((((((((((((((((((((((((((dk_fr.rf).tr ((dk_fr.up (T := md_T) hh (by unfold md_T; omega)).eq hw_6004)).tr ((dk_fr.upN hn_6009).eq hw_6008)).tr ((dk_fr.up (T := md_T) h_6011 (by unfold md_T; omega)).eq hw_6013)).tr ((dk_fr.upN hn_6019).eq hw_6018)).tr ((dk_fr.up (T := md_T) h_6021 (by unfold md_T; omega)).eq hw_6024)).tr ((dk_fr.upN hn_6031).eq hw_6030)).tr ((dk_fr.up (T := md_T) h_6033 (by unfold md_T; omega)).eq hw_6037)).tr ((dk_fr.upN hn_6045).eq hw_6044)).tr ((dk_fr.up (T := md_T) h_6047 (by unfold md_T; omega)).eq hw_6052)).tr ((dk_fr.upN hn_6061).eq hw_6060)).tr ((dk_fr.up (T := md_T) h_6063 (by unfold md_T; omega)).eq hw_6069)).tr ((dk_fr.upN hn_6079).eq hw_6078)).tr ((dk_fr.up (T := md_T) h_6081 (by unfold md_T; omega)).eq hw_6088)).tr ((dk_fr.upN hn_6099).eq hw_6098)).tr ((dk_fr.up (T := md_T) h_6101 (by unfold md_T; omega)).eq hw_6109)).tr ((dk_fr.upN hn_6121).eq hw_6120)).tr ((dk_fr.up (T := md_T) h_6123 (by unfold md_T; omega)).eq hw_6132)).tr ((dk_fr.upN hn_6145).eq hw_6144)).tr ((dk_fr.up (T := md_T) h_6147 (by unfold md_T; omega)).eq hw_6157)).tr ((dk_fr.upN hn_6171).eq hw_6170)).tr ((dk_fr.up (T := md_T) h_6173 (by unfold md_T; omega)).eq hw_6184)).tr ((dk_fr.upN hn_6199).eq hw_6198)).tr ((dk_fr.up (T := md_T) h_6201 (by unfold md_T; omega)).eq hw_6213)).tr ((dk_fr.upN hn_6229).eq hw_6228)).tr ((dk_fr.up (T := md_T) h_6231 (by unfold md_T; omega)).eq hw_6244)).tr ((dk_fr.upN hn_6261).eq hw_6260)).tr ((dk_fr.up (T := md_T) h_6263 (by unfold md_T; omega)).eq hw_6277)).tr ((dk_fr.upN hn_6295).eq hw_6294)).tr ((dk_fr.up (T := md_T) h_6297 (by unfold md_T; omega)).eq hw_6312)⟩) de_M_init_130
