/-! RunKeeperModel: merge (printed by gen/c_md11.py) -/
def st_R (μ ν : md_S) : Prop := ∃ (l : Nat) (f : Nat → Bool), l < 5 ∧ 4 ≤ ro_c μ l ∧ (∀ q, q < l → ro_c μ q < 4) ∧ tr_ok μ l (lb_b μ l 6) f ∧ ν = md_st μ l f
/-- k steps lead from μ to ν -/
def md_mk (μ : md_S) : Nat → md_S → Prop
  | 0, ν => ν = μ
  | k + 1, ν => ∃ τ, md_mk μ k τ ∧ st_R τ ν
theorem ro_or (μ : md_S) : ∀ n, (∀ l, l < n → ro_c μ l < 4) ∨ ∃ l, l < n ∧ 4 ≤ ro_c μ l ∧ ∀ q, q < l → ro_c μ q < 4 := by
  intro n
  induction n with
  | zero => exact Or.inl (fun l h => absurd h (by omega))
  | succ n ih =>
    rcases ih with h | ⟨l, h1, h2⟩
    · rcases Nat.lt_or_ge (ro_c μ n) 4 with h1 | h1
      · exact Or.inl (lt_s h h1)
      · exact Or.inr ⟨n, by omega, h1, h⟩
    · exact Or.inr ⟨l, by omega, h2⟩
theorem sc_p (μ : md_S) (l t : Nat) (h : md_ok μ) (ht : t < 5000) : ∀ k, md_ok (sc_f μ l t k).1 ∧ (sc_f μ l t k).2.1 ≤ k ∧ (sc_f μ l t k).1.n = μ.n ∧ (sc_f μ l t k).1.rs = μ.rs := by
  intro k
  induction k with
  | zero => exact ⟨h, Nat.le_refl _, rfl, rfl⟩
  | succ k ih =>
    obtain ⟨h1, h2, h3, h4⟩ := ih
    have cq : ∀ o : Option Nat, (∀ r, o = some r → r < 5000) → md_ok (md_cq (sc_f μ l t k).1 (sc_f μ l t k).2.1 k o) := by
      intro o ho
      obtain ⟨ok1, ok2, ok3, ok4, ok5, ok6, ok7, ok8, ok9, ok10, ok11⟩ := h1
      exact ⟨up_all (P := fun v => v < 1024) ok1 (ok1 k), up_all (P := fun v => v < 2 ^ 30) ok2 (ok2 k), fun i => up_all (P := fun o => ∀ r, o = some r → r < 5000) ok3 ho i, ok4, ok5, ok6, ok7, ok8, ok9, ok10, ok11⟩
    rw [sc_f]
    split
    · split
      · exact ⟨cq _ (fun r hr => by cases hr; exact ht), Nat.succ_le_succ h2, h3, h4⟩
      · exact ⟨h1, by omega, h3, h4⟩
    · exact ⟨cq _ (fun r hr => h1.2.2.1 k r hr), Nat.succ_le_succ h2, h3, h4⟩
theorem md_st_rs0 {μ : md_S} {l : Nat} {f : Nat → Bool} : (md_st μ l f).rs = (sc_f ((μ.ks' f).rs' (μ.rs + 1)) l μ.rs μ.n).1.rs := rfl
theorem sc_rs (μ : md_S) (l t : Nat) : ∀ k, (sc_f μ l t k).1.rs = μ.rs := by
  intro k
  induction k with
  | zero => rfl
  | succ k ih =>
    rw [sc_f]
    split
    · split
      · exact ih
      · exact ih
    · exact ih
theorem md_st_rs {μ : md_S} {l : Nat} {f : Nat → Bool} : (md_st μ l f).rs = μ.rs + 1 := by rw [md_st_rs0, sc_rs]
theorem md_st_ok {μ : md_S} {l : Nat} {f : Nat → Bool} (h : md_ok μ) (hl : l < 5) (hr : μ.rs + 1 < 4000) : md_ok (md_st μ l f) := by
  have h0 : md_ok ((μ.ks' f).rs' (μ.rs + 1)) := by
    obtain ⟨ok1, ok2, ok3, ok4, ok5, ok6, ok7, ok8, ok9, ok10, ok11⟩ := h
    exact ⟨ok1, ok2, ok3, ok4, ok5, hr, ok7, ok8, ok9, ok10, ok11⟩
  obtain ⟨⟨ok1, ok2, ok3, ok4, ok5, ok6, ok7, ok8, ok9, ok10, ok11⟩, h2, h3, h4⟩ := sc_p ((μ.ks' f).rs' (μ.rs + 1)) l μ.rs h0 (by omega) μ.n
  refine ⟨ok1, ok2, ok3, ?_, Nat.le_trans h2 h.2.2.2.2.1, ok6, ok7, ok8, ok9, ok10, ok11⟩
  refine fun r => up_all (P := fun o => ∀ q, o = some q → q < 6) (fun j q hq => ?_) (fun q hq => ?_) r
  · unfold lz_f at hq
    split at hq
    · cases hq
    · exact ok4 j q hq
  · split at hq
    · cases hq; omega
    · cases hq
abbrev rm_M_merge : Room := { frames := 3, cells := 0, slots := 0, locals := 74 }
set_option maxHeartbeats 4000000 in
set_option maxRecDepth 100000 in
theorem c_M_mergeF (l : Launch) (G : dk_G) (w : dk_H) (h : Nat) (D : md_D) (μ : md_S) (hm : md_at G w h D μ) (hmo : md_ok μ) (k : Int32) (hk0 : im_b k (nI 0) (nI 100) = false) : dk_Mi l my_M_merge (wd_c my_M_merge mb_M_merge 3 (some .int)) rm_M_merge G w [.ref h, .int k] (fun r w1 => r = nI 0 ∧ md_at G w1 h D (μ.er' 1) ∧ dk_fr md_T w w1) 0 0 := by
  obtain ⟨ok1, ok2, ok3, ok4, ok5, ok6, ok7, ok8, ok9, ok10, ok11⟩ := id hmo
  refine dk_enter (lv := [(0, .ref h), (1, .int k)]) (by decide) (Nat.le_of_ble_eq_true rfl) rfl (fun p e s m args below meth c ls Q hQ C hP hS hl => ?_)
  obtain ⟨hx, hb, hr, hml, hlocks, hown, hnm, hts, hE⟩ := C
  have hK := hE.1
  have hN := hE.2.1
  have hh_7254 : w h = some (100, .inr (cx_M, [.int (nI μ.er), .int (nI μ.n), .int (nI μ.sq), .int (nI μ.sf), .int (nI μ.rs), .int (rI μ.ba), .int (nI μ.pr), .int (nI μ.mi), .ref D.kf, .ref D.nf, .ref D.rf, .ref D.lf, .ref D.sv, .ref D.bk, .ref D.od, .ref D.vf, .ref D.bv, .ref D.df, .ref D.ss, .ref D.bd, .ref D.ks, .ref D.bt])) := hm.o
  refine lv_aload_n hx hb de_M_merge_0 rfl (lv_at hl 0 rfl) ?_
  refine lv_iconst (v := nI 0) hx hb de_M_merge_1 (by decide) ?_
  refine dk_put (a := h) (v := .int (nI 0)) (ty := .int) (C := kn_M) (T := kt_M) (N := 22) hx hb hts ki_M ky_M kk_M kd_M hown hK hP hS hh_7254 rfl 0 (by decide) (hts _ wi_714) (fun _ h9 => h9) rfl (by decide +kernel) rfl rfl (Nat.le_of_ble_eq_true rfl) de_M_merge_2 (fun H locs w_7255 hw_7256 hP hS => ?_)
  have h_7257 : w_7255 h = some (100, .inr (cx_M, [.int (nI 0), .int (nI μ.n), .int (nI μ.sq), .int (nI μ.sf), .int (nI μ.rs), .int (rI μ.ba), .int (nI μ.pr), .int (nI μ.mi), .ref D.kf, .ref D.nf, .ref D.rf, .ref D.lf, .ref D.sv, .ref D.bk, .ref D.od, .ref D.vf, .ref D.bv, .ref D.df, .ref D.ss, .ref D.bd, .ref D.ks, .ref D.bt])) := dk_here hw_7256
  have h_7258 : w_7255 D.kf = some (101, dk_ci G 700 (fun i9 => nI (μ.kf i9))) := dk_keep hw_7256 hh_7254 hm.kf (by decide)
  have h_7259 : w_7255 D.nf = some (102, dk_ci G 700 (fun i9 => nI (μ.nf i9))) := dk_keep hw_7256 hh_7254 hm.nf (by decide)
  have h_7260 : w_7255 D.rf = some (103, dk_ci G 700 (fun i9 => rI (μ.rf i9))) := dk_keep hw_7256 hh_7254 hm.rf (by decide)
  have h_7261 : w_7255 D.lf = some (104, dk_ci G 5000 (fun i9 => rI (μ.lf i9))) := dk_keep hw_7256 hh_7254 hm.lf (by decide)
  have h_7262 : w_7255 D.sv = some (105, dk_ci G 6 (fun i9 => nI (μ.sv i9))) := dk_keep hw_7256 hh_7254 hm.sv (by decide)
  have h_7263 : w_7255 D.bk = some (106, dk_ci G 16 (fun i9 => nI (μ.bk i9))) := dk_keep hw_7256 hh_7254 hm.bk (by decide)
  have h_7264 : w_7255 D.od = some (107, dk_ci G 700 (fun i9 => nI (μ.od i9))) := dk_keep hw_7256 hh_7254 hm.od (by decide)
  have h_7265 : w_7255 D.vf = some (108, dk_cl G 700 (fun i9 => μ.vf i9)) := dk_keep hw_7256 hh_7254 hm.vf (by decide)
  have h_7266 : w_7255 D.bv = some (109, dk_cl G 16 (fun i9 => μ.bv i9)) := dk_keep hw_7256 hh_7254 hm.bv (by decide)
  have h_7267 : w_7255 D.df = some (110, dk_cz G 700 (fun i9 => bo_i (μ.df i9))) := dk_keep hw_7256 hh_7254 hm.df (by decide)
  have h_7268 : w_7255 D.ss = some (111, dk_cz G 6 (fun i9 => bo_i (μ.ss i9))) := dk_keep hw_7256 hh_7254 hm.ss (by decide)
  have h_7269 : w_7255 D.bd = some (112, dk_cz G 16 (fun i9 => bo_i (μ.bd i9))) := dk_keep hw_7256 hh_7254 hm.bd (by decide)
  have h_7270 : w_7255 D.ks = some (113, dk_cz G 700 (fun i9 => bo_i (μ.ks i9))) := dk_keep hw_7256 hh_7254 hm.ks (by decide)
  have h_7271 : w_7255 D.bt = some (114, dk_cz G 6000 (fun i9 => bo_i (μ.bt i9))) := dk_keep hw_7256 hh_7254 hm.bt (by decide)
  have hm_7272 : md_at G w_7255 h D (μ.er' 0) := ⟨h_7257, h_7258, h_7259, h_7260, h_7261, h_7262, h_7263, h_7264, h_7265, h_7266, h_7267, h_7268, h_7269, h_7270, h_7271⟩
  have hh_7273 : w_7255 h = some (100, .inr (cx_M, [.int (nI 0), .int (nI μ.n), .int (nI μ.sq), .int (nI μ.sf), .int (nI μ.rs), .int (rI μ.ba), .int (nI μ.pr), .int (nI μ.mi), .ref D.kf, .ref D.nf, .ref D.rf, .ref D.lf, .ref D.sv, .ref D.bk, .ref D.od, .ref D.vf, .ref D.bv, .ref D.df, .ref D.ss, .ref D.bd, .ref D.ks, .ref D.bt])) := hm_7272.o
  have ha_7274 : w_7255 D.kf = some (101, dk_ci G 700 (fun i9 => nI (μ.kf i9))) := hm_7272.kf
  have ha_7275 : w_7255 D.nf = some (102, dk_ci G 700 (fun i9 => nI (μ.nf i9))) := hm_7272.nf
  have ha_7276 : w_7255 D.rf = some (103, dk_ci G 700 (fun i9 => rI (μ.rf i9))) := hm_7272.rf
  have ha_7277 : w_7255 D.lf = some (104, dk_ci G 5000 (fun i9 => rI (μ.lf i9))) := hm_7272.lf
  have ha_7278 : w_7255 D.sv = some (105, dk_ci G 6 (fun i9 => nI (μ.sv i9))) := hm_7272.sv
  have ha_7279 : w_7255 D.bk = some (106, dk_ci G 16 (fun i9 => nI (μ.bk i9))) := hm_7272.bk
  have ha_7280 : w_7255 D.od = some (107, dk_ci G 700 (fun i9 => nI (μ.od i9))) := hm_7272.od
  have ha_7281 : w_7255 D.vf = some (108, dk_cl G 700 (fun i9 => μ.vf i9)) := hm_7272.vf
  have ha_7282 : w_7255 D.bv = some (109, dk_cl G 16 (fun i9 => μ.bv i9)) := hm_7272.bv
  have ha_7283 : w_7255 D.df = some (110, dk_cz G 700 (fun i9 => bo_i (μ.df i9))) := hm_7272.df
  have ha_7284 : w_7255 D.ss = some (111, dk_cz G 6 (fun i9 => bo_i (μ.ss i9))) := hm_7272.ss
  have ha_7285 : w_7255 D.bd = some (112, dk_cz G 16 (fun i9 => bo_i (μ.bd i9))) := hm_7272.bd
  have ha_7286 : w_7255 D.ks = some (113, dk_cz G 700 (fun i9 => bo_i (μ.ks i9))) := hm_7272.ks
  have ha_7287 : w_7255 D.bt = some (114, dk_cz G 6000 (fun i9 => bo_i (μ.bt i9))) := hm_7272.bt
  refine lv_aload_n hx hb de_M_merge_5 rfl (lv_at hl 0 rfl) ?_
  refine lv_iload_n hx hb de_M_merge_6 rfl (lv_at hl 1 rfl) ?_
  refine lv_iconst (v := nI 0) hx hb de_M_merge_7 (by decide) ?_
  refine lv_bipush (v := nI 100) hx hb de_M_merge_8 (by decide) ?_
  refine dk_calli (va_runS (As := [.int k, .int (nI 0), .int (nI 100)]) (rest := [.ref h]) ⟨hx, hb, hml, hown, hts⟩ (c_M_in l G w_7255 k (nI 0) (nI 100)) (va_cwS 3 hts (wd_gS wi_795 wi_793 wi_794 wi_8) rfl rfl rfl (by decide +kernel) ⟨Nat.le_of_ble_eq_true rfl, Nat.le_of_ble_eq_true rfl⟩) (dk_preS hE hP hS) rfl rfl hl.1 rfl (lv_room (Nat.le_of_ble_eq_true rfl)) de_M_merge_10 ⟨(by first | exact Nat.le_of_ble_eq_true rfl | (simp only [Nat.zero_add]; omega) | omega), (by first | exact Nat.le_of_ble_eq_true rfl | (simp only [Nat.zero_add]; omega) | omega)⟩) hS (fun r_7290 w_7288 H locs hq_7289 hP hS => ?_)
  rw [hk0] at hq_7289
  obtain ⟨hr_7291, he_7292⟩ := hq_7289
  subst hr_7291
  rw [he_7292] at hP
  refine bo_if_ne (b := false) (tgt := 20) hx hb de_M_merge_13 (by decide) (fun c_7293 => ?_) (fun c_7293 => ?_)
  · exact absurd c_7293 (by decide)
  · refine lv_iconst (v := nI 1) hx hb de_M_merge_16 (by decide) ?_
    refine lv_goto (tgt := 21) hx hb de_M_merge_17 (by decide) ?_
    refine lv_iconst (v := nI 1) hx hb de_M_merge_21 (by decide) ?_
    rw [show (nI 1) = bo_i true from (by decide)]
    refine dk_calli (va_runV (As := [.int (bo_i true), .int (nI 1)]) (rest := []) ⟨hx, hb, hml, hown, hts⟩ (c_M_fails l G w_7255 h D (μ.er' 0) hm_7272 true 1 (by decide) (by decide) (show (0 : Nat) < 3 by decide)) (cwV 2 hts (wd_gV (C := "RunKeeperModel") wi_799 wi_796 wi_798 (wd_p (q := (⟨"RunKeeperModel", "fails", "(ZI)Z"⟩, 22)) (by decide +kernel) (by decide +kernel)) wi_8) rfl rfl rfl (by decide +kernel) ⟨Nat.le_of_ble_eq_true rfl, Nat.le_of_ble_eq_true rfl⟩) (dk_preV (kn_M, kt_M, 22) hE hP hS hh_7273 rfl) rfl rfl hl.1 rfl (lv_room (Nat.le_of_ble_eq_true rfl)) de_M_merge_22 ⟨(by first | exact Nat.le_of_ble_eq_true rfl | (simp only [Nat.zero_add]; omega) | omega), (by first | exact Nat.le_of_ble_eq_true rfl | (simp only [Nat.zero_add]; omega) | omega)⟩) hS (fun r_7296 w_7294 H locs hq_7295 hP hS => ?_)
    obtain ⟨hr_7297, hq_7298, hf_7299⟩ := hq_7295
    subst hr_7297
    have hm_7300 : md_at G w_7294 h D ((μ.er' 0).er' 1) := hq_7298
    have hh_7301 : w_7294 h = some (100, .inr (cx_M, [.int (nI 1), .int (nI μ.n), .int (nI μ.sq), .int (nI μ.sf), .int (nI μ.rs), .int (rI μ.ba), .int (nI μ.pr), .int (nI μ.mi), .ref D.kf, .ref D.nf, .ref D.rf, .ref D.lf, .ref D.sv, .ref D.bk, .ref D.od, .ref D.vf, .ref D.bv, .ref D.df, .ref D.ss, .ref D.bd, .ref D.ks, .ref D.bt])) := hm_7300.o
    have ha_7302 : w_7294 D.kf = some (101, dk_ci G 700 (fun i9 => nI (μ.kf i9))) := hm_7300.kf
    have ha_7303 : w_7294 D.nf = some (102, dk_ci G 700 (fun i9 => nI (μ.nf i9))) := hm_7300.nf
    have ha_7304 : w_7294 D.rf = some (103, dk_ci G 700 (fun i9 => rI (μ.rf i9))) := hm_7300.rf
    have ha_7305 : w_7294 D.lf = some (104, dk_ci G 5000 (fun i9 => rI (μ.lf i9))) := hm_7300.lf
    have ha_7306 : w_7294 D.sv = some (105, dk_ci G 6 (fun i9 => nI (μ.sv i9))) := hm_7300.sv
    have ha_7307 : w_7294 D.bk = some (106, dk_ci G 16 (fun i9 => nI (μ.bk i9))) := hm_7300.bk
    have ha_7308 : w_7294 D.od = some (107, dk_ci G 700 (fun i9 => nI (μ.od i9))) := hm_7300.od
    have ha_7309 : w_7294 D.vf = some (108, dk_cl G 700 (fun i9 => μ.vf i9)) := hm_7300.vf
    have ha_7310 : w_7294 D.bv = some (109, dk_cl G 16 (fun i9 => μ.bv i9)) := hm_7300.bv
    have ha_7311 : w_7294 D.df = some (110, dk_cz G 700 (fun i9 => bo_i (μ.df i9))) := hm_7300.df
    have ha_7312 : w_7294 D.ss = some (111, dk_cz G 6 (fun i9 => bo_i (μ.ss i9))) := hm_7300.ss
    have ha_7313 : w_7294 D.bd = some (112, dk_cz G 16 (fun i9 => bo_i (μ.bd i9))) := hm_7300.bd
    have ha_7314 : w_7294 D.ks = some (113, dk_cz G 700 (fun i9 => bo_i (μ.ks i9))) := hm_7300.ks
    have ha_7315 : w_7294 D.bt = some (114, dk_cz G 6000 (fun i9 => bo_i (μ.bt i9))) := hm_7300.bt
    refine bo_if_eq (b := true) (tgt := 30) hx hb de_M_merge_25 (by decide) (fun c_7316 => ?_) (fun c_7316 => ?_)
    · exact absurd c_7316 (by decide)
    · refine lv_iconst (v := nI 0) hx hb de_M_merge_28 (by decide) ?_
      exact dk_iret hQ hx hb hr hlocks hP hS (Nat.le_refl _) (Nat.le_refl _) (⟨rfl, hm_7300, ((dk_fr.rf).tr ((dk_fr.up (T := md_T) hh_7254 (by unfold md_T; omega)).eq hw_7256)).tr (hf_7299)⟩) de_M_merge_29
set_option maxHeartbeats 4000000 in
set_option maxRecDepth 100000 in
theorem c_M_mergeS (l : Launch) (G : dk_G) (w : dk_H) (h : Nat) (D : md_D) (μ : md_S) (hm : md_at G w h D μ) (hmo : md_ok μ) (n9 : Nat) (hn9 : n9 ≤ 100) (hrs : μ.rs + 100 < 4000) : dk_Mi l my_M_merge (wd_c my_M_merge mb_M_merge 3 (some .int)) rm_M_merge G w [.ref h, .int (nI n9)] (fun r w1 => ∃ (k : Nat) (ν : md_S), r = nI k ∧ k ≤ n9 ∧ md_mk (μ.er' 0) k ν ∧ (k < n9 → ∀ l, l < 5 → ro_c ν l < 4) ∧ md_at G w1 h D ν ∧ dk_fr md_T w w1) 0 0 := by
  obtain ⟨ok1, ok2, ok3, ok4, ok5, ok6, ok7, ok8, ok9, ok10, ok11⟩ := id hmo
  refine dk_enter (lv := [(0, .ref h), (1, .int (nI n9))]) (by decide) (Nat.le_of_ble_eq_true rfl) rfl (fun p e s m args below meth c ls Q hQ C hP hS hl => ?_)
  obtain ⟨hx, hb, hr, hml, hlocks, hown, hnm, hts, hE⟩ := C
  have hK := hE.1
  have hN := hE.2.1
  have hh_7317 : w h = some (100, .inr (cx_M, [.int (nI μ.er), .int (nI μ.n), .int (nI μ.sq), .int (nI μ.sf), .int (nI μ.rs), .int (rI μ.ba), .int (nI μ.pr), .int (nI μ.mi), .ref D.kf, .ref D.nf, .ref D.rf, .ref D.lf, .ref D.sv, .ref D.bk, .ref D.od, .ref D.vf, .ref D.bv, .ref D.df, .ref D.ss, .ref D.bd, .ref D.ks, .ref D.bt])) := hm.o
  refine lv_aload_n hx hb de_M_merge_0 rfl (lv_at hl 0 rfl) ?_
  refine lv_iconst (v := nI 0) hx hb de_M_merge_1 (by decide) ?_
  refine dk_put (a := h) (v := .int (nI 0)) (ty := .int) (C := kn_M) (T := kt_M) (N := 22) hx hb hts ki_M ky_M kk_M kd_M hown hK hP hS hh_7317 rfl 0 (by decide) (hts _ wi_714) (fun _ h9 => h9) rfl (by decide +kernel) rfl rfl (Nat.le_of_ble_eq_true rfl) de_M_merge_2 (fun H locs w_7318 hw_7319 hP hS => ?_)
  have h_7320 : w_7318 h = some (100, .inr (cx_M, [.int (nI 0), .int (nI μ.n), .int (nI μ.sq), .int (nI μ.sf), .int (nI μ.rs), .int (rI μ.ba), .int (nI μ.pr), .int (nI μ.mi), .ref D.kf, .ref D.nf, .ref D.rf, .ref D.lf, .ref D.sv, .ref D.bk, .ref D.od, .ref D.vf, .ref D.bv, .ref D.df, .ref D.ss, .ref D.bd, .ref D.ks, .ref D.bt])) := dk_here hw_7319
  have h_7321 : w_7318 D.kf = some (101, dk_ci G 700 (fun i9 => nI (μ.kf i9))) := dk_keep hw_7319 hh_7317 hm.kf (by decide)
  have h_7322 : w_7318 D.nf = some (102, dk_ci G 700 (fun i9 => nI (μ.nf i9))) := dk_keep hw_7319 hh_7317 hm.nf (by decide)
  have h_7323 : w_7318 D.rf = some (103, dk_ci G 700 (fun i9 => rI (μ.rf i9))) := dk_keep hw_7319 hh_7317 hm.rf (by decide)
  have h_7324 : w_7318 D.lf = some (104, dk_ci G 5000 (fun i9 => rI (μ.lf i9))) := dk_keep hw_7319 hh_7317 hm.lf (by decide)
  have h_7325 : w_7318 D.sv = some (105, dk_ci G 6 (fun i9 => nI (μ.sv i9))) := dk_keep hw_7319 hh_7317 hm.sv (by decide)
  have h_7326 : w_7318 D.bk = some (106, dk_ci G 16 (fun i9 => nI (μ.bk i9))) := dk_keep hw_7319 hh_7317 hm.bk (by decide)
  have h_7327 : w_7318 D.od = some (107, dk_ci G 700 (fun i9 => nI (μ.od i9))) := dk_keep hw_7319 hh_7317 hm.od (by decide)
  have h_7328 : w_7318 D.vf = some (108, dk_cl G 700 (fun i9 => μ.vf i9)) := dk_keep hw_7319 hh_7317 hm.vf (by decide)
  have h_7329 : w_7318 D.bv = some (109, dk_cl G 16 (fun i9 => μ.bv i9)) := dk_keep hw_7319 hh_7317 hm.bv (by decide)
  have h_7330 : w_7318 D.df = some (110, dk_cz G 700 (fun i9 => bo_i (μ.df i9))) := dk_keep hw_7319 hh_7317 hm.df (by decide)
  have h_7331 : w_7318 D.ss = some (111, dk_cz G 6 (fun i9 => bo_i (μ.ss i9))) := dk_keep hw_7319 hh_7317 hm.ss (by decide)
  have h_7332 : w_7318 D.bd = some (112, dk_cz G 16 (fun i9 => bo_i (μ.bd i9))) := dk_keep hw_7319 hh_7317 hm.bd (by decide)
  have h_7333 : w_7318 D.ks = some (113, dk_cz G 700 (fun i9 => bo_i (μ.ks i9))) := dk_keep hw_7319 hh_7317 hm.ks (by decide)
  have h_7334 : w_7318 D.bt = some (114, dk_cz G 6000 (fun i9 => bo_i (μ.bt i9))) := dk_keep hw_7319 hh_7317 hm.bt (by decide)
  have hm_7335 : md_at G w_7318 h D (μ.er' 0) := ⟨h_7320, h_7321, h_7322, h_7323, h_7324, h_7325, h_7326, h_7327, h_7328, h_7329, h_7330, h_7331, h_7332, h_7333, h_7334⟩
  have hh_7336 : w_7318 h = some (100, .inr (cx_M, [.int (nI 0), .int (nI μ.n), .int (nI μ.sq), .int (nI μ.sf), .int (nI μ.rs), .int (rI μ.ba), .int (nI μ.pr), .int (nI μ.mi), .ref D.kf, .ref D.nf, .ref D.rf, .ref D.lf, .ref D.sv, .ref D.bk, .ref D.od, .ref D.vf, .ref D.bv, .ref D.df, .ref D.ss, .ref D.bd, .ref D.ks, .ref D.bt])) := hm_7335.o
  have ha_7337 : w_7318 D.kf = some (101, dk_ci G 700 (fun i9 => nI (μ.kf i9))) := hm_7335.kf
  have ha_7338 : w_7318 D.nf = some (102, dk_ci G 700 (fun i9 => nI (μ.nf i9))) := hm_7335.nf
  have ha_7339 : w_7318 D.rf = some (103, dk_ci G 700 (fun i9 => rI (μ.rf i9))) := hm_7335.rf
  have ha_7340 : w_7318 D.lf = some (104, dk_ci G 5000 (fun i9 => rI (μ.lf i9))) := hm_7335.lf
  have ha_7341 : w_7318 D.sv = some (105, dk_ci G 6 (fun i9 => nI (μ.sv i9))) := hm_7335.sv
  have ha_7342 : w_7318 D.bk = some (106, dk_ci G 16 (fun i9 => nI (μ.bk i9))) := hm_7335.bk
  have ha_7343 : w_7318 D.od = some (107, dk_ci G 700 (fun i9 => nI (μ.od i9))) := hm_7335.od
  have ha_7344 : w_7318 D.vf = some (108, dk_cl G 700 (fun i9 => μ.vf i9)) := hm_7335.vf
  have ha_7345 : w_7318 D.bv = some (109, dk_cl G 16 (fun i9 => μ.bv i9)) := hm_7335.bv
  have ha_7346 : w_7318 D.df = some (110, dk_cz G 700 (fun i9 => bo_i (μ.df i9))) := hm_7335.df
  have ha_7347 : w_7318 D.ss = some (111, dk_cz G 6 (fun i9 => bo_i (μ.ss i9))) := hm_7335.ss
  have ha_7348 : w_7318 D.bd = some (112, dk_cz G 16 (fun i9 => bo_i (μ.bd i9))) := hm_7335.bd
  have ha_7349 : w_7318 D.ks = some (113, dk_cz G 700 (fun i9 => bo_i (μ.ks i9))) := hm_7335.ks
  have ha_7350 : w_7318 D.bt = some (114, dk_cz G 6000 (fun i9 => bo_i (μ.bt i9))) := hm_7335.bt
  refine lv_aload_n hx hb de_M_merge_5 rfl (lv_at hl 0 rfl) ?_
  refine lv_iload_n hx hb de_M_merge_6 rfl (lv_at hl 1 rfl) ?_
  refine lv_iconst (v := nI 0) hx hb de_M_merge_7 (by decide) ?_
  refine lv_bipush (v := nI 100) hx hb de_M_merge_8 (by decide) ?_
  refine dk_calli (va_runS (As := [.int (nI n9), .int (nI 0), .int (nI 100)]) (rest := [.ref h]) ⟨hx, hb, hml, hown, hts⟩ (c_M_in l G w_7318 (nI n9) (nI 0) (nI 100)) (va_cwS 3 hts (wd_gS wi_795 wi_793 wi_794 wi_8) rfl rfl rfl (by decide +kernel) ⟨Nat.le_of_ble_eq_true rfl, Nat.le_of_ble_eq_true rfl⟩) (dk_preS hE hP hS) rfl rfl hl.1 rfl (lv_room (Nat.le_of_ble_eq_true rfl)) de_M_merge_10 ⟨(by first | exact Nat.le_of_ble_eq_true rfl | (simp only [Nat.zero_add]; omega) | omega), (by first | exact Nat.le_of_ble_eq_true rfl | (simp only [Nat.zero_add]; omega) | omega)⟩) hS (fun r_7353 w_7351 H locs hq_7352 hP hS => ?_)
  rw [im_y (by decide) (by omega)] at hq_7352
  obtain ⟨hr_7354, he_7355⟩ := hq_7352
  subst hr_7354
  rw [he_7355] at hP
  refine bo_if_ne (b := true) (tgt := 20) hx hb de_M_merge_13 (by decide) (fun c_7356 => ?_) (fun c_7356 => ?_)
  · refine lv_iconst (v := nI 0) hx hb de_M_merge_20 (by decide) ?_
    refine lv_iconst (v := nI 1) hx hb de_M_merge_21 (by decide) ?_
    rw [show (nI 0) = bo_i false from (by decide)]
    refine dk_calli (va_runV (As := [.int (bo_i false), .int (nI 1)]) (rest := []) ⟨hx, hb, hml, hown, hts⟩ (c_M_fails l G w_7318 h D (μ.er' 0) hm_7335 false 1 (by decide) (by decide) (show (0 : Nat) < 3 by decide)) (cwV 2 hts (wd_gV (C := "RunKeeperModel") wi_799 wi_796 wi_798 (wd_p (q := (⟨"RunKeeperModel", "fails", "(ZI)Z"⟩, 22)) (by decide +kernel) (by decide +kernel)) wi_8) rfl rfl rfl (by decide +kernel) ⟨Nat.le_of_ble_eq_true rfl, Nat.le_of_ble_eq_true rfl⟩) (dk_preV (kn_M, kt_M, 22) hE hP hS hh_7336 rfl) rfl rfl hl.1 rfl (lv_room (Nat.le_of_ble_eq_true rfl)) de_M_merge_22 ⟨(by first | exact Nat.le_of_ble_eq_true rfl | (simp only [Nat.zero_add]; omega) | omega), (by first | exact Nat.le_of_ble_eq_true rfl | (simp only [Nat.zero_add]; omega) | omega)⟩) hS (fun r_7359 w_7357 H locs hq_7358 hP hS => ?_)
    obtain ⟨hr_7360, hq_7361, hf_7362⟩ := hq_7358
    subst hr_7360
    have hm_7363 : md_at G w_7357 h D ((μ.er' 0).er' 0) := hq_7361
    have hh_7364 : w_7357 h = some (100, .inr (cx_M, [.int (nI 0), .int (nI μ.n), .int (nI μ.sq), .int (nI μ.sf), .int (nI μ.rs), .int (rI μ.ba), .int (nI μ.pr), .int (nI μ.mi), .ref D.kf, .ref D.nf, .ref D.rf, .ref D.lf, .ref D.sv, .ref D.bk, .ref D.od, .ref D.vf, .ref D.bv, .ref D.df, .ref D.ss, .ref D.bd, .ref D.ks, .ref D.bt])) := hm_7363.o
    have ha_7365 : w_7357 D.kf = some (101, dk_ci G 700 (fun i9 => nI (μ.kf i9))) := hm_7363.kf
    have ha_7366 : w_7357 D.nf = some (102, dk_ci G 700 (fun i9 => nI (μ.nf i9))) := hm_7363.nf
    have ha_7367 : w_7357 D.rf = some (103, dk_ci G 700 (fun i9 => rI (μ.rf i9))) := hm_7363.rf
    have ha_7368 : w_7357 D.lf = some (104, dk_ci G 5000 (fun i9 => rI (μ.lf i9))) := hm_7363.lf
    have ha_7369 : w_7357 D.sv = some (105, dk_ci G 6 (fun i9 => nI (μ.sv i9))) := hm_7363.sv
    have ha_7370 : w_7357 D.bk = some (106, dk_ci G 16 (fun i9 => nI (μ.bk i9))) := hm_7363.bk
    have ha_7371 : w_7357 D.od = some (107, dk_ci G 700 (fun i9 => nI (μ.od i9))) := hm_7363.od
    have ha_7372 : w_7357 D.vf = some (108, dk_cl G 700 (fun i9 => μ.vf i9)) := hm_7363.vf
    have ha_7373 : w_7357 D.bv = some (109, dk_cl G 16 (fun i9 => μ.bv i9)) := hm_7363.bv
    have ha_7374 : w_7357 D.df = some (110, dk_cz G 700 (fun i9 => bo_i (μ.df i9))) := hm_7363.df
    have ha_7375 : w_7357 D.ss = some (111, dk_cz G 6 (fun i9 => bo_i (μ.ss i9))) := hm_7363.ss
    have ha_7376 : w_7357 D.bd = some (112, dk_cz G 16 (fun i9 => bo_i (μ.bd i9))) := hm_7363.bd
    have ha_7377 : w_7357 D.ks = some (113, dk_cz G 700 (fun i9 => bo_i (μ.ks i9))) := hm_7363.ks
    have ha_7378 : w_7357 D.bt = some (114, dk_cz G 6000 (fun i9 => bo_i (μ.bt i9))) := hm_7363.bt
    refine bo_if_eq (b := false) (tgt := 30) hx hb de_M_merge_25 (by decide) (fun c_7379 => ?_) (fun c_7379 => ?_)
    · refine lv_iconst (v := nI 0) hx hb de_M_merge_30 (by decide) ?_
      refine lv_istore_n (lv' := [(2, .int (nI 0)), (0, .ref h), (1, .int (nI n9))]) hx hb de_M_merge_31 rfl hl (by decide) rfl (fun ls hl => ?_)
      have lp : ∀ (zk : Nat) (k : Nat) (ν : md_S), n9 - k < zk → (k ≤ n9) → (md_mk (μ.er' 0) k ν) → (md_ok ν ∧ ν.rs = μ.rs + k) → ∀ (H : Heap) (locs : List Loc) (v : dk_H), (md_at G v h D ν) → (dk_fr md_T w v) → dk_P G v H → dk_S G s.heap H locs → ∀ (ls : Array Slot), lv_has ls 3 [(0, .ref h), (1, .int (nI n9)), (2, .int (nI k))] → W p l e rm_M_merge s m args below meth c H locs (0 + 0 + 0) (0 + 0 + 0) Q (F0 m 32 ls []) := by
        intro zk
        induction zk with
        | zero =>
          intro k ν hk
          exact absurd hk (by omega)
        | succ zk ih =>
          intro k ν hk hk1 hmk hok
          intro H locs v hmv hg hP hS
          intro ls hl
          have hh_7380 : v h = some (100, .inr (cx_M, [.int (nI ν.er), .int (nI ν.n), .int (nI ν.sq), .int (nI ν.sf), .int (nI ν.rs), .int (rI ν.ba), .int (nI ν.pr), .int (nI ν.mi), .ref D.kf, .ref D.nf, .ref D.rf, .ref D.lf, .ref D.sv, .ref D.bk, .ref D.od, .ref D.vf, .ref D.bv, .ref D.df, .ref D.ss, .ref D.bd, .ref D.ks, .ref D.bt])) := hmv.o
          refine lv_iload_n hx hb de_M_merge_32 rfl (lv_at hl 2 rfl) ?_
          refine lv_iload_n hx hb de_M_merge_33 rfl (lv_at hl 1 rfl) ?_
          refine nx_icmp_ge (a := k) (b := n9) (tgt := 50) hx hb (by omega) (by omega) de_M_merge_34 (by decide) (fun c_7381 => ?_) (fun c_7381 => ?_)
          · refine lv_iload_n hx hb de_M_merge_50 rfl (lv_at hl 2 rfl) ?_
            exact dk_iret hQ hx hb hr hlocks hP hS (Nat.le_refl _) (Nat.le_refl _) (⟨k, ν, rfl, hk1, hmk, fun z => absurd z (by omega), hmv, hg⟩) de_M_merge_51
          · refine lv_aload_n hx hb de_M_merge_37 rfl (lv_at hl 0 rfl) ?_
            rcases ro_or ν 5 with hno | ⟨l9, hl5, hl4, hno⟩
            · refine dk_calli (va_runV (As := []) (rest := []) ⟨hx, hb, hml, hown, hts⟩ (c_M_step0 l G v h D ν hmv hok.1 hno) (cwV 0 hts (wd_gV (C := "RunKeeperModel") wi_839 wi_836 wi_838 (wd_p (q := (⟨"RunKeeperModel", "step", "()Z"⟩, 22)) (by decide +kernel) (by decide +kernel)) wi_8) rfl rfl rfl (by decide +kernel) ⟨Nat.le_of_ble_eq_true rfl, Nat.le_of_ble_eq_true rfl⟩) (dk_preV (kn_M, kt_M, 22) hE hP hS hh_7380 rfl) rfl rfl hl.1 rfl (lv_room (Nat.le_of_ble_eq_true rfl)) de_M_merge_38 ⟨(by first | exact Nat.le_of_ble_eq_true rfl | (simp only [Nat.zero_add]; omega) | omega), (by first | exact Nat.le_of_ble_eq_true rfl | (simp only [Nat.zero_add]; omega) | omega)⟩) hS (fun r_7384 w_7382 H locs hq_7383 hP hS => ?_)
              obtain ⟨hr_7385, he_7386⟩ := hq_7383
              subst hr_7385
              rw [he_7386] at hP
              refine bo_if_eq (b := false) (tgt := 50) hx hb de_M_merge_41 (by decide) (fun c_7387 => ?_) (fun c_7387 => ?_)
              · refine lv_iload_n hx hb de_M_merge_50 rfl (lv_at hl 2 rfl) ?_
                exact dk_iret hQ hx hb hr hlocks hP hS (Nat.le_refl _) (Nat.le_refl _) (⟨k, ν, rfl, hk1, hmk, fun _ => hno, hmv, hg⟩) de_M_merge_51
              · exact absurd c_7387 (by decide)
            · refine dk_calli (va_runV (As := []) (rest := []) ⟨hx, hb, hml, hown, hts⟩ (c_M_step1 l G v h D ν hmv hok.1 l9 hl5 hl4 hno) (cwV 0 hts (wd_gV (C := "RunKeeperModel") wi_839 wi_836 wi_838 (wd_p (q := (⟨"RunKeeperModel", "step", "()Z"⟩, 22)) (by decide +kernel) (by decide +kernel)) wi_8) rfl rfl rfl (by decide +kernel) ⟨Nat.le_of_ble_eq_true rfl, Nat.le_of_ble_eq_true rfl⟩) (dk_preV (kn_M, kt_M, 22) hE hP hS hh_7380 rfl) rfl rfl hl.1 rfl (lv_room (Nat.le_of_ble_eq_true rfl)) de_M_merge_38 ⟨(by first | exact Nat.le_of_ble_eq_true rfl | (simp only [Nat.zero_add]; omega) | omega), (by first | exact Nat.le_of_ble_eq_true rfl | (simp only [Nat.zero_add]; omega) | omega)⟩) hS (fun r_7390 w_7388 H locs hq_7389 hP hS => ?_)
              obtain ⟨hr9, ⟨f9, htr, hm9⟩, hf9⟩ := hq_7389
              subst hr9
              refine bo_if_eq (b := true) (tgt := 50) hx hb de_M_merge_41 (by decide) (fun c_7391 => ?_) (fun c_7391 => ?_)
              · exact absurd c_7391 (by decide)
              · refine lv_iinc (v := nI (k + 1)) (lv' := [(2, .int (nI (k + 1))), (0, .ref h), (1, .int (nI n9))]) hx hb de_M_merge_44 hl (k := 2) rfl (nx_inc k) (by decide) rfl (fun ls hl => ?_)
                refine lv_goto (tgt := 32) hx hb de_M_merge_47 (by decide) ?_
                exact ih (k + 1) (md_st ν l9 f9) (by omega) (by omega) (⟨ν, hmk, l9, f9, hl5, hl4, hno, htr, rfl⟩) (⟨md_st_ok hok.1 hl5 (by omega), by rw [md_st_rs, hok.2]; omega⟩) _ _ _ hm9 (hg.tr hf9) hP hS _ (lv_sub hl [1, 2, 0] rfl)
      exact lp (n9 + 1) 0 (μ.er' 0) (by omega) (by omega) rfl (⟨⟨ok1, ok2, ok3, ok4, ok5, ok6, ok7, ok8, ok9, ok10, show (0 : Nat) < 3 by decide⟩, rfl⟩) _ _ _ hm_7363 (((dk_fr.rf).tr ((dk_fr.up (T := md_T) hh_7317 (by unfold md_T; omega)).eq hw_7319)).tr (hf_7362)) hP hS _ (lv_sub hl [1, 2, 0] rfl)
    · exact absurd c_7379 (by decide)
  · exact absurd c_7356 (by decide)
