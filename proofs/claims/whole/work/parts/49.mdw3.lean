/-! RunKeeperModel: writing (printed by gen/c_md3.py) -/
/-- how many entries the table has -/
abbrev md_k (μ : md_S) : Nat := ct_f (fun k9 => decide (μ.rf k9 = none)) μ.n
theorem md_k_le (μ : md_S) : md_k μ ≤ μ.n := ct_le _ _
def md_b (μ : md_S) (k : Nat) (z : Int64) (b : Bool) (b9 : Nat) : md_S := ((((μ.er' 0).bk' (va_up μ.bk b9 k)).bv' (va_up μ.bv b9 z)).bd' (va_up μ.bd b9 b)).ba' (some (b9 + 1))
def md_ff (μ : md_S) : md_S := if 24 ≤ md_k μ then md_fl μ else μ
theorem md_fl_sq (μ : md_S) : (md_fl μ).sq = μ.sq := by
  unfold md_fl
  split <;> rfl
theorem up_all {α : Type} {f : Nat → α} {j : Nat} {v : α} {P : α → Prop} (h : ∀ i, P (f i)) (hv : P v) : ∀ i, P (va_up f j v i) := by
  intro i
  by_cases e : i = j
  · subst e; rw [dk_us]; exact hv
  · rw [dk_un e]; exact h i
theorem md_w_ok {μ : md_S} {k : Nat} {z : Int64} {b : Bool} (h : md_ok μ) (hk : k < 1024) (hn : μ.n < 640) (hs : μ.sq + 1 < 2 ^ 30) : md_ok (md_w μ k z b) := by
  obtain ⟨ok1, ok2, ok3, ok4, ok5, ok6, ok7, ok8, ok9, ok10, ok11⟩ := h
  exact ⟨up_all (P := fun v => v < 1024) ok1 hk, up_all (P := fun v => v < 2 ^ 30) ok2 hs, fun i => up_all (P := fun o => ∀ r, o = some r → r < 5000) ok3 (fun r hr => by cases hr) i, ok4, by show μ.n + 1 ≤ 640; omega, ok6, hs, ok8, ok9, ok10, ok11⟩
abbrev rm_M_written : Room := { frames := 1, cells := 0, slots := 0, locals := 24 }
set_option maxHeartbeats 4000000 in
set_option maxRecDepth 100000 in
theorem c_M_writtenK (l : Launch) (G : dk_G) (w : dk_H) (h : Nat) (D : md_D) (μ : md_S) (hm : md_at G w h D μ) (hmo : md_ok μ) (k : Int32) (hk0 : im_b k (nI 0) (nI 1023) = false) (z : Int64) (b : Bool) : dk_Mi l my_M_written (wd_c my_M_written mb_M_written 5 (some .int)) rm_M_written G w [.ref h, .int k, .long z, .int (bo_i b)] (fun r w1 => r = nI 0 ∧ md_at G w1 h D (μ.er' 1) ∧ dk_fr md_T w w1) 0 0 := by
  obtain ⟨ok1, ok2, ok3, ok4, ok5, ok6, ok7, ok8, ok9, ok10, ok11⟩ := id hmo
  refine dk_enter (lv := [(0, .ref h), (1, .int k), (2, .long z), (4, .int (bo_i b))]) (by decide) (Nat.le_of_ble_eq_true rfl) rfl (fun p e s m args below meth c ls Q hQ C hP hS hl => ?_)
  obtain ⟨hx, hb, hr, hml, hlocks, hown, hnm, hts, hE⟩ := C
  have hK := hE.1
  have hN := hE.2.1
  have hh_1959 : w h = some (100, .inr (cx_M, [.int (nI μ.er), .int (nI μ.n), .int (nI μ.sq), .int (nI μ.sf), .int (nI μ.rs), .int (rI μ.ba), .int (nI μ.pr), .int (nI μ.mi), .ref D.kf, .ref D.nf, .ref D.rf, .ref D.lf, .ref D.sv, .ref D.bk, .ref D.od, .ref D.vf, .ref D.bv, .ref D.df, .ref D.ss, .ref D.bd, .ref D.ks, .ref D.bt])) := hm.o
  refine lv_aload_n hx hb de_M_written_0 rfl (lv_at hl 0 rfl) ?_
  refine lv_iconst (v := nI 0) hx hb de_M_written_1 (by decide) ?_
  refine dk_put (a := h) (v := .int (nI 0)) (ty := .int) (C := kn_M) (T := kt_M) (N := 22) hx hb hts ki_M ky_M kk_M kd_M hown hK hP hS hh_1959 rfl 0 (by decide) (hts _ wi_714) (fun _ h9 => h9) rfl (by decide +kernel) rfl rfl (Nat.le_of_ble_eq_true rfl) de_M_written_2 (fun H locs w_1960 hw_1961 hP hS => ?_)
  have h_1962 : w_1960 h = some (100, .inr (cx_M, [.int (nI 0), .int (nI μ.n), .int (nI μ.sq), .int (nI μ.sf), .int (nI μ.rs), .int (rI μ.ba), .int (nI μ.pr), .int (nI μ.mi), .ref D.kf, .ref D.nf, .ref D.rf, .ref D.lf, .ref D.sv, .ref D.bk, .ref D.od, .ref D.vf, .ref D.bv, .ref D.df, .ref D.ss, .ref D.bd, .ref D.ks, .ref D.bt])) := dk_here hw_1961
  have h_1963 : w_1960 D.kf = some (101, dk_ci G 700 (fun i9 => nI (μ.kf i9))) := dk_keep hw_1961 hh_1959 hm.kf (by decide)
  have h_1964 : w_1960 D.nf = some (102, dk_ci G 700 (fun i9 => nI (μ.nf i9))) := dk_keep hw_1961 hh_1959 hm.nf (by decide)
  have h_1965 : w_1960 D.rf = some (103, dk_ci G 700 (fun i9 => rI (μ.rf i9))) := dk_keep hw_1961 hh_1959 hm.rf (by decide)
  have h_1966 : w_1960 D.lf = some (104, dk_ci G 5000 (fun i9 => rI (μ.lf i9))) := dk_keep hw_1961 hh_1959 hm.lf (by decide)
  have h_1967 : w_1960 D.sv = some (105, dk_ci G 6 (fun i9 => nI (μ.sv i9))) := dk_keep hw_1961 hh_1959 hm.sv (by decide)
  have h_1968 : w_1960 D.bk = some (106, dk_ci G 16 (fun i9 => nI (μ.bk i9))) := dk_keep hw_1961 hh_1959 hm.bk (by decide)
  have h_1969 : w_1960 D.od = some (107, dk_ci G 700 (fun i9 => nI (μ.od i9))) := dk_keep hw_1961 hh_1959 hm.od (by decide)
  have h_1970 : w_1960 D.vf = some (108, dk_cl G 700 (fun i9 => μ.vf i9)) := dk_keep hw_1961 hh_1959 hm.vf (by decide)
  have h_1971 : w_1960 D.bv = some (109, dk_cl G 16 (fun i9 => μ.bv i9)) := dk_keep hw_1961 hh_1959 hm.bv (by decide)
  have h_1972 : w_1960 D.df = some (110, dk_cz G 700 (fun i9 => bo_i (μ.df i9))) := dk_keep hw_1961 hh_1959 hm.df (by decide)
  have h_1973 : w_1960 D.ss = some (111, dk_cz G 6 (fun i9 => bo_i (μ.ss i9))) := dk_keep hw_1961 hh_1959 hm.ss (by decide)
  have h_1974 : w_1960 D.bd = some (112, dk_cz G 16 (fun i9 => bo_i (μ.bd i9))) := dk_keep hw_1961 hh_1959 hm.bd (by decide)
  have h_1975 : w_1960 D.ks = some (113, dk_cz G 700 (fun i9 => bo_i (μ.ks i9))) := dk_keep hw_1961 hh_1959 hm.ks (by decide)
  have h_1976 : w_1960 D.bt = some (114, dk_cz G 6000 (fun i9 => bo_i (μ.bt i9))) := dk_keep hw_1961 hh_1959 hm.bt (by decide)
  have hm_1977 : md_at G w_1960 h D (μ.er' 0) := ⟨h_1962, h_1963, h_1964, h_1965, h_1966, h_1967, h_1968, h_1969, h_1970, h_1971, h_1972, h_1973, h_1974, h_1975, h_1976⟩
  have hh_1978 : w_1960 h = some (100, .inr (cx_M, [.int (nI 0), .int (nI μ.n), .int (nI μ.sq), .int (nI μ.sf), .int (nI μ.rs), .int (rI μ.ba), .int (nI μ.pr), .int (nI μ.mi), .ref D.kf, .ref D.nf, .ref D.rf, .ref D.lf, .ref D.sv, .ref D.bk, .ref D.od, .ref D.vf, .ref D.bv, .ref D.df, .ref D.ss, .ref D.bd, .ref D.ks, .ref D.bt])) := hm_1977.o
  have ha_1979 : w_1960 D.kf = some (101, dk_ci G 700 (fun i9 => nI (μ.kf i9))) := hm_1977.kf
  have ha_1980 : w_1960 D.nf = some (102, dk_ci G 700 (fun i9 => nI (μ.nf i9))) := hm_1977.nf
  have ha_1981 : w_1960 D.rf = some (103, dk_ci G 700 (fun i9 => rI (μ.rf i9))) := hm_1977.rf
  have ha_1982 : w_1960 D.lf = some (104, dk_ci G 5000 (fun i9 => rI (μ.lf i9))) := hm_1977.lf
  have ha_1983 : w_1960 D.sv = some (105, dk_ci G 6 (fun i9 => nI (μ.sv i9))) := hm_1977.sv
  have ha_1984 : w_1960 D.bk = some (106, dk_ci G 16 (fun i9 => nI (μ.bk i9))) := hm_1977.bk
  have ha_1985 : w_1960 D.od = some (107, dk_ci G 700 (fun i9 => nI (μ.od i9))) := hm_1977.od
  have ha_1986 : w_1960 D.vf = some (108, dk_cl G 700 (fun i9 => μ.vf i9)) := hm_1977.vf
  have ha_1987 : w_1960 D.bv = some (109, dk_cl G 16 (fun i9 => μ.bv i9)) := hm_1977.bv
  have ha_1988 : w_1960 D.df = some (110, dk_cz G 700 (fun i9 => bo_i (μ.df i9))) := hm_1977.df
  have ha_1989 : w_1960 D.ss = some (111, dk_cz G 6 (fun i9 => bo_i (μ.ss i9))) := hm_1977.ss
  have ha_1990 : w_1960 D.bd = some (112, dk_cz G 16 (fun i9 => bo_i (μ.bd i9))) := hm_1977.bd
  have ha_1991 : w_1960 D.ks = some (113, dk_cz G 700 (fun i9 => bo_i (μ.ks i9))) := hm_1977.ks
  have ha_1992 : w_1960 D.bt = some (114, dk_cz G 6000 (fun i9 => bo_i (μ.bt i9))) := hm_1977.bt
  refine lv_aload_n hx hb de_M_written_5 rfl (lv_at hl 0 rfl) ?_
  refine lv_iload_n hx hb de_M_written_6 rfl (lv_at hl 1 rfl) ?_
  refine lv_iconst (v := nI 0) hx hb de_M_written_7 (by decide) ?_
  refine lv_sipush (v := nI 1023) hx hb de_M_written_8 (by decide) ?_
  refine dk_calli (va_runS (As := [.int k, .int (nI 0), .int (nI 1023)]) (rest := [.ref h]) ⟨hx, hb, hml, hown, hts⟩ (c_M_in l G w_1960 k (nI 0) (nI 1023)) (va_cwS 3 hts (wd_gS wi_795 wi_793 wi_794 wi_8) rfl rfl rfl (by decide +kernel) ⟨Nat.le_of_ble_eq_true rfl, Nat.le_of_ble_eq_true rfl⟩) (dk_preS hE hP hS) rfl rfl hl.1 rfl (lv_room (Nat.le_of_ble_eq_true rfl)) de_M_written_11 ⟨(by first | exact Nat.le_of_ble_eq_true rfl | (simp only [Nat.zero_add]; omega) | omega), (by first | exact Nat.le_of_ble_eq_true rfl | (simp only [Nat.zero_add]; omega) | omega)⟩) hS (fun r_1995 w_1993 H locs hq_1994 hP hS => ?_)
  rw [hk0] at hq_1994
  obtain ⟨hr_1996, he_1997⟩ := hq_1994
  subst hr_1996
  rw [he_1997] at hP
  refine bo_if_ne (b := false) (tgt := 21) hx hb de_M_written_14 (by decide) (fun c_1998 => ?_) (fun c_1998 => ?_)
  · exact absurd c_1998 (by decide)
  · refine lv_iconst (v := nI 1) hx hb de_M_written_17 (by decide) ?_
    refine lv_goto (tgt := 22) hx hb de_M_written_18 (by decide) ?_
    refine lv_iconst (v := nI 1) hx hb de_M_written_22 (by decide) ?_
    rw [show (nI 1) = bo_i true from (by decide)]
    refine dk_calli (va_runV (As := [.int (bo_i true), .int (nI 1)]) (rest := []) ⟨hx, hb, hml, hown, hts⟩ (c_M_fails l G w_1960 h D (μ.er' 0) hm_1977 true 1 (by decide) (by decide) (show (0 : Nat) < 3 by decide)) (cwV 2 hts (wd_gV (C := "RunKeeperModel") wi_799 wi_796 wi_798 (wd_p (q := (⟨"RunKeeperModel", "fails", "(ZI)Z"⟩, 22)) (by decide +kernel) (by decide +kernel)) wi_8) rfl rfl rfl (by decide +kernel) ⟨Nat.le_of_ble_eq_true rfl, Nat.le_of_ble_eq_true rfl⟩) (dk_preV (kn_M, kt_M, 22) hE hP hS hh_1978 rfl) rfl rfl hl.1 rfl (lv_room (Nat.le_of_ble_eq_true rfl)) de_M_written_23 ⟨(by first | exact Nat.le_of_ble_eq_true rfl | (simp only [Nat.zero_add]; omega) | omega), (by first | exact Nat.le_of_ble_eq_true rfl | (simp only [Nat.zero_add]; omega) | omega)⟩) hS (fun r_2001 w_1999 H locs hq_2000 hP hS => ?_)
    obtain ⟨hr_2002, hq_2003, hf_2004⟩ := hq_2000
    subst hr_2002
    have hm_2005 : md_at G w_1999 h D ((μ.er' 0).er' 1) := hq_2003
    have hh_2006 : w_1999 h = some (100, .inr (cx_M, [.int (nI 1), .int (nI μ.n), .int (nI μ.sq), .int (nI μ.sf), .int (nI μ.rs), .int (rI μ.ba), .int (nI μ.pr), .int (nI μ.mi), .ref D.kf, .ref D.nf, .ref D.rf, .ref D.lf, .ref D.sv, .ref D.bk, .ref D.od, .ref D.vf, .ref D.bv, .ref D.df, .ref D.ss, .ref D.bd, .ref D.ks, .ref D.bt])) := hm_2005.o
    have ha_2007 : w_1999 D.kf = some (101, dk_ci G 700 (fun i9 => nI (μ.kf i9))) := hm_2005.kf
    have ha_2008 : w_1999 D.nf = some (102, dk_ci G 700 (fun i9 => nI (μ.nf i9))) := hm_2005.nf
    have ha_2009 : w_1999 D.rf = some (103, dk_ci G 700 (fun i9 => rI (μ.rf i9))) := hm_2005.rf
    have ha_2010 : w_1999 D.lf = some (104, dk_ci G 5000 (fun i9 => rI (μ.lf i9))) := hm_2005.lf
    have ha_2011 : w_1999 D.sv = some (105, dk_ci G 6 (fun i9 => nI (μ.sv i9))) := hm_2005.sv
    have ha_2012 : w_1999 D.bk = some (106, dk_ci G 16 (fun i9 => nI (μ.bk i9))) := hm_2005.bk
    have ha_2013 : w_1999 D.od = some (107, dk_ci G 700 (fun i9 => nI (μ.od i9))) := hm_2005.od
    have ha_2014 : w_1999 D.vf = some (108, dk_cl G 700 (fun i9 => μ.vf i9)) := hm_2005.vf
    have ha_2015 : w_1999 D.bv = some (109, dk_cl G 16 (fun i9 => μ.bv i9)) := hm_2005.bv
    have ha_2016 : w_1999 D.df = some (110, dk_cz G 700 (fun i9 => bo_i (μ.df i9))) := hm_2005.df
    have ha_2017 : w_1999 D.ss = some (111, dk_cz G 6 (fun i9 => bo_i (μ.ss i9))) := hm_2005.ss
    have ha_2018 : w_1999 D.bd = some (112, dk_cz G 16 (fun i9 => bo_i (μ.bd i9))) := hm_2005.bd
    have ha_2019 : w_1999 D.ks = some (113, dk_cz G 700 (fun i9 => bo_i (μ.ks i9))) := hm_2005.ks
    have ha_2020 : w_1999 D.bt = some (114, dk_cz G 6000 (fun i9 => bo_i (μ.bt i9))) := hm_2005.bt
    refine bo_if_ne (b := true) (tgt := 76) hx hb de_M_written_26 (by decide) (fun c_2021 => ?_) (fun c_2021 => ?_)
    · refine lv_iconst (v := nI 0) hx hb de_M_written_76 (by decide) ?_
      exact dk_iret hQ hx hb hr hlocks hP hS (Nat.le_refl _) (Nat.le_refl _) (⟨rfl, hm_2005, ((dk_fr.rf).tr ((dk_fr.up (T := md_T) hh_1959 (by unfold md_T; omega)).eq hw_1961)).tr (hf_2004)⟩) de_M_written_77
    · exact absurd c_2021 (by decide)
set_option maxHeartbeats 4000000 in
set_option maxRecDepth 100000 in
theorem c_M_writtenB (l : Launch) (G : dk_G) (w : dk_H) (h : Nat) (D : md_D) (μ : md_S) (hm : md_at G w h D μ) (hmo : md_ok μ) (k : Nat) (hk0 : k < 1024) (b9 : Nat) (hba : μ.ba = some b9) (hb9 : b9 = 16) (z : Int64) (b : Bool) : dk_Mi l my_M_written (wd_c my_M_written mb_M_written 5 (some .int)) rm_M_written G w [.ref h, .int (nI k), .long z, .int (bo_i b)] (fun r w1 => r = nI 0 ∧ md_at G w1 h D (μ.er' 2) ∧ dk_fr md_T w w1) 0 0 := by
  obtain ⟨ok1, ok2, ok3, ok4, ok5, ok6, ok7, ok8, ok9, ok10, ok11⟩ := id hmo
  refine dk_enter (lv := [(0, .ref h), (1, .int (nI k)), (2, .long z), (4, .int (bo_i b))]) (by decide) (Nat.le_of_ble_eq_true rfl) rfl (fun p e s m args below meth c ls Q hQ C hP hS hl => ?_)
  obtain ⟨hx, hb, hr, hml, hlocks, hown, hnm, hts, hE⟩ := C
  have hK := hE.1
  have hN := hE.2.1
  have hh_2022 : w h = some (100, .inr (cx_M, [.int (nI μ.er), .int (nI μ.n), .int (nI μ.sq), .int (nI μ.sf), .int (nI μ.rs), .int (rI μ.ba), .int (nI μ.pr), .int (nI μ.mi), .ref D.kf, .ref D.nf, .ref D.rf, .ref D.lf, .ref D.sv, .ref D.bk, .ref D.od, .ref D.vf, .ref D.bv, .ref D.df, .ref D.ss, .ref D.bd, .ref D.ks, .ref D.bt])) := hm.o
  refine lv_aload_n hx hb de_M_written_0 rfl (lv_at hl 0 rfl) ?_
  refine lv_iconst (v := nI 0) hx hb de_M_written_1 (by decide) ?_
  refine dk_put (a := h) (v := .int (nI 0)) (ty := .int) (C := kn_M) (T := kt_M) (N := 22) hx hb hts ki_M ky_M kk_M kd_M hown hK hP hS hh_2022 rfl 0 (by decide) (hts _ wi_714) (fun _ h9 => h9) rfl (by decide +kernel) rfl rfl (Nat.le_of_ble_eq_true rfl) de_M_written_2 (fun H locs w_2023 hw_2024 hP hS => ?_)
  have h_2025 : w_2023 h = some (100, .inr (cx_M, [.int (nI 0), .int (nI μ.n), .int (nI μ.sq), .int (nI μ.sf), .int (nI μ.rs), .int (rI μ.ba), .int (nI μ.pr), .int (nI μ.mi), .ref D.kf, .ref D.nf, .ref D.rf, .ref D.lf, .ref D.sv, .ref D.bk, .ref D.od, .ref D.vf, .ref D.bv, .ref D.df, .ref D.ss, .ref D.bd, .ref D.ks, .ref D.bt])) := dk_here hw_2024
  have h_2026 : w_2023 D.kf = some (101, dk_ci G 700 (fun i9 => nI (μ.kf i9))) := dk_keep hw_2024 hh_2022 hm.kf (by decide)
  have h_2027 : w_2023 D.nf = some (102, dk_ci G 700 (fun i9 => nI (μ.nf i9))) := dk_keep hw_2024 hh_2022 hm.nf (by decide)
  have h_2028 : w_2023 D.rf = some (103, dk_ci G 700 (fun i9 => rI (μ.rf i9))) := dk_keep hw_2024 hh_2022 hm.rf (by decide)
  have h_2029 : w_2023 D.lf = some (104, dk_ci G 5000 (fun i9 => rI (μ.lf i9))) := dk_keep hw_2024 hh_2022 hm.lf (by decide)
  have h_2030 : w_2023 D.sv = some (105, dk_ci G 6 (fun i9 => nI (μ.sv i9))) := dk_keep hw_2024 hh_2022 hm.sv (by decide)
  have h_2031 : w_2023 D.bk = some (106, dk_ci G 16 (fun i9 => nI (μ.bk i9))) := dk_keep hw_2024 hh_2022 hm.bk (by decide)
  have h_2032 : w_2023 D.od = some (107, dk_ci G 700 (fun i9 => nI (μ.od i9))) := dk_keep hw_2024 hh_2022 hm.od (by decide)
  have h_2033 : w_2023 D.vf = some (108, dk_cl G 700 (fun i9 => μ.vf i9)) := dk_keep hw_2024 hh_2022 hm.vf (by decide)
  have h_2034 : w_2023 D.bv = some (109, dk_cl G 16 (fun i9 => μ.bv i9)) := dk_keep hw_2024 hh_2022 hm.bv (by decide)
  have h_2035 : w_2023 D.df = some (110, dk_cz G 700 (fun i9 => bo_i (μ.df i9))) := dk_keep hw_2024 hh_2022 hm.df (by decide)
  have h_2036 : w_2023 D.ss = some (111, dk_cz G 6 (fun i9 => bo_i (μ.ss i9))) := dk_keep hw_2024 hh_2022 hm.ss (by decide)
  have h_2037 : w_2023 D.bd = some (112, dk_cz G 16 (fun i9 => bo_i (μ.bd i9))) := dk_keep hw_2024 hh_2022 hm.bd (by decide)
  have h_2038 : w_2023 D.ks = some (113, dk_cz G 700 (fun i9 => bo_i (μ.ks i9))) := dk_keep hw_2024 hh_2022 hm.ks (by decide)
  have h_2039 : w_2023 D.bt = some (114, dk_cz G 6000 (fun i9 => bo_i (μ.bt i9))) := dk_keep hw_2024 hh_2022 hm.bt (by decide)
  have hm_2040 : md_at G w_2023 h D (μ.er' 0) := ⟨h_2025, h_2026, h_2027, h_2028, h_2029, h_2030, h_2031, h_2032, h_2033, h_2034, h_2035, h_2036, h_2037, h_2038, h_2039⟩
  have hh_2041 : w_2023 h = some (100, .inr (cx_M, [.int (nI 0), .int (nI μ.n), .int (nI μ.sq), .int (nI μ.sf), .int (nI μ.rs), .int (rI μ.ba), .int (nI μ.pr), .int (nI μ.mi), .ref D.kf, .ref D.nf, .ref D.rf, .ref D.lf, .ref D.sv, .ref D.bk, .ref D.od, .ref D.vf, .ref D.bv, .ref D.df, .ref D.ss, .ref D.bd, .ref D.ks, .ref D.bt])) := hm_2040.o
  have ha_2042 : w_2023 D.kf = some (101, dk_ci G 700 (fun i9 => nI (μ.kf i9))) := hm_2040.kf
  have ha_2043 : w_2023 D.nf = some (102, dk_ci G 700 (fun i9 => nI (μ.nf i9))) := hm_2040.nf
  have ha_2044 : w_2023 D.rf = some (103, dk_ci G 700 (fun i9 => rI (μ.rf i9))) := hm_2040.rf
  have ha_2045 : w_2023 D.lf = some (104, dk_ci G 5000 (fun i9 => rI (μ.lf i9))) := hm_2040.lf
  have ha_2046 : w_2023 D.sv = some (105, dk_ci G 6 (fun i9 => nI (μ.sv i9))) := hm_2040.sv
  have ha_2047 : w_2023 D.bk = some (106, dk_ci G 16 (fun i9 => nI (μ.bk i9))) := hm_2040.bk
  have ha_2048 : w_2023 D.od = some (107, dk_ci G 700 (fun i9 => nI (μ.od i9))) := hm_2040.od
  have ha_2049 : w_2023 D.vf = some (108, dk_cl G 700 (fun i9 => μ.vf i9)) := hm_2040.vf
  have ha_2050 : w_2023 D.bv = some (109, dk_cl G 16 (fun i9 => μ.bv i9)) := hm_2040.bv
  have ha_2051 : w_2023 D.df = some (110, dk_cz G 700 (fun i9 => bo_i (μ.df i9))) := hm_2040.df
  have ha_2052 : w_2023 D.ss = some (111, dk_cz G 6 (fun i9 => bo_i (μ.ss i9))) := hm_2040.ss
  have ha_2053 : w_2023 D.bd = some (112, dk_cz G 16 (fun i9 => bo_i (μ.bd i9))) := hm_2040.bd
  have ha_2054 : w_2023 D.ks = some (113, dk_cz G 700 (fun i9 => bo_i (μ.ks i9))) := hm_2040.ks
  have ha_2055 : w_2023 D.bt = some (114, dk_cz G 6000 (fun i9 => bo_i (μ.bt i9))) := hm_2040.bt
  refine lv_aload_n hx hb de_M_written_5 rfl (lv_at hl 0 rfl) ?_
  refine lv_iload_n hx hb de_M_written_6 rfl (lv_at hl 1 rfl) ?_
  refine lv_iconst (v := nI 0) hx hb de_M_written_7 (by decide) ?_
  refine lv_sipush (v := nI 1023) hx hb de_M_written_8 (by decide) ?_
  refine dk_calli (va_runS (As := [.int (nI k), .int (nI 0), .int (nI 1023)]) (rest := [.ref h]) ⟨hx, hb, hml, hown, hts⟩ (c_M_in l G w_2023 (nI k) (nI 0) (nI 1023)) (va_cwS 3 hts (wd_gS wi_795 wi_793 wi_794 wi_8) rfl rfl rfl (by decide +kernel) ⟨Nat.le_of_ble_eq_true rfl, Nat.le_of_ble_eq_true rfl⟩) (dk_preS hE hP hS) rfl rfl hl.1 rfl (lv_room (Nat.le_of_ble_eq_true rfl)) de_M_written_11 ⟨(by first | exact Nat.le_of_ble_eq_true rfl | (simp only [Nat.zero_add]; omega) | omega), (by first | exact Nat.le_of_ble_eq_true rfl | (simp only [Nat.zero_add]; omega) | omega)⟩) hS (fun r_2058 w_2056 H locs hq_2057 hP hS => ?_)
  rw [im_y (by decide) (by omega)] at hq_2057
  obtain ⟨hr_2059, he_2060⟩ := hq_2057
  subst hr_2059
  rw [he_2060] at hP
  refine bo_if_ne (b := true) (tgt := 21) hx hb de_M_written_14 (by decide) (fun c_2061 => ?_) (fun c_2061 => ?_)
  · refine lv_iconst (v := nI 0) hx hb de_M_written_21 (by decide) ?_
    refine lv_iconst (v := nI 1) hx hb de_M_written_22 (by decide) ?_
    rw [show (nI 0) = bo_i false from (by decide)]
    refine dk_calli (va_runV (As := [.int (bo_i false), .int (nI 1)]) (rest := []) ⟨hx, hb, hml, hown, hts⟩ (c_M_fails l G w_2023 h D (μ.er' 0) hm_2040 false 1 (by decide) (by decide) (show (0 : Nat) < 3 by decide)) (cwV 2 hts (wd_gV (C := "RunKeeperModel") wi_799 wi_796 wi_798 (wd_p (q := (⟨"RunKeeperModel", "fails", "(ZI)Z"⟩, 22)) (by decide +kernel) (by decide +kernel)) wi_8) rfl rfl rfl (by decide +kernel) ⟨Nat.le_of_ble_eq_true rfl, Nat.le_of_ble_eq_true rfl⟩) (dk_preV (kn_M, kt_M, 22) hE hP hS hh_2041 rfl) rfl rfl hl.1 rfl (lv_room (Nat.le_of_ble_eq_true rfl)) de_M_written_23 ⟨(by first | exact Nat.le_of_ble_eq_true rfl | (simp only [Nat.zero_add]; omega) | omega), (by first | exact Nat.le_of_ble_eq_true rfl | (simp only [Nat.zero_add]; omega) | omega)⟩) hS (fun r_2064 w_2062 H locs hq_2063 hP hS => ?_)
    obtain ⟨hr_2065, hq_2066, hf_2067⟩ := hq_2063
    subst hr_2065
    have hm_2068 : md_at G w_2062 h D ((μ.er' 0).er' 0) := hq_2066
    have hh_2069 : w_2062 h = some (100, .inr (cx_M, [.int (nI 0), .int (nI μ.n), .int (nI μ.sq), .int (nI μ.sf), .int (nI μ.rs), .int (rI μ.ba), .int (nI μ.pr), .int (nI μ.mi), .ref D.kf, .ref D.nf, .ref D.rf, .ref D.lf, .ref D.sv, .ref D.bk, .ref D.od, .ref D.vf, .ref D.bv, .ref D.df, .ref D.ss, .ref D.bd, .ref D.ks, .ref D.bt])) := hm_2068.o
    have ha_2070 : w_2062 D.kf = some (101, dk_ci G 700 (fun i9 => nI (μ.kf i9))) := hm_2068.kf
    have ha_2071 : w_2062 D.nf = some (102, dk_ci G 700 (fun i9 => nI (μ.nf i9))) := hm_2068.nf
    have ha_2072 : w_2062 D.rf = some (103, dk_ci G 700 (fun i9 => rI (μ.rf i9))) := hm_2068.rf
    have ha_2073 : w_2062 D.lf = some (104, dk_ci G 5000 (fun i9 => rI (μ.lf i9))) := hm_2068.lf
    have ha_2074 : w_2062 D.sv = some (105, dk_ci G 6 (fun i9 => nI (μ.sv i9))) := hm_2068.sv
    have ha_2075 : w_2062 D.bk = some (106, dk_ci G 16 (fun i9 => nI (μ.bk i9))) := hm_2068.bk
    have ha_2076 : w_2062 D.od = some (107, dk_ci G 700 (fun i9 => nI (μ.od i9))) := hm_2068.od
    have ha_2077 : w_2062 D.vf = some (108, dk_cl G 700 (fun i9 => μ.vf i9)) := hm_2068.vf
    have ha_2078 : w_2062 D.bv = some (109, dk_cl G 16 (fun i9 => μ.bv i9)) := hm_2068.bv
    have ha_2079 : w_2062 D.df = some (110, dk_cz G 700 (fun i9 => bo_i (μ.df i9))) := hm_2068.df
    have ha_2080 : w_2062 D.ss = some (111, dk_cz G 6 (fun i9 => bo_i (μ.ss i9))) := hm_2068.ss
    have ha_2081 : w_2062 D.bd = some (112, dk_cz G 16 (fun i9 => bo_i (μ.bd i9))) := hm_2068.bd
    have ha_2082 : w_2062 D.ks = some (113, dk_cz G 700 (fun i9 => bo_i (μ.ks i9))) := hm_2068.ks
    have ha_2083 : w_2062 D.bt = some (114, dk_cz G 6000 (fun i9 => bo_i (μ.bt i9))) := hm_2068.bt
    refine bo_if_ne (b := false) (tgt := 76) hx hb de_M_written_26 (by decide) (fun c_2084 => ?_) (fun c_2084 => ?_)
    · exact absurd c_2084 (by decide)
    · refine lv_aload_n hx hb de_M_written_29 rfl (lv_at hl 0 rfl) ?_
      refine lv_aload_n hx hb de_M_written_30 rfl (lv_at hl 0 rfl) ?_
      refine dk_get (a := h) (v := .int (rI μ.ba)) (C := kn_M) (T := kt_M) (N := 22) hx hb hts ki_M hown hK hP hh_2069 rfl 5 (by decide) (hts _ wi_719) (fun _ h9 => h9) rfl de_M_written_31 ?_
      rw [show rI μ.ba = nI b9 from by rw [hba]; rfl]
      refine nx_if_lt (a := b9) (tgt := 54) hx hb (by omega) de_M_written_34 (by decide) ?_
      refine lv_aload_n hx hb de_M_written_37 rfl (lv_at hl 0 rfl) ?_
      refine dk_get (a := h) (v := .int (rI μ.ba)) (C := kn_M) (T := kt_M) (N := 22) hx hb hts ki_M hown hK hP hh_2069 rfl 5 (by decide) (hts _ wi_719) (fun _ h9 => h9) rfl de_M_written_38 ?_
      refine lv_bipush (v := nI 16) hx hb de_M_written_41 (by decide) ?_
      rw [show rI μ.ba = nI b9 from by rw [hba]; rfl]
      refine nx_icmp_ne (a := b9) (b := 16) (tgt := 50) hx hb (by omega) (by omega) de_M_written_43 (by decide) (fun c_2086 => ?_) (fun c_2086 => ?_)
      · exact absurd c_2086 (by omega)
      · refine lv_iconst (v := nI 1) hx hb de_M_written_46 (by decide) ?_
        refine lv_goto (tgt := 69) hx hb de_M_written_47 (by decide) ?_
        refine lv_iconst (v := nI 2) hx hb de_M_written_69 (by decide) ?_
        rw [show (nI 1) = bo_i true from (by decide)]
        refine dk_calli (va_runV (As := [.int (bo_i true), .int (nI 2)]) (rest := []) ⟨hx, hb, hml, hown, hts⟩ (c_M_fails l G w_2062 h D ((μ.er' 0).er' 0) hm_2068 true 2 (by decide) (by decide) (show (0 : Nat) < 3 by decide)) (cwV 2 hts (wd_gV (C := "RunKeeperModel") wi_799 wi_796 wi_798 (wd_p (q := (⟨"RunKeeperModel", "fails", "(ZI)Z"⟩, 22)) (by decide +kernel) (by decide +kernel)) wi_8) rfl rfl rfl (by decide +kernel) ⟨Nat.le_of_ble_eq_true rfl, Nat.le_of_ble_eq_true rfl⟩) (dk_preV (kn_M, kt_M, 22) hE hP hS hh_2069 rfl) rfl rfl hl.1 rfl (lv_room (Nat.le_of_ble_eq_true rfl)) de_M_written_70 ⟨(by first | exact Nat.le_of_ble_eq_true rfl | (simp only [Nat.zero_add]; omega) | omega), (by first | exact Nat.le_of_ble_eq_true rfl | (simp only [Nat.zero_add]; omega) | omega)⟩) hS (fun r_2089 w_2087 H locs hq_2088 hP hS => ?_)
        obtain ⟨hr_2090, hq_2091, hf_2092⟩ := hq_2088
        subst hr_2090
        have hm_2093 : md_at G w_2087 h D (((μ.er' 0).er' 0).er' 2) := hq_2091
        have hh_2094 : w_2087 h = some (100, .inr (cx_M, [.int (nI 2), .int (nI μ.n), .int (nI μ.sq), .int (nI μ.sf), .int (nI μ.rs), .int (rI μ.ba), .int (nI μ.pr), .int (nI μ.mi), .ref D.kf, .ref D.nf, .ref D.rf, .ref D.lf, .ref D.sv, .ref D.bk, .ref D.od, .ref D.vf, .ref D.bv, .ref D.df, .ref D.ss, .ref D.bd, .ref D.ks, .ref D.bt])) := hm_2093.o
        have ha_2095 : w_2087 D.kf = some (101, dk_ci G 700 (fun i9 => nI (μ.kf i9))) := hm_2093.kf
        have ha_2096 : w_2087 D.nf = some (102, dk_ci G 700 (fun i9 => nI (μ.nf i9))) := hm_2093.nf
        have ha_2097 : w_2087 D.rf = some (103, dk_ci G 700 (fun i9 => rI (μ.rf i9))) := hm_2093.rf
        have ha_2098 : w_2087 D.lf = some (104, dk_ci G 5000 (fun i9 => rI (μ.lf i9))) := hm_2093.lf
        have ha_2099 : w_2087 D.sv = some (105, dk_ci G 6 (fun i9 => nI (μ.sv i9))) := hm_2093.sv
        have ha_2100 : w_2087 D.bk = some (106, dk_ci G 16 (fun i9 => nI (μ.bk i9))) := hm_2093.bk
        have ha_2101 : w_2087 D.od = some (107, dk_ci G 700 (fun i9 => nI (μ.od i9))) := hm_2093.od
        have ha_2102 : w_2087 D.vf = some (108, dk_cl G 700 (fun i9 => μ.vf i9)) := hm_2093.vf
        have ha_2103 : w_2087 D.bv = some (109, dk_cl G 16 (fun i9 => μ.bv i9)) := hm_2093.bv
        have ha_2104 : w_2087 D.df = some (110, dk_cz G 700 (fun i9 => bo_i (μ.df i9))) := hm_2093.df
        have ha_2105 : w_2087 D.ss = some (111, dk_cz G 6 (fun i9 => bo_i (μ.ss i9))) := hm_2093.ss
        have ha_2106 : w_2087 D.bd = some (112, dk_cz G 16 (fun i9 => bo_i (μ.bd i9))) := hm_2093.bd
        have ha_2107 : w_2087 D.ks = some (113, dk_cz G 700 (fun i9 => bo_i (μ.ks i9))) := hm_2093.ks
        have ha_2108 : w_2087 D.bt = some (114, dk_cz G 6000 (fun i9 => bo_i (μ.bt i9))) := hm_2093.bt
        refine bo_if_eq (b := true) (tgt := 78) hx hb de_M_written_73 (by decide) (fun c_2109 => ?_) (fun c_2109 => ?_)
        · exact absurd c_2109 (by decide)
        · refine lv_iconst (v := nI 0) hx hb de_M_written_76 (by decide) ?_
          exact dk_iret hQ hx hb hr hlocks hP hS (Nat.le_refl _) (Nat.le_refl _) (⟨rfl, hm_2093, (((dk_fr.rf).tr ((dk_fr.up (T := md_T) hh_2022 (by unfold md_T; omega)).eq hw_2024)).tr (hf_2067)).tr (hf_2092)⟩) de_M_written_77
  · exact absurd c_2061 (by decide)
set_option maxHeartbeats 4000000 in
set_option maxRecDepth 100000 in
theorem c_M_writtenN (l : Launch) (G : dk_G) (w : dk_H) (h : Nat) (D : md_D) (μ : md_S) (hm : md_at G w h D μ) (hmo : md_ok μ) (k : Nat) (hk0 : k < 1024) (hba : μ.ba = none) (hn : 600 ≤ μ.n) (z : Int64) (b : Bool) : dk_Mi l my_M_written (wd_c my_M_written mb_M_written 5 (some .int)) rm_M_written G w [.ref h, .int (nI k), .long z, .int (bo_i b)] (fun r w1 => r = nI 0 ∧ md_at G w1 h D (μ.er' 2) ∧ dk_fr md_T w w1) 0 0 := by
  obtain ⟨ok1, ok2, ok3, ok4, ok5, ok6, ok7, ok8, ok9, ok10, ok11⟩ := id hmo
  refine dk_enter (lv := [(0, .ref h), (1, .int (nI k)), (2, .long z), (4, .int (bo_i b))]) (by decide) (Nat.le_of_ble_eq_true rfl) rfl (fun p e s m args below meth c ls Q hQ C hP hS hl => ?_)
  obtain ⟨hx, hb, hr, hml, hlocks, hown, hnm, hts, hE⟩ := C
  have hK := hE.1
  have hN := hE.2.1
  have hh_2110 : w h = some (100, .inr (cx_M, [.int (nI μ.er), .int (nI μ.n), .int (nI μ.sq), .int (nI μ.sf), .int (nI μ.rs), .int (rI μ.ba), .int (nI μ.pr), .int (nI μ.mi), .ref D.kf, .ref D.nf, .ref D.rf, .ref D.lf, .ref D.sv, .ref D.bk, .ref D.od, .ref D.vf, .ref D.bv, .ref D.df, .ref D.ss, .ref D.bd, .ref D.ks, .ref D.bt])) := hm.o
  refine lv_aload_n hx hb de_M_written_0 rfl (lv_at hl 0 rfl) ?_
  refine lv_iconst (v := nI 0) hx hb de_M_written_1 (by decide) ?_
  refine dk_put (a := h) (v := .int (nI 0)) (ty := .int) (C := kn_M) (T := kt_M) (N := 22) hx hb hts ki_M ky_M kk_M kd_M hown hK hP hS hh_2110 rfl 0 (by decide) (hts _ wi_714) (fun _ h9 => h9) rfl (by decide +kernel) rfl rfl (Nat.le_of_ble_eq_true rfl) de_M_written_2 (fun H locs w_2111 hw_2112 hP hS => ?_)
  have h_2113 : w_2111 h = some (100, .inr (cx_M, [.int (nI 0), .int (nI μ.n), .int (nI μ.sq), .int (nI μ.sf), .int (nI μ.rs), .int (rI μ.ba), .int (nI μ.pr), .int (nI μ.mi), .ref D.kf, .ref D.nf, .ref D.rf, .ref D.lf, .ref D.sv, .ref D.bk, .ref D.od, .ref D.vf, .ref D.bv, .ref D.df, .ref D.ss, .ref D.bd, .ref D.ks, .ref D.bt])) := dk_here hw_2112
  have h_2114 : w_2111 D.kf = some (101, dk_ci G 700 (fun i9 => nI (μ.kf i9))) := dk_keep hw_2112 hh_2110 hm.kf (by decide)
  have h_2115 : w_2111 D.nf = some (102, dk_ci G 700 (fun i9 => nI (μ.nf i9))) := dk_keep hw_2112 hh_2110 hm.nf (by decide)
  have h_2116 : w_2111 D.rf = some (103, dk_ci G 700 (fun i9 => rI (μ.rf i9))) := dk_keep hw_2112 hh_2110 hm.rf (by decide)
  have h_2117 : w_2111 D.lf = some (104, dk_ci G 5000 (fun i9 => rI (μ.lf i9))) := dk_keep hw_2112 hh_2110 hm.lf (by decide)
  have h_2118 : w_2111 D.sv = some (105, dk_ci G 6 (fun i9 => nI (μ.sv i9))) := dk_keep hw_2112 hh_2110 hm.sv (by decide)
  have h_2119 : w_2111 D.bk = some (106, dk_ci G 16 (fun i9 => nI (μ.bk i9))) := dk_keep hw_2112 hh_2110 hm.bk (by decide)
  have h_2120 : w_2111 D.od = some (107, dk_ci G 700 (fun i9 => nI (μ.od i9))) := dk_keep hw_2112 hh_2110 hm.od (by decide)
  have h_2121 : w_2111 D.vf = some (108, dk_cl G 700 (fun i9 => μ.vf i9)) := dk_keep hw_2112 hh_2110 hm.vf (by decide)
  have h_2122 : w_2111 D.bv = some (109, dk_cl G 16 (fun i9 => μ.bv i9)) := dk_keep hw_2112 hh_2110 hm.bv (by decide)
  have h_2123 : w_2111 D.df = some (110, dk_cz G 700 (fun i9 => bo_i (μ.df i9))) := dk_keep hw_2112 hh_2110 hm.df (by decide)
  have h_2124 : w_2111 D.ss = some (111, dk_cz G 6 (fun i9 => bo_i (μ.ss i9))) := dk_keep hw_2112 hh_2110 hm.ss (by decide)
  have h_2125 : w_2111 D.bd = some (112, dk_cz G 16 (fun i9 => bo_i (μ.bd i9))) := dk_keep hw_2112 hh_2110 hm.bd (by decide)
  have h_2126 : w_2111 D.ks = some (113, dk_cz G 700 (fun i9 => bo_i (μ.ks i9))) := dk_keep hw_2112 hh_2110 hm.ks (by decide)
  have h_2127 : w_2111 D.bt = some (114, dk_cz G 6000 (fun i9 => bo_i (μ.bt i9))) := dk_keep hw_2112 hh_2110 hm.bt (by decide)
  have hm_2128 : md_at G w_2111 h D (μ.er' 0) := ⟨h_2113, h_2114, h_2115, h_2116, h_2117, h_2118, h_2119, h_2120, h_2121, h_2122, h_2123, h_2124, h_2125, h_2126, h_2127⟩
  have hh_2129 : w_2111 h = some (100, .inr (cx_M, [.int (nI 0), .int (nI μ.n), .int (nI μ.sq), .int (nI μ.sf), .int (nI μ.rs), .int (rI μ.ba), .int (nI μ.pr), .int (nI μ.mi), .ref D.kf, .ref D.nf, .ref D.rf, .ref D.lf, .ref D.sv, .ref D.bk, .ref D.od, .ref D.vf, .ref D.bv, .ref D.df, .ref D.ss, .ref D.bd, .ref D.ks, .ref D.bt])) := hm_2128.o
  have ha_2130 : w_2111 D.kf = some (101, dk_ci G 700 (fun i9 => nI (μ.kf i9))) := hm_2128.kf
  have ha_2131 : w_2111 D.nf = some (102, dk_ci G 700 (fun i9 => nI (μ.nf i9))) := hm_2128.nf
  have ha_2132 : w_2111 D.rf = some (103, dk_ci G 700 (fun i9 => rI (μ.rf i9))) := hm_2128.rf
  have ha_2133 : w_2111 D.lf = some (104, dk_ci G 5000 (fun i9 => rI (μ.lf i9))) := hm_2128.lf
  have ha_2134 : w_2111 D.sv = some (105, dk_ci G 6 (fun i9 => nI (μ.sv i9))) := hm_2128.sv
  have ha_2135 : w_2111 D.bk = some (106, dk_ci G 16 (fun i9 => nI (μ.bk i9))) := hm_2128.bk
  have ha_2136 : w_2111 D.od = some (107, dk_ci G 700 (fun i9 => nI (μ.od i9))) := hm_2128.od
  have ha_2137 : w_2111 D.vf = some (108, dk_cl G 700 (fun i9 => μ.vf i9)) := hm_2128.vf
  have ha_2138 : w_2111 D.bv = some (109, dk_cl G 16 (fun i9 => μ.bv i9)) := hm_2128.bv
  have ha_2139 : w_2111 D.df = some (110, dk_cz G 700 (fun i9 => bo_i (μ.df i9))) := hm_2128.df
  have ha_2140 : w_2111 D.ss = some (111, dk_cz G 6 (fun i9 => bo_i (μ.ss i9))) := hm_2128.ss
  have ha_2141 : w_2111 D.bd = some (112, dk_cz G 16 (fun i9 => bo_i (μ.bd i9))) := hm_2128.bd
  have ha_2142 : w_2111 D.ks = some (113, dk_cz G 700 (fun i9 => bo_i (μ.ks i9))) := hm_2128.ks
  have ha_2143 : w_2111 D.bt = some (114, dk_cz G 6000 (fun i9 => bo_i (μ.bt i9))) := hm_2128.bt
  refine lv_aload_n hx hb de_M_written_5 rfl (lv_at hl 0 rfl) ?_
  refine lv_iload_n hx hb de_M_written_6 rfl (lv_at hl 1 rfl) ?_
  refine lv_iconst (v := nI 0) hx hb de_M_written_7 (by decide) ?_
  refine lv_sipush (v := nI 1023) hx hb de_M_written_8 (by decide) ?_
  refine dk_calli (va_runS (As := [.int (nI k), .int (nI 0), .int (nI 1023)]) (rest := [.ref h]) ⟨hx, hb, hml, hown, hts⟩ (c_M_in l G w_2111 (nI k) (nI 0) (nI 1023)) (va_cwS 3 hts (wd_gS wi_795 wi_793 wi_794 wi_8) rfl rfl rfl (by decide +kernel) ⟨Nat.le_of_ble_eq_true rfl, Nat.le_of_ble_eq_true rfl⟩) (dk_preS hE hP hS) rfl rfl hl.1 rfl (lv_room (Nat.le_of_ble_eq_true rfl)) de_M_written_11 ⟨(by first | exact Nat.le_of_ble_eq_true rfl | (simp only [Nat.zero_add]; omega) | omega), (by first | exact Nat.le_of_ble_eq_true rfl | (simp only [Nat.zero_add]; omega) | omega)⟩) hS (fun r_2146 w_2144 H locs hq_2145 hP hS => ?_)
  rw [im_y (by decide) (by omega)] at hq_2145
  obtain ⟨hr_2147, he_2148⟩ := hq_2145
  subst hr_2147
  rw [he_2148] at hP
  refine bo_if_ne (b := true) (tgt := 21) hx hb de_M_written_14 (by decide) (fun c_2149 => ?_) (fun c_2149 => ?_)
  · refine lv_iconst (v := nI 0) hx hb de_M_written_21 (by decide) ?_
    refine lv_iconst (v := nI 1) hx hb de_M_written_22 (by decide) ?_
    rw [show (nI 0) = bo_i false from (by decide)]
    refine dk_calli (va_runV (As := [.int (bo_i false), .int (nI 1)]) (rest := []) ⟨hx, hb, hml, hown, hts⟩ (c_M_fails l G w_2111 h D (μ.er' 0) hm_2128 false 1 (by decide) (by decide) (show (0 : Nat) < 3 by decide)) (cwV 2 hts (wd_gV (C := "RunKeeperModel") wi_799 wi_796 wi_798 (wd_p (q := (⟨"RunKeeperModel", "fails", "(ZI)Z"⟩, 22)) (by decide +kernel) (by decide +kernel)) wi_8) rfl rfl rfl (by decide +kernel) ⟨Nat.le_of_ble_eq_true rfl, Nat.le_of_ble_eq_true rfl⟩) (dk_preV (kn_M, kt_M, 22) hE hP hS hh_2129 rfl) rfl rfl hl.1 rfl (lv_room (Nat.le_of_ble_eq_true rfl)) de_M_written_23 ⟨(by first | exact Nat.le_of_ble_eq_true rfl | (simp only [Nat.zero_add]; omega) | omega), (by first | exact Nat.le_of_ble_eq_true rfl | (simp only [Nat.zero_add]; omega) | omega)⟩) hS (fun r_2152 w_2150 H locs hq_2151 hP hS => ?_)
    obtain ⟨hr_2153, hq_2154, hf_2155⟩ := hq_2151
    subst hr_2153
    have hm_2156 : md_at G w_2150 h D ((μ.er' 0).er' 0) := hq_2154
    have hh_2157 : w_2150 h = some (100, .inr (cx_M, [.int (nI 0), .int (nI μ.n), .int (nI μ.sq), .int (nI μ.sf), .int (nI μ.rs), .int (rI μ.ba), .int (nI μ.pr), .int (nI μ.mi), .ref D.kf, .ref D.nf, .ref D.rf, .ref D.lf, .ref D.sv, .ref D.bk, .ref D.od, .ref D.vf, .ref D.bv, .ref D.df, .ref D.ss, .ref D.bd, .ref D.ks, .ref D.bt])) := hm_2156.o
    have ha_2158 : w_2150 D.kf = some (101, dk_ci G 700 (fun i9 => nI (μ.kf i9))) := hm_2156.kf
    have ha_2159 : w_2150 D.nf = some (102, dk_ci G 700 (fun i9 => nI (μ.nf i9))) := hm_2156.nf
    have ha_2160 : w_2150 D.rf = some (103, dk_ci G 700 (fun i9 => rI (μ.rf i9))) := hm_2156.rf
    have ha_2161 : w_2150 D.lf = some (104, dk_ci G 5000 (fun i9 => rI (μ.lf i9))) := hm_2156.lf
    have ha_2162 : w_2150 D.sv = some (105, dk_ci G 6 (fun i9 => nI (μ.sv i9))) := hm_2156.sv
    have ha_2163 : w_2150 D.bk = some (106, dk_ci G 16 (fun i9 => nI (μ.bk i9))) := hm_2156.bk
    have ha_2164 : w_2150 D.od = some (107, dk_ci G 700 (fun i9 => nI (μ.od i9))) := hm_2156.od
    have ha_2165 : w_2150 D.vf = some (108, dk_cl G 700 (fun i9 => μ.vf i9)) := hm_2156.vf
    have ha_2166 : w_2150 D.bv = some (109, dk_cl G 16 (fun i9 => μ.bv i9)) := hm_2156.bv
    have ha_2167 : w_2150 D.df = some (110, dk_cz G 700 (fun i9 => bo_i (μ.df i9))) := hm_2156.df
    have ha_2168 : w_2150 D.ss = some (111, dk_cz G 6 (fun i9 => bo_i (μ.ss i9))) := hm_2156.ss
    have ha_2169 : w_2150 D.bd = some (112, dk_cz G 16 (fun i9 => bo_i (μ.bd i9))) := hm_2156.bd
    have ha_2170 : w_2150 D.ks = some (113, dk_cz G 700 (fun i9 => bo_i (μ.ks i9))) := hm_2156.ks
    have ha_2171 : w_2150 D.bt = some (114, dk_cz G 6000 (fun i9 => bo_i (μ.bt i9))) := hm_2156.bt
    refine bo_if_ne (b := false) (tgt := 76) hx hb de_M_written_26 (by decide) (fun c_2172 => ?_) (fun c_2172 => ?_)
    · exact absurd c_2172 (by decide)
    · refine lv_aload_n hx hb de_M_written_29 rfl (lv_at hl 0 rfl) ?_
      refine lv_aload_n hx hb de_M_written_30 rfl (lv_at hl 0 rfl) ?_
      refine dk_get (a := h) (v := .int (rI μ.ba)) (C := kn_M) (T := kt_M) (N := 22) hx hb hts ki_M hown hK hP hh_2157 rfl 5 (by decide) (hts _ wi_719) (fun _ h9 => h9) rfl de_M_written_31 ?_
      rw [show rI μ.ba = -1 from by rw [hba]; rfl]
      refine lv_if_lt (tgt := 54) hx hb de_M_written_34 (by decide) (fun c_2173 => ?_) (fun c_2173 => ?_)
      · refine lv_aload_n hx hb de_M_written_54 rfl (lv_at hl 0 rfl) ?_
        refine dk_get (a := h) (v := .int (nI μ.n)) (C := kn_M) (T := kt_M) (N := 22) hx hb hts ki_M hown hK hP hh_2157 rfl 1 (by decide) (hts _ wi_715) (fun _ h9 => h9) rfl de_M_written_55 ?_
        refine lv_sipush (v := nI 600) hx hb de_M_written_58 (by decide) ?_
        refine nx_icmp_lt (a := μ.n) (b := 600) (tgt := 68) hx hb (by omega) (by omega) de_M_written_61 (by decide) (fun c_2174 => ?_) (fun c_2174 => ?_)
        · exact absurd c_2174 (by omega)
        · refine lv_iconst (v := nI 1) hx hb de_M_written_64 (by decide) ?_
          refine lv_goto (tgt := 69) hx hb de_M_written_65 (by decide) ?_
          refine lv_iconst (v := nI 2) hx hb de_M_written_69 (by decide) ?_
          rw [show (nI 1) = bo_i true from (by decide)]
          refine dk_calli (va_runV (As := [.int (bo_i true), .int (nI 2)]) (rest := []) ⟨hx, hb, hml, hown, hts⟩ (c_M_fails l G w_2150 h D ((μ.er' 0).er' 0) hm_2156 true 2 (by decide) (by decide) (show (0 : Nat) < 3 by decide)) (cwV 2 hts (wd_gV (C := "RunKeeperModel") wi_799 wi_796 wi_798 (wd_p (q := (⟨"RunKeeperModel", "fails", "(ZI)Z"⟩, 22)) (by decide +kernel) (by decide +kernel)) wi_8) rfl rfl rfl (by decide +kernel) ⟨Nat.le_of_ble_eq_true rfl, Nat.le_of_ble_eq_true rfl⟩) (dk_preV (kn_M, kt_M, 22) hE hP hS hh_2157 rfl) rfl rfl hl.1 rfl (lv_room (Nat.le_of_ble_eq_true rfl)) de_M_written_70 ⟨(by first | exact Nat.le_of_ble_eq_true rfl | (simp only [Nat.zero_add]; omega) | omega), (by first | exact Nat.le_of_ble_eq_true rfl | (simp only [Nat.zero_add]; omega) | omega)⟩) hS (fun r_2177 w_2175 H locs hq_2176 hP hS => ?_)
          obtain ⟨hr_2178, hq_2179, hf_2180⟩ := hq_2176
          subst hr_2178
          have hm_2181 : md_at G w_2175 h D (((μ.er' 0).er' 0).er' 2) := hq_2179
          have hh_2182 : w_2175 h = some (100, .inr (cx_M, [.int (nI 2), .int (nI μ.n), .int (nI μ.sq), .int (nI μ.sf), .int (nI μ.rs), .int (rI μ.ba), .int (nI μ.pr), .int (nI μ.mi), .ref D.kf, .ref D.nf, .ref D.rf, .ref D.lf, .ref D.sv, .ref D.bk, .ref D.od, .ref D.vf, .ref D.bv, .ref D.df, .ref D.ss, .ref D.bd, .ref D.ks, .ref D.bt])) := hm_2181.o
          have ha_2183 : w_2175 D.kf = some (101, dk_ci G 700 (fun i9 => nI (μ.kf i9))) := hm_2181.kf
          have ha_2184 : w_2175 D.nf = some (102, dk_ci G 700 (fun i9 => nI (μ.nf i9))) := hm_2181.nf
          have ha_2185 : w_2175 D.rf = some (103, dk_ci G 700 (fun i9 => rI (μ.rf i9))) := hm_2181.rf
          have ha_2186 : w_2175 D.lf = some (104, dk_ci G 5000 (fun i9 => rI (μ.lf i9))) := hm_2181.lf
          have ha_2187 : w_2175 D.sv = some (105, dk_ci G 6 (fun i9 => nI (μ.sv i9))) := hm_2181.sv
          have ha_2188 : w_2175 D.bk = some (106, dk_ci G 16 (fun i9 => nI (μ.bk i9))) := hm_2181.bk
          have ha_2189 : w_2175 D.od = some (107, dk_ci G 700 (fun i9 => nI (μ.od i9))) := hm_2181.od
          have ha_2190 : w_2175 D.vf = some (108, dk_cl G 700 (fun i9 => μ.vf i9)) := hm_2181.vf
          have ha_2191 : w_2175 D.bv = some (109, dk_cl G 16 (fun i9 => μ.bv i9)) := hm_2181.bv
          have ha_2192 : w_2175 D.df = some (110, dk_cz G 700 (fun i9 => bo_i (μ.df i9))) := hm_2181.df
          have ha_2193 : w_2175 D.ss = some (111, dk_cz G 6 (fun i9 => bo_i (μ.ss i9))) := hm_2181.ss
          have ha_2194 : w_2175 D.bd = some (112, dk_cz G 16 (fun i9 => bo_i (μ.bd i9))) := hm_2181.bd
          have ha_2195 : w_2175 D.ks = some (113, dk_cz G 700 (fun i9 => bo_i (μ.ks i9))) := hm_2181.ks
          have ha_2196 : w_2175 D.bt = some (114, dk_cz G 6000 (fun i9 => bo_i (μ.bt i9))) := hm_2181.bt
          refine bo_if_eq (b := true) (tgt := 78) hx hb de_M_written_73 (by decide) (fun c_2197 => ?_) (fun c_2197 => ?_)
          · exact absurd c_2197 (by decide)
          · refine lv_iconst (v := nI 0) hx hb de_M_written_76 (by decide) ?_
            exact dk_iret hQ hx hb hr hlocks hP hS (Nat.le_refl _) (Nat.le_refl _) (⟨rfl, hm_2181, (((dk_fr.rf).tr ((dk_fr.up (T := md_T) hh_2110 (by unfold md_T; omega)).eq hw_2112)).tr (hf_2155)).tr (hf_2180)⟩) de_M_written_77
      · exact absurd c_2173 (by decide)
  · exact absurd c_2149 (by decide)
set_option maxHeartbeats 4000000 in
set_option maxRecDepth 100000 in
theorem c_M_writtenC (l : Launch) (G : dk_G) (w : dk_H) (h : Nat) (D : md_D) (μ : md_S) (hm : md_at G w h D μ) (hmo : md_ok μ) (k : Nat) (hk0 : k < 1024) (b9 : Nat) (hba : μ.ba = some b9) (hb9 : b9 < 16) (z : Int64) (b : Bool) : dk_Mi l my_M_written (wd_c my_M_written mb_M_written 5 (some .int)) rm_M_written G w [.ref h, .int (nI k), .long z, .int (bo_i b)] (fun r w1 => r = nI (b9 + 1) ∧ md_at G w1 h D (md_b μ k z b b9) ∧ dk_fr md_T w w1) 0 0 := by
  obtain ⟨ok1, ok2, ok3, ok4, ok5, ok6, ok7, ok8, ok9, ok10, ok11⟩ := id hmo
  refine dk_enter (lv := [(0, .ref h), (1, .int (nI k)), (2, .long z), (4, .int (bo_i b))]) (by decide) (Nat.le_of_ble_eq_true rfl) rfl (fun p e s m args below meth c ls Q hQ C hP hS hl => ?_)
  obtain ⟨hx, hb, hr, hml, hlocks, hown, hnm, hts, hE⟩ := C
  have hK := hE.1
  have hN := hE.2.1
  have hh_2198 : w h = some (100, .inr (cx_M, [.int (nI μ.er), .int (nI μ.n), .int (nI μ.sq), .int (nI μ.sf), .int (nI μ.rs), .int (rI μ.ba), .int (nI μ.pr), .int (nI μ.mi), .ref D.kf, .ref D.nf, .ref D.rf, .ref D.lf, .ref D.sv, .ref D.bk, .ref D.od, .ref D.vf, .ref D.bv, .ref D.df, .ref D.ss, .ref D.bd, .ref D.ks, .ref D.bt])) := hm.o
  refine lv_aload_n hx hb de_M_written_0 rfl (lv_at hl 0 rfl) ?_
  refine lv_iconst (v := nI 0) hx hb de_M_written_1 (by decide) ?_
  refine dk_put (a := h) (v := .int (nI 0)) (ty := .int) (C := kn_M) (T := kt_M) (N := 22) hx hb hts ki_M ky_M kk_M kd_M hown hK hP hS hh_2198 rfl 0 (by decide) (hts _ wi_714) (fun _ h9 => h9) rfl (by decide +kernel) rfl rfl (Nat.le_of_ble_eq_true rfl) de_M_written_2 (fun H locs w_2199 hw_2200 hP hS => ?_)
  have h_2201 : w_2199 h = some (100, .inr (cx_M, [.int (nI 0), .int (nI μ.n), .int (nI μ.sq), .int (nI μ.sf), .int (nI μ.rs), .int (rI μ.ba), .int (nI μ.pr), .int (nI μ.mi), .ref D.kf, .ref D.nf, .ref D.rf, .ref D.lf, .ref D.sv, .ref D.bk, .ref D.od, .ref D.vf, .ref D.bv, .ref D.df, .ref D.ss, .ref D.bd, .ref D.ks, .ref D.bt])) := dk_here hw_2200
  have h_2202 : w_2199 D.kf = some (101, dk_ci G 700 (fun i9 => nI (μ.kf i9))) := dk_keep hw_2200 hh_2198 hm.kf (by decide)
  have h_2203 : w_2199 D.nf = some (102, dk_ci G 700 (fun i9 => nI (μ.nf i9))) := dk_keep hw_2200 hh_2198 hm.nf (by decide)
  have h_2204 : w_2199 D.rf = some (103, dk_ci G 700 (fun i9 => rI (μ.rf i9))) := dk_keep hw_2200 hh_2198 hm.rf (by decide)
  have h_2205 : w_2199 D.lf = some (104, dk_ci G 5000 (fun i9 => rI (μ.lf i9))) := dk_keep hw_2200 hh_2198 hm.lf (by decide)
  have h_2206 : w_2199 D.sv = some (105, dk_ci G 6 (fun i9 => nI (μ.sv i9))) := dk_keep hw_2200 hh_2198 hm.sv (by decide)
  have h_2207 : w_2199 D.bk = some (106, dk_ci G 16 (fun i9 => nI (μ.bk i9))) := dk_keep hw_2200 hh_2198 hm.bk (by decide)
  have h_2208 : w_2199 D.od = some (107, dk_ci G 700 (fun i9 => nI (μ.od i9))) := dk_keep hw_2200 hh_2198 hm.od (by decide)
  have h_2209 : w_2199 D.vf = some (108, dk_cl G 700 (fun i9 => μ.vf i9)) := dk_keep hw_2200 hh_2198 hm.vf (by decide)
  have h_2210 : w_2199 D.bv = some (109, dk_cl G 16 (fun i9 => μ.bv i9)) := dk_keep hw_2200 hh_2198 hm.bv (by decide)
  have h_2211 : w_2199 D.df = some (110, dk_cz G 700 (fun i9 => bo_i (μ.df i9))) := dk_keep hw_2200 hh_2198 hm.df (by decide)
  have h_2212 : w_2199 D.ss = some (111, dk_cz G 6 (fun i9 => bo_i (μ.ss i9))) := dk_keep hw_2200 hh_2198 hm.ss (by decide)
  have h_2213 : w_2199 D.bd = some (112, dk_cz G 16 (fun i9 => bo_i (μ.bd i9))) := dk_keep hw_2200 hh_2198 hm.bd (by decide)
  have h_2214 : w_2199 D.ks = some (113, dk_cz G 700 (fun i9 => bo_i (μ.ks i9))) := dk_keep hw_2200 hh_2198 hm.ks (by decide)
  have h_2215 : w_2199 D.bt = some (114, dk_cz G 6000 (fun i9 => bo_i (μ.bt i9))) := dk_keep hw_2200 hh_2198 hm.bt (by decide)
  have hm_2216 : md_at G w_2199 h D (μ.er' 0) := ⟨h_2201, h_2202, h_2203, h_2204, h_2205, h_2206, h_2207, h_2208, h_2209, h_2210, h_2211, h_2212, h_2213, h_2214, h_2215⟩
  have hh_2217 : w_2199 h = some (100, .inr (cx_M, [.int (nI 0), .int (nI μ.n), .int (nI μ.sq), .int (nI μ.sf), .int (nI μ.rs), .int (rI μ.ba), .int (nI μ.pr), .int (nI μ.mi), .ref D.kf, .ref D.nf, .ref D.rf, .ref D.lf, .ref D.sv, .ref D.bk, .ref D.od, .ref D.vf, .ref D.bv, .ref D.df, .ref D.ss, .ref D.bd, .ref D.ks, .ref D.bt])) := hm_2216.o
  have ha_2218 : w_2199 D.kf = some (101, dk_ci G 700 (fun i9 => nI (μ.kf i9))) := hm_2216.kf
  have ha_2219 : w_2199 D.nf = some (102, dk_ci G 700 (fun i9 => nI (μ.nf i9))) := hm_2216.nf
  have ha_2220 : w_2199 D.rf = some (103, dk_ci G 700 (fun i9 => rI (μ.rf i9))) := hm_2216.rf
  have ha_2221 : w_2199 D.lf = some (104, dk_ci G 5000 (fun i9 => rI (μ.lf i9))) := hm_2216.lf
  have ha_2222 : w_2199 D.sv = some (105, dk_ci G 6 (fun i9 => nI (μ.sv i9))) := hm_2216.sv
  have ha_2223 : w_2199 D.bk = some (106, dk_ci G 16 (fun i9 => nI (μ.bk i9))) := hm_2216.bk
  have ha_2224 : w_2199 D.od = some (107, dk_ci G 700 (fun i9 => nI (μ.od i9))) := hm_2216.od
  have ha_2225 : w_2199 D.vf = some (108, dk_cl G 700 (fun i9 => μ.vf i9)) := hm_2216.vf
  have ha_2226 : w_2199 D.bv = some (109, dk_cl G 16 (fun i9 => μ.bv i9)) := hm_2216.bv
  have ha_2227 : w_2199 D.df = some (110, dk_cz G 700 (fun i9 => bo_i (μ.df i9))) := hm_2216.df
  have ha_2228 : w_2199 D.ss = some (111, dk_cz G 6 (fun i9 => bo_i (μ.ss i9))) := hm_2216.ss
  have ha_2229 : w_2199 D.bd = some (112, dk_cz G 16 (fun i9 => bo_i (μ.bd i9))) := hm_2216.bd
  have ha_2230 : w_2199 D.ks = some (113, dk_cz G 700 (fun i9 => bo_i (μ.ks i9))) := hm_2216.ks
  have ha_2231 : w_2199 D.bt = some (114, dk_cz G 6000 (fun i9 => bo_i (μ.bt i9))) := hm_2216.bt
  refine lv_aload_n hx hb de_M_written_5 rfl (lv_at hl 0 rfl) ?_
  refine lv_iload_n hx hb de_M_written_6 rfl (lv_at hl 1 rfl) ?_
  refine lv_iconst (v := nI 0) hx hb de_M_written_7 (by decide) ?_
  refine lv_sipush (v := nI 1023) hx hb de_M_written_8 (by decide) ?_
  refine dk_calli (va_runS (As := [.int (nI k), .int (nI 0), .int (nI 1023)]) (rest := [.ref h]) ⟨hx, hb, hml, hown, hts⟩ (c_M_in l G w_2199 (nI k) (nI 0) (nI 1023)) (va_cwS 3 hts (wd_gS wi_795 wi_793 wi_794 wi_8) rfl rfl rfl (by decide +kernel) ⟨Nat.le_of_ble_eq_true rfl, Nat.le_of_ble_eq_true rfl⟩) (dk_preS hE hP hS) rfl rfl hl.1 rfl (lv_room (Nat.le_of_ble_eq_true rfl)) de_M_written_11 ⟨(by first | exact Nat.le_of_ble_eq_true rfl | (simp only [Nat.zero_add]; omega) | omega), (by first | exact Nat.le_of_ble_eq_true rfl | (simp only [Nat.zero_add]; omega) | omega)⟩) hS (fun r_2234 w_2232 H locs hq_2233 hP hS => ?_)
  rw [im_y (by decide) (by omega)] at hq_2233
  obtain ⟨hr_2235, he_2236⟩ := hq_2233
  subst hr_2235
  rw [he_2236] at hP
  refine bo_if_ne (b := true) (tgt := 21) hx hb de_M_written_14 (by decide) (fun c_2237 => ?_) (fun c_2237 => ?_)
  · refine lv_iconst (v := nI 0) hx hb de_M_written_21 (by decide) ?_
    refine lv_iconst (v := nI 1) hx hb de_M_written_22 (by decide) ?_
    rw [show (nI 0) = bo_i false from (by decide)]
    refine dk_calli (va_runV (As := [.int (bo_i false), .int (nI 1)]) (rest := []) ⟨hx, hb, hml, hown, hts⟩ (c_M_fails l G w_2199 h D (μ.er' 0) hm_2216 false 1 (by decide) (by decide) (show (0 : Nat) < 3 by decide)) (cwV 2 hts (wd_gV (C := "RunKeeperModel") wi_799 wi_796 wi_798 (wd_p (q := (⟨"RunKeeperModel", "fails", "(ZI)Z"⟩, 22)) (by decide +kernel) (by decide +kernel)) wi_8) rfl rfl rfl (by decide +kernel) ⟨Nat.le_of_ble_eq_true rfl, Nat.le_of_ble_eq_true rfl⟩) (dk_preV (kn_M, kt_M, 22) hE hP hS hh_2217 rfl) rfl rfl hl.1 rfl (lv_room (Nat.le_of_ble_eq_true rfl)) de_M_written_23 ⟨(by first | exact Nat.le_of_ble_eq_true rfl | (simp only [Nat.zero_add]; omega) | omega), (by first | exact Nat.le_of_ble_eq_true rfl | (simp only [Nat.zero_add]; omega) | omega)⟩) hS (fun r_2240 w_2238 H locs hq_2239 hP hS => ?_)
    obtain ⟨hr_2241, hq_2242, hf_2243⟩ := hq_2239
    subst hr_2241
    have hm_2244 : md_at G w_2238 h D ((μ.er' 0).er' 0) := hq_2242
    have hh_2245 : w_2238 h = some (100, .inr (cx_M, [.int (nI 0), .int (nI μ.n), .int (nI μ.sq), .int (nI μ.sf), .int (nI μ.rs), .int (rI μ.ba), .int (nI μ.pr), .int (nI μ.mi), .ref D.kf, .ref D.nf, .ref D.rf, .ref D.lf, .ref D.sv, .ref D.bk, .ref D.od, .ref D.vf, .ref D.bv, .ref D.df, .ref D.ss, .ref D.bd, .ref D.ks, .ref D.bt])) := hm_2244.o
    have ha_2246 : w_2238 D.kf = some (101, dk_ci G 700 (fun i9 => nI (μ.kf i9))) := hm_2244.kf
    have ha_2247 : w_2238 D.nf = some (102, dk_ci G 700 (fun i9 => nI (μ.nf i9))) := hm_2244.nf
    have ha_2248 : w_2238 D.rf = some (103, dk_ci G 700 (fun i9 => rI (μ.rf i9))) := hm_2244.rf
    have ha_2249 : w_2238 D.lf = some (104, dk_ci G 5000 (fun i9 => rI (μ.lf i9))) := hm_2244.lf
    have ha_2250 : w_2238 D.sv = some (105, dk_ci G 6 (fun i9 => nI (μ.sv i9))) := hm_2244.sv
    have ha_2251 : w_2238 D.bk = some (106, dk_ci G 16 (fun i9 => nI (μ.bk i9))) := hm_2244.bk
    have ha_2252 : w_2238 D.od = some (107, dk_ci G 700 (fun i9 => nI (μ.od i9))) := hm_2244.od
    have ha_2253 : w_2238 D.vf = some (108, dk_cl G 700 (fun i9 => μ.vf i9)) := hm_2244.vf
    have ha_2254 : w_2238 D.bv = some (109, dk_cl G 16 (fun i9 => μ.bv i9)) := hm_2244.bv
    have ha_2255 : w_2238 D.df = some (110, dk_cz G 700 (fun i9 => bo_i (μ.df i9))) := hm_2244.df
    have ha_2256 : w_2238 D.ss = some (111, dk_cz G 6 (fun i9 => bo_i (μ.ss i9))) := hm_2244.ss
    have ha_2257 : w_2238 D.bd = some (112, dk_cz G 16 (fun i9 => bo_i (μ.bd i9))) := hm_2244.bd
    have ha_2258 : w_2238 D.ks = some (113, dk_cz G 700 (fun i9 => bo_i (μ.ks i9))) := hm_2244.ks
    have ha_2259 : w_2238 D.bt = some (114, dk_cz G 6000 (fun i9 => bo_i (μ.bt i9))) := hm_2244.bt
    refine bo_if_ne (b := false) (tgt := 76) hx hb de_M_written_26 (by decide) (fun c_2260 => ?_) (fun c_2260 => ?_)
    · exact absurd c_2260 (by decide)
    · refine lv_aload_n hx hb de_M_written_29 rfl (lv_at hl 0 rfl) ?_
      refine lv_aload_n hx hb de_M_written_30 rfl (lv_at hl 0 rfl) ?_
      refine dk_get (a := h) (v := .int (rI μ.ba)) (C := kn_M) (T := kt_M) (N := 22) hx hb hts ki_M hown hK hP hh_2245 rfl 5 (by decide) (hts _ wi_719) (fun _ h9 => h9) rfl de_M_written_31 ?_
      rw [show rI μ.ba = nI b9 from by rw [hba]; rfl]
      refine nx_if_lt (a := b9) (tgt := 54) hx hb (by omega) de_M_written_34 (by decide) ?_
      refine lv_aload_n hx hb de_M_written_37 rfl (lv_at hl 0 rfl) ?_
      refine dk_get (a := h) (v := .int (rI μ.ba)) (C := kn_M) (T := kt_M) (N := 22) hx hb hts ki_M hown hK hP hh_2245 rfl 5 (by decide) (hts _ wi_719) (fun _ h9 => h9) rfl de_M_written_38 ?_
      refine lv_bipush (v := nI 16) hx hb de_M_written_41 (by decide) ?_
      rw [show rI μ.ba = nI b9 from by rw [hba]; rfl]
      refine nx_icmp_ne (a := b9) (b := 16) (tgt := 50) hx hb (by omega) (by omega) de_M_written_43 (by decide) (fun c_2262 => ?_) (fun c_2262 => ?_)
      · refine lv_iconst (v := nI 0) hx hb de_M_written_50 (by decide) ?_
        refine lv_goto (tgt := 69) hx hb de_M_written_51 (by decide) ?_
        refine lv_iconst (v := nI 2) hx hb de_M_written_69 (by decide) ?_
        rw [show (nI 0) = bo_i false from (by decide)]
        refine dk_calli (va_runV (As := [.int (bo_i false), .int (nI 2)]) (rest := []) ⟨hx, hb, hml, hown, hts⟩ (c_M_fails l G w_2238 h D ((μ.er' 0).er' 0) hm_2244 false 2 (by decide) (by decide) (show (0 : Nat) < 3 by decide)) (cwV 2 hts (wd_gV (C := "RunKeeperModel") wi_799 wi_796 wi_798 (wd_p (q := (⟨"RunKeeperModel", "fails", "(ZI)Z"⟩, 22)) (by decide +kernel) (by decide +kernel)) wi_8) rfl rfl rfl (by decide +kernel) ⟨Nat.le_of_ble_eq_true rfl, Nat.le_of_ble_eq_true rfl⟩) (dk_preV (kn_M, kt_M, 22) hE hP hS hh_2245 rfl) rfl rfl hl.1 rfl (lv_room (Nat.le_of_ble_eq_true rfl)) de_M_written_70 ⟨(by first | exact Nat.le_of_ble_eq_true rfl | (simp only [Nat.zero_add]; omega) | omega), (by first | exact Nat.le_of_ble_eq_true rfl | (simp only [Nat.zero_add]; omega) | omega)⟩) hS (fun r_2265 w_2263 H locs hq_2264 hP hS => ?_)
        obtain ⟨hr_2266, hq_2267, hf_2268⟩ := hq_2264
        subst hr_2266
        have hm_2269 : md_at G w_2263 h D (((μ.er' 0).er' 0).er' 0) := hq_2267
        have hh_2270 : w_2263 h = some (100, .inr (cx_M, [.int (nI 0), .int (nI μ.n), .int (nI μ.sq), .int (nI μ.sf), .int (nI μ.rs), .int (rI μ.ba), .int (nI μ.pr), .int (nI μ.mi), .ref D.kf, .ref D.nf, .ref D.rf, .ref D.lf, .ref D.sv, .ref D.bk, .ref D.od, .ref D.vf, .ref D.bv, .ref D.df, .ref D.ss, .ref D.bd, .ref D.ks, .ref D.bt])) := hm_2269.o
        have ha_2271 : w_2263 D.kf = some (101, dk_ci G 700 (fun i9 => nI (μ.kf i9))) := hm_2269.kf
        have ha_2272 : w_2263 D.nf = some (102, dk_ci G 700 (fun i9 => nI (μ.nf i9))) := hm_2269.nf
        have ha_2273 : w_2263 D.rf = some (103, dk_ci G 700 (fun i9 => rI (μ.rf i9))) := hm_2269.rf
        have ha_2274 : w_2263 D.lf = some (104, dk_ci G 5000 (fun i9 => rI (μ.lf i9))) := hm_2269.lf
        have ha_2275 : w_2263 D.sv = some (105, dk_ci G 6 (fun i9 => nI (μ.sv i9))) := hm_2269.sv
        have ha_2276 : w_2263 D.bk = some (106, dk_ci G 16 (fun i9 => nI (μ.bk i9))) := hm_2269.bk
        have ha_2277 : w_2263 D.od = some (107, dk_ci G 700 (fun i9 => nI (μ.od i9))) := hm_2269.od
        have ha_2278 : w_2263 D.vf = some (108, dk_cl G 700 (fun i9 => μ.vf i9)) := hm_2269.vf
        have ha_2279 : w_2263 D.bv = some (109, dk_cl G 16 (fun i9 => μ.bv i9)) := hm_2269.bv
        have ha_2280 : w_2263 D.df = some (110, dk_cz G 700 (fun i9 => bo_i (μ.df i9))) := hm_2269.df
        have ha_2281 : w_2263 D.ss = some (111, dk_cz G 6 (fun i9 => bo_i (μ.ss i9))) := hm_2269.ss
        have ha_2282 : w_2263 D.bd = some (112, dk_cz G 16 (fun i9 => bo_i (μ.bd i9))) := hm_2269.bd
        have ha_2283 : w_2263 D.ks = some (113, dk_cz G 700 (fun i9 => bo_i (μ.ks i9))) := hm_2269.ks
        have ha_2284 : w_2263 D.bt = some (114, dk_cz G 6000 (fun i9 => bo_i (μ.bt i9))) := hm_2269.bt
        refine bo_if_eq (b := false) (tgt := 78) hx hb de_M_written_73 (by decide) (fun c_2285 => ?_) (fun c_2285 => ?_)
        · refine lv_aload_n hx hb de_M_written_78 rfl (lv_at hl 0 rfl) ?_
          refine dk_get (a := h) (v := .int (rI μ.ba)) (C := kn_M) (T := kt_M) (N := 22) hx hb hts ki_M hown hK hP hh_2270 rfl 5 (by decide) (hts _ wi_719) (fun _ h9 => h9) rfl de_M_written_79 ?_
          have ho9 : w_2263 h = _ := hh_2270
          rw [hba] at ho9
          have hh_2286 : w_2263 h = some (100, .inr (cx_M, [.int (nI 0), .int (nI μ.n), .int (nI μ.sq), .int (nI μ.sf), .int (nI μ.rs), .int (nI b9), .int (nI μ.pr), .int (nI μ.mi), .ref D.kf, .ref D.nf, .ref D.rf, .ref D.lf, .ref D.sv, .ref D.bk, .ref D.od, .ref D.vf, .ref D.bv, .ref D.df, .ref D.ss, .ref D.bd, .ref D.ks, .ref D.bt])) := ho9
          rw [show rI μ.ba = nI b9 from by rw [hba]; rfl]
          refine nx_if_lt (a := b9) (tgt := 128) hx hb (by omega) de_M_written_82 (by decide) ?_
          refine lv_aload_n hx hb de_M_written_85 rfl (lv_at hl 0 rfl) ?_
          refine dk_get (a := h) (v := .ref D.bk) (C := kn_M) (T := kt_M) (N := 22) hx hb hts ki_M hown hK hP hh_2286 rfl 13 (by decide) (hts _ wi_727) (fun _ h9 => h9) rfl de_M_written_86 ?_
          refine lv_aload_n hx hb de_M_written_89 rfl (lv_at hl 0 rfl) ?_
          refine dk_get (a := h) (v := .int (nI b9)) (C := kn_M) (T := kt_M) (N := 22) hx hb hts ki_M hown hK hP hh_2286 rfl 5 (by decide) (hts _ wi_719) (fun _ h9 => h9) rfl de_M_written_90 ?_
          refine lv_iload_n hx hb de_M_written_93 rfl (lv_at hl 1 rfl) ?_
          refine dk_iast (a := D.bk) (x := (nI k)) hx hb hK hP hS ha_2276 b9 rfl (by omega) (by omega) de_M_written_94 (fun H locs w_2288 hw_2289 hP hS => ?_)
          rw [up_nI] at hw_2289
          have h_2290 : w_2288 D.bk = some (106, dk_ci G 16 (fun i9 => nI ((va_up μ.bk b9 k) i9))) := dk_here hw_2289
          have h_2291 : w_2288 h = some (100, .inr (cx_M, [.int (nI 0), .int (nI μ.n), .int (nI μ.sq), .int (nI μ.sf), .int (nI μ.rs), .int (nI b9), .int (nI μ.pr), .int (nI μ.mi), .ref D.kf, .ref D.nf, .ref D.rf, .ref D.lf, .ref D.sv, .ref D.bk, .ref D.od, .ref D.vf, .ref D.bv, .ref D.df, .ref D.ss, .ref D.bd, .ref D.ks, .ref D.bt])) := dk_keep hw_2289 ha_2276 hh_2286 (by decide)
          have h_2292 : w_2288 D.kf = some (101, dk_ci G 700 (fun i9 => nI (μ.kf i9))) := dk_keep hw_2289 ha_2276 ha_2271 (by decide)
          have h_2293 : w_2288 D.nf = some (102, dk_ci G 700 (fun i9 => nI (μ.nf i9))) := dk_keep hw_2289 ha_2276 ha_2272 (by decide)
          have h_2294 : w_2288 D.rf = some (103, dk_ci G 700 (fun i9 => rI (μ.rf i9))) := dk_keep hw_2289 ha_2276 ha_2273 (by decide)
          have h_2295 : w_2288 D.lf = some (104, dk_ci G 5000 (fun i9 => rI (μ.lf i9))) := dk_keep hw_2289 ha_2276 ha_2274 (by decide)
          have h_2296 : w_2288 D.sv = some (105, dk_ci G 6 (fun i9 => nI (μ.sv i9))) := dk_keep hw_2289 ha_2276 ha_2275 (by decide)
          have h_2297 : w_2288 D.od = some (107, dk_ci G 700 (fun i9 => nI (μ.od i9))) := dk_keep hw_2289 ha_2276 ha_2277 (by decide)
          have h_2298 : w_2288 D.vf = some (108, dk_cl G 700 (fun i9 => μ.vf i9)) := dk_keep hw_2289 ha_2276 ha_2278 (by decide)
          have h_2299 : w_2288 D.bv = some (109, dk_cl G 16 (fun i9 => μ.bv i9)) := dk_keep hw_2289 ha_2276 ha_2279 (by decide)
          have h_2300 : w_2288 D.df = some (110, dk_cz G 700 (fun i9 => bo_i (μ.df i9))) := dk_keep hw_2289 ha_2276 ha_2280 (by decide)
          have h_2301 : w_2288 D.ss = some (111, dk_cz G 6 (fun i9 => bo_i (μ.ss i9))) := dk_keep hw_2289 ha_2276 ha_2281 (by decide)
          have h_2302 : w_2288 D.bd = some (112, dk_cz G 16 (fun i9 => bo_i (μ.bd i9))) := dk_keep hw_2289 ha_2276 ha_2282 (by decide)
          have h_2303 : w_2288 D.ks = some (113, dk_cz G 700 (fun i9 => bo_i (μ.ks i9))) := dk_keep hw_2289 ha_2276 ha_2283 (by decide)
          have h_2304 : w_2288 D.bt = some (114, dk_cz G 6000 (fun i9 => bo_i (μ.bt i9))) := dk_keep hw_2289 ha_2276 ha_2284 (by decide)
          refine lv_aload_n hx hb de_M_written_95 rfl (lv_at hl 0 rfl) ?_
          refine dk_get (a := h) (v := .ref D.bv) (C := kn_M) (T := kt_M) (N := 22) hx hb hts ki_M hown hK hP h_2291 rfl 16 (by decide) (hts _ wi_730) (fun _ h9 => h9) rfl de_M_written_96 ?_
          refine lv_aload_n hx hb de_M_written_99 rfl (lv_at hl 0 rfl) ?_
          refine dk_get (a := h) (v := .int (nI b9)) (C := kn_M) (T := kt_M) (N := 22) hx hb hts ki_M hown hK hP h_2291 rfl 5 (by decide) (hts _ wi_719) (fun _ h9 => h9) rfl de_M_written_100 ?_
          refine lv_lload_n hx hb de_M_written_103 rfl (lv_at hl 2 rfl) ?_
          refine dk_last (a := D.bv) (x := z) hx hb hK hP hS h_2299 b9 rfl (by omega) (by omega) de_M_written_104 (fun H locs w_2305 hw_2306 hP hS => ?_)
          rw [up_L] at hw_2306
          have h_2307 : w_2305 D.bv = some (109, dk_cl G 16 (fun i9 => (va_up μ.bv b9 z) i9)) := dk_here hw_2306
          have h_2308 : w_2305 h = some (100, .inr (cx_M, [.int (nI 0), .int (nI μ.n), .int (nI μ.sq), .int (nI μ.sf), .int (nI μ.rs), .int (nI b9), .int (nI μ.pr), .int (nI μ.mi), .ref D.kf, .ref D.nf, .ref D.rf, .ref D.lf, .ref D.sv, .ref D.bk, .ref D.od, .ref D.vf, .ref D.bv, .ref D.df, .ref D.ss, .ref D.bd, .ref D.ks, .ref D.bt])) := dk_keep hw_2306 h_2299 h_2291 (by decide)
          have h_2309 : w_2305 D.kf = some (101, dk_ci G 700 (fun i9 => nI (μ.kf i9))) := dk_keep hw_2306 h_2299 h_2292 (by decide)
          have h_2310 : w_2305 D.nf = some (102, dk_ci G 700 (fun i9 => nI (μ.nf i9))) := dk_keep hw_2306 h_2299 h_2293 (by decide)
          have h_2311 : w_2305 D.rf = some (103, dk_ci G 700 (fun i9 => rI (μ.rf i9))) := dk_keep hw_2306 h_2299 h_2294 (by decide)
          have h_2312 : w_2305 D.lf = some (104, dk_ci G 5000 (fun i9 => rI (μ.lf i9))) := dk_keep hw_2306 h_2299 h_2295 (by decide)
          have h_2313 : w_2305 D.sv = some (105, dk_ci G 6 (fun i9 => nI (μ.sv i9))) := dk_keep hw_2306 h_2299 h_2296 (by decide)
          have h_2314 : w_2305 D.bk = some (106, dk_ci G 16 (fun i9 => nI ((va_up μ.bk b9 k) i9))) := dk_keep hw_2306 h_2299 h_2290 (by decide)
          have h_2315 : w_2305 D.od = some (107, dk_ci G 700 (fun i9 => nI (μ.od i9))) := dk_keep hw_2306 h_2299 h_2297 (by decide)
          have h_2316 : w_2305 D.vf = some (108, dk_cl G 700 (fun i9 => μ.vf i9)) := dk_keep hw_2306 h_2299 h_2298 (by decide)
          have h_2317 : w_2305 D.df = some (110, dk_cz G 700 (fun i9 => bo_i (μ.df i9))) := dk_keep hw_2306 h_2299 h_2300 (by decide)
          have h_2318 : w_2305 D.ss = some (111, dk_cz G 6 (fun i9 => bo_i (μ.ss i9))) := dk_keep hw_2306 h_2299 h_2301 (by decide)
          have h_2319 : w_2305 D.bd = some (112, dk_cz G 16 (fun i9 => bo_i (μ.bd i9))) := dk_keep hw_2306 h_2299 h_2302 (by decide)
          have h_2320 : w_2305 D.ks = some (113, dk_cz G 700 (fun i9 => bo_i (μ.ks i9))) := dk_keep hw_2306 h_2299 h_2303 (by decide)
          have h_2321 : w_2305 D.bt = some (114, dk_cz G 6000 (fun i9 => bo_i (μ.bt i9))) := dk_keep hw_2306 h_2299 h_2304 (by decide)
          refine lv_aload_n hx hb de_M_written_105 rfl (lv_at hl 0 rfl) ?_
          refine dk_get (a := h) (v := .ref D.bd) (C := kn_M) (T := kt_M) (N := 22) hx hb hts ki_M hown hK hP h_2308 rfl 19 (by decide) (hts _ wi_733) (fun _ h9 => h9) rfl de_M_written_106 ?_
          refine lv_aload_n hx hb de_M_written_109 rfl (lv_at hl 0 rfl) ?_
          refine dk_get (a := h) (v := .int (nI b9)) (C := kn_M) (T := kt_M) (N := 22) hx hb hts ki_M hown hK hP h_2308 rfl 5 (by decide) (hts _ wi_719) (fun _ h9 => h9) rfl de_M_written_110 ?_
          refine lv_iload hx hb de_M_written_113 (lv_at hl 3 rfl) ?_
          refine dk_zast (a := D.bd) (x := (bo_i b)) hx hb hK hP hS h_2319 b9 rfl (by omega) (by omega) (bo_vn b) de_M_written_115 (fun H locs w_2322 hw_2323 hP hS => ?_)
          rw [up_bo] at hw_2323
          have h_2324 : w_2322 D.bd = some (112, dk_cz G 16 (fun i9 => bo_i ((va_up μ.bd b9 b) i9))) := dk_here hw_2323
          have h_2325 : w_2322 h = some (100, .inr (cx_M, [.int (nI 0), .int (nI μ.n), .int (nI μ.sq), .int (nI μ.sf), .int (nI μ.rs), .int (nI b9), .int (nI μ.pr), .int (nI μ.mi), .ref D.kf, .ref D.nf, .ref D.rf, .ref D.lf, .ref D.sv, .ref D.bk, .ref D.od, .ref D.vf, .ref D.bv, .ref D.df, .ref D.ss, .ref D.bd, .ref D.ks, .ref D.bt])) := dk_keep hw_2323 h_2319 h_2308 (by decide)
          have h_2326 : w_2322 D.kf = some (101, dk_ci G 700 (fun i9 => nI (μ.kf i9))) := dk_keep hw_2323 h_2319 h_2309 (by decide)
          have h_2327 : w_2322 D.nf = some (102, dk_ci G 700 (fun i9 => nI (μ.nf i9))) := dk_keep hw_2323 h_2319 h_2310 (by decide)
          have h_2328 : w_2322 D.rf = some (103, dk_ci G 700 (fun i9 => rI (μ.rf i9))) := dk_keep hw_2323 h_2319 h_2311 (by decide)
          have h_2329 : w_2322 D.lf = some (104, dk_ci G 5000 (fun i9 => rI (μ.lf i9))) := dk_keep hw_2323 h_2319 h_2312 (by decide)
          have h_2330 : w_2322 D.sv = some (105, dk_ci G 6 (fun i9 => nI (μ.sv i9))) := dk_keep hw_2323 h_2319 h_2313 (by decide)
          have h_2331 : w_2322 D.bk = some (106, dk_ci G 16 (fun i9 => nI ((va_up μ.bk b9 k) i9))) := dk_keep hw_2323 h_2319 h_2314 (by decide)
          have h_2332 : w_2322 D.od = some (107, dk_ci G 700 (fun i9 => nI (μ.od i9))) := dk_keep hw_2323 h_2319 h_2315 (by decide)
          have h_2333 : w_2322 D.vf = some (108, dk_cl G 700 (fun i9 => μ.vf i9)) := dk_keep hw_2323 h_2319 h_2316 (by decide)
          have h_2334 : w_2322 D.bv = some (109, dk_cl G 16 (fun i9 => (va_up μ.bv b9 z) i9)) := dk_keep hw_2323 h_2319 h_2307 (by decide)
          have h_2335 : w_2322 D.df = some (110, dk_cz G 700 (fun i9 => bo_i (μ.df i9))) := dk_keep hw_2323 h_2319 h_2317 (by decide)
          have h_2336 : w_2322 D.ss = some (111, dk_cz G 6 (fun i9 => bo_i (μ.ss i9))) := dk_keep hw_2323 h_2319 h_2318 (by decide)
          have h_2337 : w_2322 D.ks = some (113, dk_cz G 700 (fun i9 => bo_i (μ.ks i9))) := dk_keep hw_2323 h_2319 h_2320 (by decide)
          have h_2338 : w_2322 D.bt = some (114, dk_cz G 6000 (fun i9 => bo_i (μ.bt i9))) := dk_keep hw_2323 h_2319 h_2321 (by decide)
          refine lv_aload_n hx hb de_M_written_116 rfl (lv_at hl 0 rfl) ?_
          refine lv_dup hx hb de_M_written_117 rfl ?_
          refine dk_get (a := h) (v := .int (nI b9)) (C := kn_M) (T := kt_M) (N := 22) hx hb hts ki_M hown hK hP h_2325 rfl 5 (by decide) (hts _ wi_719) (fun _ h9 => h9) rfl de_M_written_118 ?_
          refine lv_iconst (v := nI 1) hx hb de_M_written_121 (by decide) ?_
          refine nx_iadd (a := b9) (b := 1) hx hb de_M_written_122 ?_
          refine lv_dup_x1 hx hb de_M_written_123 rfl rfl ?_
          refine dk_put (a := h) (v := .int (nI (b9 + 1))) (ty := .int) (C := kn_M) (T := kt_M) (N := 22) hx hb hts ki_M ky_M kk_M kd_M hown hK hP hS h_2325 rfl 5 (by decide) (hts _ wi_719) (fun _ h9 => h9) rfl (by decide +kernel) rfl rfl (Nat.le_of_ble_eq_true rfl) de_M_written_124 (fun H locs w_2339 hw_2340 hP hS => ?_)
          have h_2341 : w_2339 h = some (100, .inr (cx_M, [.int (nI 0), .int (nI μ.n), .int (nI μ.sq), .int (nI μ.sf), .int (nI μ.rs), .int (nI (b9 + 1)), .int (nI μ.pr), .int (nI μ.mi), .ref D.kf, .ref D.nf, .ref D.rf, .ref D.lf, .ref D.sv, .ref D.bk, .ref D.od, .ref D.vf, .ref D.bv, .ref D.df, .ref D.ss, .ref D.bd, .ref D.ks, .ref D.bt])) := dk_here hw_2340
          have h_2342 : w_2339 D.kf = some (101, dk_ci G 700 (fun i9 => nI (μ.kf i9))) := dk_keep hw_2340 h_2325 h_2326 (by decide)
          have h_2343 : w_2339 D.nf = some (102, dk_ci G 700 (fun i9 => nI (μ.nf i9))) := dk_keep hw_2340 h_2325 h_2327 (by decide)
          have h_2344 : w_2339 D.rf = some (103, dk_ci G 700 (fun i9 => rI (μ.rf i9))) := dk_keep hw_2340 h_2325 h_2328 (by decide)
          have h_2345 : w_2339 D.lf = some (104, dk_ci G 5000 (fun i9 => rI (μ.lf i9))) := dk_keep hw_2340 h_2325 h_2329 (by decide)
          have h_2346 : w_2339 D.sv = some (105, dk_ci G 6 (fun i9 => nI (μ.sv i9))) := dk_keep hw_2340 h_2325 h_2330 (by decide)
          have h_2347 : w_2339 D.bk = some (106, dk_ci G 16 (fun i9 => nI ((va_up μ.bk b9 k) i9))) := dk_keep hw_2340 h_2325 h_2331 (by decide)
          have h_2348 : w_2339 D.od = some (107, dk_ci G 700 (fun i9 => nI (μ.od i9))) := dk_keep hw_2340 h_2325 h_2332 (by decide)
          have h_2349 : w_2339 D.vf = some (108, dk_cl G 700 (fun i9 => μ.vf i9)) := dk_keep hw_2340 h_2325 h_2333 (by decide)
          have h_2350 : w_2339 D.bv = some (109, dk_cl G 16 (fun i9 => (va_up μ.bv b9 z) i9)) := dk_keep hw_2340 h_2325 h_2334 (by decide)
          have h_2351 : w_2339 D.df = some (110, dk_cz G 700 (fun i9 => bo_i (μ.df i9))) := dk_keep hw_2340 h_2325 h_2335 (by decide)
          have h_2352 : w_2339 D.ss = some (111, dk_cz G 6 (fun i9 => bo_i (μ.ss i9))) := dk_keep hw_2340 h_2325 h_2336 (by decide)
          have h_2353 : w_2339 D.bd = some (112, dk_cz G 16 (fun i9 => bo_i ((va_up μ.bd b9 b) i9))) := dk_keep hw_2340 h_2325 h_2324 (by decide)
          have h_2354 : w_2339 D.ks = some (113, dk_cz G 700 (fun i9 => bo_i (μ.ks i9))) := dk_keep hw_2340 h_2325 h_2337 (by decide)
          have h_2355 : w_2339 D.bt = some (114, dk_cz G 6000 (fun i9 => bo_i (μ.bt i9))) := dk_keep hw_2340 h_2325 h_2338 (by decide)
          have hm_2356 : md_at G w_2339 h D (((((((μ.er' 0).er' 0).er' 0).bk' (va_up μ.bk b9 k)).bv' (va_up μ.bv b9 z)).bd' (va_up μ.bd b9 b)).ba' (some (b9 + 1))) := ⟨h_2341, h_2342, h_2343, h_2344, h_2345, h_2346, h_2347, h_2348, h_2349, h_2350, h_2351, h_2352, h_2353, h_2354, h_2355⟩
          exact dk_iret hQ hx hb hr hlocks hP hS (Nat.le_refl _) (Nat.le_refl _) (⟨rfl, hm_2356, (((((((dk_fr.rf).tr ((dk_fr.up (T := md_T) hh_2198 (by unfold md_T; omega)).eq hw_2200)).tr (hf_2243)).tr (hf_2268)).tr ((dk_fr.up (T := md_T) ha_2276 (by unfold md_T; omega)).eq hw_2289)).tr ((dk_fr.up (T := md_T) h_2299 (by unfold md_T; omega)).eq hw_2306)).tr ((dk_fr.up (T := md_T) h_2319 (by unfold md_T; omega)).eq hw_2323)).tr ((dk_fr.up (T := md_T) h_2325 (by unfold md_T; omega)).eq hw_2340)⟩) de_M_written_127
        · exact absurd c_2285 (by decide)
      · exact absurd c_2262 (by omega)
  · exact absurd c_2237 (by decide)
set_option maxHeartbeats 4000000 in
set_option maxRecDepth 100000 in
theorem c_M_writtenW (l : Launch) (G : dk_G) (w : dk_H) (h : Nat) (D : md_D) (μ : md_S) (hm : md_at G w h D μ) (hmo : md_ok μ) (k : Nat) (hk0 : k < 1024) (hba : μ.ba = none) (hn : μ.n < 600) (hs : μ.sq + 1 < 2 ^ 30) (z : Int64) (b : Bool) : dk_Mi l my_M_written (wd_c my_M_written mb_M_written 5 (some .int)) rm_M_written G w [.ref h, .int (nI k), .long z, .int (bo_i b)] (fun r w1 => r = nI (μ.sq + 1) ∧ md_at G w1 h D (md_ff (md_w (μ.er' 0) k z b)) ∧ dk_fr md_T w w1) 0 0 := by
  obtain ⟨ok1, ok2, ok3, ok4, ok5, ok6, ok7, ok8, ok9, ok10, ok11⟩ := id hmo
  refine dk_enter (lv := [(0, .ref h), (1, .int (nI k)), (2, .long z), (4, .int (bo_i b))]) (by decide) (Nat.le_of_ble_eq_true rfl) rfl (fun p e s m args below meth c ls Q hQ C hP hS hl => ?_)
  obtain ⟨hx, hb, hr, hml, hlocks, hown, hnm, hts, hE⟩ := C
  have hK := hE.1
  have hN := hE.2.1
  have hh_2357 : w h = some (100, .inr (cx_M, [.int (nI μ.er), .int (nI μ.n), .int (nI μ.sq), .int (nI μ.sf), .int (nI μ.rs), .int (rI μ.ba), .int (nI μ.pr), .int (nI μ.mi), .ref D.kf, .ref D.nf, .ref D.rf, .ref D.lf, .ref D.sv, .ref D.bk, .ref D.od, .ref D.vf, .ref D.bv, .ref D.df, .ref D.ss, .ref D.bd, .ref D.ks, .ref D.bt])) := hm.o
  refine lv_aload_n hx hb de_M_written_0 rfl (lv_at hl 0 rfl) ?_
  refine lv_iconst (v := nI 0) hx hb de_M_written_1 (by decide) ?_
  refine dk_put (a := h) (v := .int (nI 0)) (ty := .int) (C := kn_M) (T := kt_M) (N := 22) hx hb hts ki_M ky_M kk_M kd_M hown hK hP hS hh_2357 rfl 0 (by decide) (hts _ wi_714) (fun _ h9 => h9) rfl (by decide +kernel) rfl rfl (Nat.le_of_ble_eq_true rfl) de_M_written_2 (fun H locs w_2358 hw_2359 hP hS => ?_)
  have h_2360 : w_2358 h = some (100, .inr (cx_M, [.int (nI 0), .int (nI μ.n), .int (nI μ.sq), .int (nI μ.sf), .int (nI μ.rs), .int (rI μ.ba), .int (nI μ.pr), .int (nI μ.mi), .ref D.kf, .ref D.nf, .ref D.rf, .ref D.lf, .ref D.sv, .ref D.bk, .ref D.od, .ref D.vf, .ref D.bv, .ref D.df, .ref D.ss, .ref D.bd, .ref D.ks, .ref D.bt])) := dk_here hw_2359
  have h_2361 : w_2358 D.kf = some (101, dk_ci G 700 (fun i9 => nI (μ.kf i9))) := dk_keep hw_2359 hh_2357 hm.kf (by decide)
  have h_2362 : w_2358 D.nf = some (102, dk_ci G 700 (fun i9 => nI (μ.nf i9))) := dk_keep hw_2359 hh_2357 hm.nf (by decide)
  have h_2363 : w_2358 D.rf = some (103, dk_ci G 700 (fun i9 => rI (μ.rf i9))) := dk_keep hw_2359 hh_2357 hm.rf (by decide)
  have h_2364 : w_2358 D.lf = some (104, dk_ci G 5000 (fun i9 => rI (μ.lf i9))) := dk_keep hw_2359 hh_2357 hm.lf (by decide)
  have h_2365 : w_2358 D.sv = some (105, dk_ci G 6 (fun i9 => nI (μ.sv i9))) := dk_keep hw_2359 hh_2357 hm.sv (by decide)
  have h_2366 : w_2358 D.bk = some (106, dk_ci G 16 (fun i9 => nI (μ.bk i9))) := dk_keep hw_2359 hh_2357 hm.bk (by decide)
  have h_2367 : w_2358 D.od = some (107, dk_ci G 700 (fun i9 => nI (μ.od i9))) := dk_keep hw_2359 hh_2357 hm.od (by decide)
  have h_2368 : w_2358 D.vf = some (108, dk_cl G 700 (fun i9 => μ.vf i9)) := dk_keep hw_2359 hh_2357 hm.vf (by decide)
  have h_2369 : w_2358 D.bv = some (109, dk_cl G 16 (fun i9 => μ.bv i9)) := dk_keep hw_2359 hh_2357 hm.bv (by decide)
  have h_2370 : w_2358 D.df = some (110, dk_cz G 700 (fun i9 => bo_i (μ.df i9))) := dk_keep hw_2359 hh_2357 hm.df (by decide)
  have h_2371 : w_2358 D.ss = some (111, dk_cz G 6 (fun i9 => bo_i (μ.ss i9))) := dk_keep hw_2359 hh_2357 hm.ss (by decide)
  have h_2372 : w_2358 D.bd = some (112, dk_cz G 16 (fun i9 => bo_i (μ.bd i9))) := dk_keep hw_2359 hh_2357 hm.bd (by decide)
  have h_2373 : w_2358 D.ks = some (113, dk_cz G 700 (fun i9 => bo_i (μ.ks i9))) := dk_keep hw_2359 hh_2357 hm.ks (by decide)
  have h_2374 : w_2358 D.bt = some (114, dk_cz G 6000 (fun i9 => bo_i (μ.bt i9))) := dk_keep hw_2359 hh_2357 hm.bt (by decide)
  have hm_2375 : md_at G w_2358 h D (μ.er' 0) := ⟨h_2360, h_2361, h_2362, h_2363, h_2364, h_2365, h_2366, h_2367, h_2368, h_2369, h_2370, h_2371, h_2372, h_2373, h_2374⟩
  have hh_2376 : w_2358 h = some (100, .inr (cx_M, [.int (nI 0), .int (nI μ.n), .int (nI μ.sq), .int (nI μ.sf), .int (nI μ.rs), .int (rI μ.ba), .int (nI μ.pr), .int (nI μ.mi), .ref D.kf, .ref D.nf, .ref D.rf, .ref D.lf, .ref D.sv, .ref D.bk, .ref D.od, .ref D.vf, .ref D.bv, .ref D.df, .ref D.ss, .ref D.bd, .ref D.ks, .ref D.bt])) := hm_2375.o
  have ha_2377 : w_2358 D.kf = some (101, dk_ci G 700 (fun i9 => nI (μ.kf i9))) := hm_2375.kf
  have ha_2378 : w_2358 D.nf = some (102, dk_ci G 700 (fun i9 => nI (μ.nf i9))) := hm_2375.nf
  have ha_2379 : w_2358 D.rf = some (103, dk_ci G 700 (fun i9 => rI (μ.rf i9))) := hm_2375.rf
  have ha_2380 : w_2358 D.lf = some (104, dk_ci G 5000 (fun i9 => rI (μ.lf i9))) := hm_2375.lf
  have ha_2381 : w_2358 D.sv = some (105, dk_ci G 6 (fun i9 => nI (μ.sv i9))) := hm_2375.sv
  have ha_2382 : w_2358 D.bk = some (106, dk_ci G 16 (fun i9 => nI (μ.bk i9))) := hm_2375.bk
  have ha_2383 : w_2358 D.od = some (107, dk_ci G 700 (fun i9 => nI (μ.od i9))) := hm_2375.od
  have ha_2384 : w_2358 D.vf = some (108, dk_cl G 700 (fun i9 => μ.vf i9)) := hm_2375.vf
  have ha_2385 : w_2358 D.bv = some (109, dk_cl G 16 (fun i9 => μ.bv i9)) := hm_2375.bv
  have ha_2386 : w_2358 D.df = some (110, dk_cz G 700 (fun i9 => bo_i (μ.df i9))) := hm_2375.df
  have ha_2387 : w_2358 D.ss = some (111, dk_cz G 6 (fun i9 => bo_i (μ.ss i9))) := hm_2375.ss
  have ha_2388 : w_2358 D.bd = some (112, dk_cz G 16 (fun i9 => bo_i (μ.bd i9))) := hm_2375.bd
  have ha_2389 : w_2358 D.ks = some (113, dk_cz G 700 (fun i9 => bo_i (μ.ks i9))) := hm_2375.ks
  have ha_2390 : w_2358 D.bt = some (114, dk_cz G 6000 (fun i9 => bo_i (μ.bt i9))) := hm_2375.bt
  refine lv_aload_n hx hb de_M_written_5 rfl (lv_at hl 0 rfl) ?_
  refine lv_iload_n hx hb de_M_written_6 rfl (lv_at hl 1 rfl) ?_
  refine lv_iconst (v := nI 0) hx hb de_M_written_7 (by decide) ?_
  refine lv_sipush (v := nI 1023) hx hb de_M_written_8 (by decide) ?_
  refine dk_calli (va_runS (As := [.int (nI k), .int (nI 0), .int (nI 1023)]) (rest := [.ref h]) ⟨hx, hb, hml, hown, hts⟩ (c_M_in l G w_2358 (nI k) (nI 0) (nI 1023)) (va_cwS 3 hts (wd_gS wi_795 wi_793 wi_794 wi_8) rfl rfl rfl (by decide +kernel) ⟨Nat.le_of_ble_eq_true rfl, Nat.le_of_ble_eq_true rfl⟩) (dk_preS hE hP hS) rfl rfl hl.1 rfl (lv_room (Nat.le_of_ble_eq_true rfl)) de_M_written_11 ⟨(by first | exact Nat.le_of_ble_eq_true rfl | (simp only [Nat.zero_add]; omega) | omega), (by first | exact Nat.le_of_ble_eq_true rfl | (simp only [Nat.zero_add]; omega) | omega)⟩) hS (fun r_2393 w_2391 H locs hq_2392 hP hS => ?_)
  rw [im_y (by decide) (by omega)] at hq_2392
  obtain ⟨hr_2394, he_2395⟩ := hq_2392
  subst hr_2394
  rw [he_2395] at hP
  refine bo_if_ne (b := true) (tgt := 21) hx hb de_M_written_14 (by decide) (fun c_2396 => ?_) (fun c_2396 => ?_)
  · refine lv_iconst (v := nI 0) hx hb de_M_written_21 (by decide) ?_
    refine lv_iconst (v := nI 1) hx hb de_M_written_22 (by decide) ?_
    rw [show (nI 0) = bo_i false from (by decide)]
    refine dk_calli (va_runV (As := [.int (bo_i false), .int (nI 1)]) (rest := []) ⟨hx, hb, hml, hown, hts⟩ (c_M_fails l G w_2358 h D (μ.er' 0) hm_2375 false 1 (by decide) (by decide) (show (0 : Nat) < 3 by decide)) (cwV 2 hts (wd_gV (C := "RunKeeperModel") wi_799 wi_796 wi_798 (wd_p (q := (⟨"RunKeeperModel", "fails", "(ZI)Z"⟩, 22)) (by decide +kernel) (by decide +kernel)) wi_8) rfl rfl rfl (by decide +kernel) ⟨Nat.le_of_ble_eq_true rfl, Nat.le_of_ble_eq_true rfl⟩) (dk_preV (kn_M, kt_M, 22) hE hP hS hh_2376 rfl) rfl rfl hl.1 rfl (lv_room (Nat.le_of_ble_eq_true rfl)) de_M_written_23 ⟨(by first | exact Nat.le_of_ble_eq_true rfl | (simp only [Nat.zero_add]; omega) | omega), (by first | exact Nat.le_of_ble_eq_true rfl | (simp only [Nat.zero_add]; omega) | omega)⟩) hS (fun r_2399 w_2397 H locs hq_2398 hP hS => ?_)
    obtain ⟨hr_2400, hq_2401, hf_2402⟩ := hq_2398
    subst hr_2400
    have hm_2403 : md_at G w_2397 h D ((μ.er' 0).er' 0) := hq_2401
    have hh_2404 : w_2397 h = some (100, .inr (cx_M, [.int (nI 0), .int (nI μ.n), .int (nI μ.sq), .int (nI μ.sf), .int (nI μ.rs), .int (rI μ.ba), .int (nI μ.pr), .int (nI μ.mi), .ref D.kf, .ref D.nf, .ref D.rf, .ref D.lf, .ref D.sv, .ref D.bk, .ref D.od, .ref D.vf, .ref D.bv, .ref D.df, .ref D.ss, .ref D.bd, .ref D.ks, .ref D.bt])) := hm_2403.o
    have ha_2405 : w_2397 D.kf = some (101, dk_ci G 700 (fun i9 => nI (μ.kf i9))) := hm_2403.kf
    have ha_2406 : w_2397 D.nf = some (102, dk_ci G 700 (fun i9 => nI (μ.nf i9))) := hm_2403.nf
    have ha_2407 : w_2397 D.rf = some (103, dk_ci G 700 (fun i9 => rI (μ.rf i9))) := hm_2403.rf
    have ha_2408 : w_2397 D.lf = some (104, dk_ci G 5000 (fun i9 => rI (μ.lf i9))) := hm_2403.lf
    have ha_2409 : w_2397 D.sv = some (105, dk_ci G 6 (fun i9 => nI (μ.sv i9))) := hm_2403.sv
    have ha_2410 : w_2397 D.bk = some (106, dk_ci G 16 (fun i9 => nI (μ.bk i9))) := hm_2403.bk
    have ha_2411 : w_2397 D.od = some (107, dk_ci G 700 (fun i9 => nI (μ.od i9))) := hm_2403.od
    have ha_2412 : w_2397 D.vf = some (108, dk_cl G 700 (fun i9 => μ.vf i9)) := hm_2403.vf
    have ha_2413 : w_2397 D.bv = some (109, dk_cl G 16 (fun i9 => μ.bv i9)) := hm_2403.bv
    have ha_2414 : w_2397 D.df = some (110, dk_cz G 700 (fun i9 => bo_i (μ.df i9))) := hm_2403.df
    have ha_2415 : w_2397 D.ss = some (111, dk_cz G 6 (fun i9 => bo_i (μ.ss i9))) := hm_2403.ss
    have ha_2416 : w_2397 D.bd = some (112, dk_cz G 16 (fun i9 => bo_i (μ.bd i9))) := hm_2403.bd
    have ha_2417 : w_2397 D.ks = some (113, dk_cz G 700 (fun i9 => bo_i (μ.ks i9))) := hm_2403.ks
    have ha_2418 : w_2397 D.bt = some (114, dk_cz G 6000 (fun i9 => bo_i (μ.bt i9))) := hm_2403.bt
    refine bo_if_ne (b := false) (tgt := 76) hx hb de_M_written_26 (by decide) (fun c_2419 => ?_) (fun c_2419 => ?_)
    · exact absurd c_2419 (by decide)
    · refine lv_aload_n hx hb de_M_written_29 rfl (lv_at hl 0 rfl) ?_
      refine lv_aload_n hx hb de_M_written_30 rfl (lv_at hl 0 rfl) ?_
      refine dk_get (a := h) (v := .int (rI μ.ba)) (C := kn_M) (T := kt_M) (N := 22) hx hb hts ki_M hown hK hP hh_2404 rfl 5 (by decide) (hts _ wi_719) (fun _ h9 => h9) rfl de_M_written_31 ?_
      rw [show rI μ.ba = -1 from by rw [hba]; rfl]
      refine lv_if_lt (tgt := 54) hx hb de_M_written_34 (by decide) (fun c_2420 => ?_) (fun c_2420 => ?_)
      · refine lv_aload_n hx hb de_M_written_54 rfl (lv_at hl 0 rfl) ?_
        refine dk_get (a := h) (v := .int (nI μ.n)) (C := kn_M) (T := kt_M) (N := 22) hx hb hts ki_M hown hK hP hh_2404 rfl 1 (by decide) (hts _ wi_715) (fun _ h9 => h9) rfl de_M_written_55 ?_
        refine lv_sipush (v := nI 600) hx hb de_M_written_58 (by decide) ?_
        refine nx_icmp_lt (a := μ.n) (b := 600) (tgt := 68) hx hb (by omega) (by omega) de_M_written_61 (by decide) (fun c_2421 => ?_) (fun c_2421 => ?_)
        · refine lv_iconst (v := nI 0) hx hb de_M_written_68 (by decide) ?_
          refine lv_iconst (v := nI 2) hx hb de_M_written_69 (by decide) ?_
          rw [show (nI 0) = bo_i false from (by decide)]
          refine dk_calli (va_runV (As := [.int (bo_i false), .int (nI 2)]) (rest := []) ⟨hx, hb, hml, hown, hts⟩ (c_M_fails l G w_2397 h D ((μ.er' 0).er' 0) hm_2403 false 2 (by decide) (by decide) (show (0 : Nat) < 3 by decide)) (cwV 2 hts (wd_gV (C := "RunKeeperModel") wi_799 wi_796 wi_798 (wd_p (q := (⟨"RunKeeperModel", "fails", "(ZI)Z"⟩, 22)) (by decide +kernel) (by decide +kernel)) wi_8) rfl rfl rfl (by decide +kernel) ⟨Nat.le_of_ble_eq_true rfl, Nat.le_of_ble_eq_true rfl⟩) (dk_preV (kn_M, kt_M, 22) hE hP hS hh_2404 rfl) rfl rfl hl.1 rfl (lv_room (Nat.le_of_ble_eq_true rfl)) de_M_written_70 ⟨(by first | exact Nat.le_of_ble_eq_true rfl | (simp only [Nat.zero_add]; omega) | omega), (by first | exact Nat.le_of_ble_eq_true rfl | (simp only [Nat.zero_add]; omega) | omega)⟩) hS (fun r_2424 w_2422 H locs hq_2423 hP hS => ?_)
          obtain ⟨hr_2425, hq_2426, hf_2427⟩ := hq_2423
          subst hr_2425
          have hm_2428 : md_at G w_2422 h D (((μ.er' 0).er' 0).er' 0) := hq_2426
          have hh_2429 : w_2422 h = some (100, .inr (cx_M, [.int (nI 0), .int (nI μ.n), .int (nI μ.sq), .int (nI μ.sf), .int (nI μ.rs), .int (rI μ.ba), .int (nI μ.pr), .int (nI μ.mi), .ref D.kf, .ref D.nf, .ref D.rf, .ref D.lf, .ref D.sv, .ref D.bk, .ref D.od, .ref D.vf, .ref D.bv, .ref D.df, .ref D.ss, .ref D.bd, .ref D.ks, .ref D.bt])) := hm_2428.o
          have ha_2430 : w_2422 D.kf = some (101, dk_ci G 700 (fun i9 => nI (μ.kf i9))) := hm_2428.kf
          have ha_2431 : w_2422 D.nf = some (102, dk_ci G 700 (fun i9 => nI (μ.nf i9))) := hm_2428.nf
          have ha_2432 : w_2422 D.rf = some (103, dk_ci G 700 (fun i9 => rI (μ.rf i9))) := hm_2428.rf
          have ha_2433 : w_2422 D.lf = some (104, dk_ci G 5000 (fun i9 => rI (μ.lf i9))) := hm_2428.lf
          have ha_2434 : w_2422 D.sv = some (105, dk_ci G 6 (fun i9 => nI (μ.sv i9))) := hm_2428.sv
          have ha_2435 : w_2422 D.bk = some (106, dk_ci G 16 (fun i9 => nI (μ.bk i9))) := hm_2428.bk
          have ha_2436 : w_2422 D.od = some (107, dk_ci G 700 (fun i9 => nI (μ.od i9))) := hm_2428.od
          have ha_2437 : w_2422 D.vf = some (108, dk_cl G 700 (fun i9 => μ.vf i9)) := hm_2428.vf
          have ha_2438 : w_2422 D.bv = some (109, dk_cl G 16 (fun i9 => μ.bv i9)) := hm_2428.bv
          have ha_2439 : w_2422 D.df = some (110, dk_cz G 700 (fun i9 => bo_i (μ.df i9))) := hm_2428.df
          have ha_2440 : w_2422 D.ss = some (111, dk_cz G 6 (fun i9 => bo_i (μ.ss i9))) := hm_2428.ss
          have ha_2441 : w_2422 D.bd = some (112, dk_cz G 16 (fun i9 => bo_i (μ.bd i9))) := hm_2428.bd
          have ha_2442 : w_2422 D.ks = some (113, dk_cz G 700 (fun i9 => bo_i (μ.ks i9))) := hm_2428.ks
          have ha_2443 : w_2422 D.bt = some (114, dk_cz G 6000 (fun i9 => bo_i (μ.bt i9))) := hm_2428.bt
          refine bo_if_eq (b := false) (tgt := 78) hx hb de_M_written_73 (by decide) (fun c_2444 => ?_) (fun c_2444 => ?_)
          · refine lv_aload_n hx hb de_M_written_78 rfl (lv_at hl 0 rfl) ?_
            refine dk_get (a := h) (v := .int (rI μ.ba)) (C := kn_M) (T := kt_M) (N := 22) hx hb hts ki_M hown hK hP hh_2429 rfl 5 (by decide) (hts _ wi_719) (fun _ h9 => h9) rfl de_M_written_79 ?_
            rw [show rI μ.ba = -1 from by rw [hba]; rfl]
            refine lv_if_lt (tgt := 128) hx hb de_M_written_82 (by decide) (fun c_2445 => ?_) (fun c_2445 => ?_)
            · refine lv_aload_n hx hb de_M_written_128 rfl (lv_at hl 0 rfl) ?_
              refine lv_iload_n hx hb de_M_written_129 rfl (lv_at hl 1 rfl) ?_
              refine lv_lload_n hx hb de_M_written_130 rfl (lv_at hl 2 rfl) ?_
              refine lv_iload hx hb de_M_written_131 (lv_at hl 3 rfl) ?_
              have hmo2 : md_ok ((μ.er' 0).er' 0) := ⟨ok1, ok2, ok3, ok4, ok5, ok6, ok7, ok8, ok9, ok10, show (0 : Nat) < 3 by decide⟩
              refine dk_callv (va_runV (As := [.int (nI k), .long z, .int (bo_i b)]) (rest := []) ⟨hx, hb, hml, hown, hts⟩ (c_M_write l G w_2422 h D (((μ.er' 0).er' 0).er' 0) hm_2428 hmo2 k z b) (cwV 3 hts (wd_gV (C := "RunKeeperModel") wi_803 wi_800 wi_802 (wd_p (q := (⟨"RunKeeperModel", "write", "(IJZ)V"⟩, 22)) (by decide +kernel) (by decide +kernel)) wi_8) rfl rfl rfl (by decide +kernel) ⟨Nat.le_of_ble_eq_true rfl, Nat.le_of_ble_eq_true rfl⟩) (dk_preV (kn_M, kt_M, 22) hE hP hS hh_2429 rfl) rfl rfl hl.1 rfl (lv_room (Nat.le_of_ble_eq_true rfl)) de_M_written_133 ⟨(by first | exact Nat.le_of_ble_eq_true rfl | (simp only [Nat.zero_add]; omega) | omega), (by first | exact Nat.le_of_ble_eq_true rfl | (simp only [Nat.zero_add]; omega) | omega)⟩) hS (fun w_2446 H locs hq_2447 hP hS => ?_)
              have hmo3 : md_ok (md_w (μ.er' 0) k z b) := md_w_ok hmo2 hk0 (by show μ.n < 640; omega) (by show μ.sq + 1 < 2 ^ 30; exact hs)
              have hm_2449 : md_at G w_2446 h D (md_w (μ.er' 0) k z b) := hq_2447.1
              have hh_2450 : w_2446 h = some (100, .inr (cx_M, [.int (nI ((md_w (μ.er' 0) k z b).er)), .int (nI ((md_w (μ.er' 0) k z b).n)), .int (nI ((md_w (μ.er' 0) k z b).sq)), .int (nI ((md_w (μ.er' 0) k z b).sf)), .int (nI ((md_w (μ.er' 0) k z b).rs)), .int (rI ((md_w (μ.er' 0) k z b).ba)), .int (nI ((md_w (μ.er' 0) k z b).pr)), .int (nI ((md_w (μ.er' 0) k z b).mi)), .ref D.kf, .ref D.nf, .ref D.rf, .ref D.lf, .ref D.sv, .ref D.bk, .ref D.od, .ref D.vf, .ref D.bv, .ref D.df, .ref D.ss, .ref D.bd, .ref D.ks, .ref D.bt])) := hm_2449.o
              have ha_2451 : w_2446 D.kf = some (101, dk_ci G 700 (fun i9 => nI ((md_w (μ.er' 0) k z b).kf i9))) := hm_2449.kf
              have ha_2452 : w_2446 D.nf = some (102, dk_ci G 700 (fun i9 => nI ((md_w (μ.er' 0) k z b).nf i9))) := hm_2449.nf
              have ha_2453 : w_2446 D.rf = some (103, dk_ci G 700 (fun i9 => rI ((md_w (μ.er' 0) k z b).rf i9))) := hm_2449.rf
              have ha_2454 : w_2446 D.lf = some (104, dk_ci G 5000 (fun i9 => rI ((md_w (μ.er' 0) k z b).lf i9))) := hm_2449.lf
              have ha_2455 : w_2446 D.sv = some (105, dk_ci G 6 (fun i9 => nI ((md_w (μ.er' 0) k z b).sv i9))) := hm_2449.sv
              have ha_2456 : w_2446 D.bk = some (106, dk_ci G 16 (fun i9 => nI ((md_w (μ.er' 0) k z b).bk i9))) := hm_2449.bk
              have ha_2457 : w_2446 D.od = some (107, dk_ci G 700 (fun i9 => nI ((md_w (μ.er' 0) k z b).od i9))) := hm_2449.od
              have ha_2458 : w_2446 D.vf = some (108, dk_cl G 700 (fun i9 => (md_w (μ.er' 0) k z b).vf i9)) := hm_2449.vf
              have ha_2459 : w_2446 D.bv = some (109, dk_cl G 16 (fun i9 => (md_w (μ.er' 0) k z b).bv i9)) := hm_2449.bv
              have ha_2460 : w_2446 D.df = some (110, dk_cz G 700 (fun i9 => bo_i ((md_w (μ.er' 0) k z b).df i9))) := hm_2449.df
              have ha_2461 : w_2446 D.ss = some (111, dk_cz G 6 (fun i9 => bo_i ((md_w (μ.er' 0) k z b).ss i9))) := hm_2449.ss
              have ha_2462 : w_2446 D.bd = some (112, dk_cz G 16 (fun i9 => bo_i ((md_w (μ.er' 0) k z b).bd i9))) := hm_2449.bd
              have ha_2463 : w_2446 D.ks = some (113, dk_cz G 700 (fun i9 => bo_i ((md_w (μ.er' 0) k z b).ks i9))) := hm_2449.ks
              have ha_2464 : w_2446 D.bt = some (114, dk_cz G 6000 (fun i9 => bo_i ((md_w (μ.er' 0) k z b).bt i9))) := hm_2449.bt
              refine lv_aload_n hx hb de_M_written_136 rfl (lv_at hl 0 rfl) ?_
              refine lv_iconst (v := (-1)) hx hb de_M_written_137 (by decide) ?_
              refine dk_calli (va_runV (As := [.int (-1)]) (rest := []) ⟨hx, hb, hml, hown, hts⟩ (c_M_inRun l G w_2446 h D (md_w (μ.er' 0) k z b) hm_2449 hmo3 none (fun r hr => by cases hr)) (cwV 1 hts (wd_gV (C := "RunKeeperModel") wi_807 wi_804 wi_806 (wd_p (q := (⟨"RunKeeperModel", "inRun", "(I)I"⟩, 22)) (by decide +kernel) (by decide +kernel)) wi_8) rfl rfl rfl (by decide +kernel) ⟨Nat.le_of_ble_eq_true rfl, Nat.le_of_ble_eq_true rfl⟩) (dk_preV (kn_M, kt_M, 22) hE hP hS hh_2450 rfl) rfl rfl hl.1 rfl (lv_room (Nat.le_of_ble_eq_true rfl)) de_M_written_138 ⟨(by first | exact Nat.le_of_ble_eq_true rfl | (simp only [Nat.zero_add]; omega) | omega), (by first | exact Nat.le_of_ble_eq_true rfl | (simp only [Nat.zero_add]; omega) | omega)⟩) hS (fun r_2467 w_2465 H locs hq_2466 hP hS => ?_)
              obtain ⟨hr_2468, he_2469⟩ := hq_2466
              subst hr_2468
              rw [he_2469] at hP
              have hck := md_k_le (md_w (μ.er' 0) k z b)
              have hn9 : (md_w (μ.er' 0) k z b).n = μ.n + 1 := rfl
              refine lv_bipush (v := nI 24) hx hb de_M_written_141 (by decide) ?_
              refine nx_icmp_lt (a := md_k (md_w (μ.er' 0) k z b)) (b := 24) (tgt := 151) hx hb (by omega) (by omega) de_M_written_143 (by decide) (fun c_2470 => ?_) (fun c_2470 => ?_)
              · refine lv_aload_n hx hb de_M_written_151 rfl (lv_at hl 0 rfl) ?_
                refine dk_get (a := h) (v := .int (nI ((md_w (μ.er' 0) k z b).sq))) (C := kn_M) (T := kt_M) (N := 22) hx hb hts ki_M hown hK hP hh_2450 rfl 2 (by decide) (hts _ wi_716) (fun _ h9 => h9) rfl de_M_written_152 ?_
                exact dk_iret hQ hx hb hr hlocks hP hS (Nat.le_refl _) (Nat.le_refl _) (⟨rfl, by rw [md_ff, if_neg (by omega)]; exact hm_2449, ((((dk_fr.rf).tr ((dk_fr.up (T := md_T) hh_2357 (by unfold md_T; omega)).eq hw_2359)).tr (hf_2402)).tr (hf_2427)).tr (hq_2447.2)⟩) de_M_written_155
              · refine lv_aload_n hx hb de_M_written_146 rfl (lv_at hl 0 rfl) ?_
                refine dk_calli (va_runV (As := []) (rest := []) ⟨hx, hb, hml, hown, hts⟩ (c_M_flushed l G w_2446 h D (md_w (μ.er' 0) k z b) hm_2449 hmo3) (cwV 0 hts (wd_gV (C := "RunKeeperModel") wi_811 wi_808 wi_810 (wd_p (q := (⟨"RunKeeperModel", "flushed", "()I"⟩, 22)) (by decide +kernel) (by decide +kernel)) wi_8) rfl rfl rfl (by decide +kernel) ⟨Nat.le_of_ble_eq_true rfl, Nat.le_of_ble_eq_true rfl⟩) (dk_preV (kn_M, kt_M, 22) hE hP hS hh_2450 rfl) rfl rfl hl.1 rfl (lv_room (Nat.le_of_ble_eq_true rfl)) de_M_written_147 ⟨(by first | exact Nat.le_of_ble_eq_true rfl | (simp only [Nat.zero_add]; omega) | omega), (by first | exact Nat.le_of_ble_eq_true rfl | (simp only [Nat.zero_add]; omega) | omega)⟩) hS (fun r_2473 w_2471 H locs hq_2472 hP hS => ?_)
                obtain ⟨-, hq2, hq3⟩ := hq_2472
                have hm_2474 : md_at G w_2471 h D (md_fl (md_w (μ.er' 0) k z b)) := hq2
                have hh_2475 : w_2471 h = some (100, .inr (cx_M, [.int (nI ((md_fl (md_w (μ.er' 0) k z b)).er)), .int (nI ((md_fl (md_w (μ.er' 0) k z b)).n)), .int (nI ((md_fl (md_w (μ.er' 0) k z b)).sq)), .int (nI ((md_fl (md_w (μ.er' 0) k z b)).sf)), .int (nI ((md_fl (md_w (μ.er' 0) k z b)).rs)), .int (rI ((md_fl (md_w (μ.er' 0) k z b)).ba)), .int (nI ((md_fl (md_w (μ.er' 0) k z b)).pr)), .int (nI ((md_fl (md_w (μ.er' 0) k z b)).mi)), .ref D.kf, .ref D.nf, .ref D.rf, .ref D.lf, .ref D.sv, .ref D.bk, .ref D.od, .ref D.vf, .ref D.bv, .ref D.df, .ref D.ss, .ref D.bd, .ref D.ks, .ref D.bt])) := hm_2474.o
                have ha_2476 : w_2471 D.kf = some (101, dk_ci G 700 (fun i9 => nI ((md_fl (md_w (μ.er' 0) k z b)).kf i9))) := hm_2474.kf
                have ha_2477 : w_2471 D.nf = some (102, dk_ci G 700 (fun i9 => nI ((md_fl (md_w (μ.er' 0) k z b)).nf i9))) := hm_2474.nf
                have ha_2478 : w_2471 D.rf = some (103, dk_ci G 700 (fun i9 => rI ((md_fl (md_w (μ.er' 0) k z b)).rf i9))) := hm_2474.rf
                have ha_2479 : w_2471 D.lf = some (104, dk_ci G 5000 (fun i9 => rI ((md_fl (md_w (μ.er' 0) k z b)).lf i9))) := hm_2474.lf
                have ha_2480 : w_2471 D.sv = some (105, dk_ci G 6 (fun i9 => nI ((md_fl (md_w (μ.er' 0) k z b)).sv i9))) := hm_2474.sv
                have ha_2481 : w_2471 D.bk = some (106, dk_ci G 16 (fun i9 => nI ((md_fl (md_w (μ.er' 0) k z b)).bk i9))) := hm_2474.bk
                have ha_2482 : w_2471 D.od = some (107, dk_ci G 700 (fun i9 => nI ((md_fl (md_w (μ.er' 0) k z b)).od i9))) := hm_2474.od
                have ha_2483 : w_2471 D.vf = some (108, dk_cl G 700 (fun i9 => (md_fl (md_w (μ.er' 0) k z b)).vf i9)) := hm_2474.vf
                have ha_2484 : w_2471 D.bv = some (109, dk_cl G 16 (fun i9 => (md_fl (md_w (μ.er' 0) k z b)).bv i9)) := hm_2474.bv
                have ha_2485 : w_2471 D.df = some (110, dk_cz G 700 (fun i9 => bo_i ((md_fl (md_w (μ.er' 0) k z b)).df i9))) := hm_2474.df
                have ha_2486 : w_2471 D.ss = some (111, dk_cz G 6 (fun i9 => bo_i ((md_fl (md_w (μ.er' 0) k z b)).ss i9))) := hm_2474.ss
                have ha_2487 : w_2471 D.bd = some (112, dk_cz G 16 (fun i9 => bo_i ((md_fl (md_w (μ.er' 0) k z b)).bd i9))) := hm_2474.bd
                have ha_2488 : w_2471 D.ks = some (113, dk_cz G 700 (fun i9 => bo_i ((md_fl (md_w (μ.er' 0) k z b)).ks i9))) := hm_2474.ks
                have ha_2489 : w_2471 D.bt = some (114, dk_cz G 6000 (fun i9 => bo_i ((md_fl (md_w (μ.er' 0) k z b)).bt i9))) := hm_2474.bt
                refine lv_pop hx hb de_M_written_150 rfl ?_
                refine lv_aload_n hx hb de_M_written_151 rfl (lv_at hl 0 rfl) ?_
                refine dk_get (a := h) (v := .int (nI ((md_fl (md_w (μ.er' 0) k z b)).sq))) (C := kn_M) (T := kt_M) (N := 22) hx hb hts ki_M hown hK hP hh_2475 rfl 2 (by decide) (hts _ wi_716) (fun _ h9 => h9) rfl de_M_written_152 ?_
                exact dk_iret hQ hx hb hr hlocks hP hS (Nat.le_refl _) (Nat.le_refl _) (⟨by rw [md_fl_sq]; rfl, by rw [md_ff, if_pos (by omega)]; exact hm_2474, (((((dk_fr.rf).tr ((dk_fr.up (T := md_T) hh_2357 (by unfold md_T; omega)).eq hw_2359)).tr (hf_2402)).tr (hf_2427)).tr (hq_2447.2)).tr (hq3)⟩) de_M_written_155
            · exact absurd c_2445 (by decide)
          · exact absurd c_2444 (by decide)
        · exact absurd c_2421 (by omega)
      · exact absurd c_2420 (by decide)
  · exact absurd c_2396 (by decide)
abbrev rm_M_put : Room := { frames := 2, cells := 0, slots := 0, locals := 48 }
set_option maxHeartbeats 4000000 in
set_option maxRecDepth 100000 in
theorem c_M_putK (l : Launch) (G : dk_G) (w : dk_H) (h : Nat) (D : md_D) (μ : md_S) (hm : md_at G w h D μ) (hmo : md_ok μ) (k : Int32) (hk0 : im_b k (nI 0) (nI 1023) = false) (z : Int64) : dk_Mi l my_M_put (wd_c my_M_put mb_M_put 4 (some .int)) rm_M_put G w [.ref h, .int k, .long z] (fun r w1 => r = nI 0 ∧ md_at G w1 h D (μ.er' 1) ∧ dk_fr md_T w w1) 0 0 := by
  refine dk_enter (lv := [(0, .ref h), (1, .int k), (2, .long z)]) (by decide) (Nat.le_of_ble_eq_true rfl) rfl (fun p e s m args below meth c ls Q hQ C hP hS hl => ?_)
  obtain ⟨hx, hb, hr, hml, hlocks, hown, hnm, hts, hE⟩ := C
  have hK := hE.1
  have hN := hE.2.1
  have hh_2490 : w h = some (100, .inr (cx_M, [.int (nI μ.er), .int (nI μ.n), .int (nI μ.sq), .int (nI μ.sf), .int (nI μ.rs), .int (rI μ.ba), .int (nI μ.pr), .int (nI μ.mi), .ref D.kf, .ref D.nf, .ref D.rf, .ref D.lf, .ref D.sv, .ref D.bk, .ref D.od, .ref D.vf, .ref D.bv, .ref D.df, .ref D.ss, .ref D.bd, .ref D.ks, .ref D.bt])) := hm.o
  refine lv_aload_n hx hb de_M_put_0 rfl (lv_at hl 0 rfl) ?_
  refine lv_iload_n hx hb de_M_put_1 rfl (lv_at hl 1 rfl) ?_
  refine lv_lload_n hx hb de_M_put_2 rfl (lv_at hl 2 rfl) ?_
  refine lv_iconst (v := nI 0) hx hb de_M_put_3 (by decide) ?_
  rw [show nI 0 = bo_i false by decide]
  refine dk_calli (va_runV (As := [.int k, .long z, .int (bo_i false)]) (rest := []) ⟨hx, hb, hml, hown, hts⟩ (c_M_writtenK l G w h D μ hm hmo k hk0 z false) (cwV 3 hts (wd_gV (C := "RunKeeperModel") wi_792 wi_789 wi_791 (wd_p (q := (⟨"RunKeeperModel", "written", "(IJZ)I"⟩, 22)) (by decide +kernel) (by decide +kernel)) wi_8) rfl rfl rfl (by decide +kernel) ⟨Nat.le_of_ble_eq_true rfl, Nat.le_of_ble_eq_true rfl⟩) (dk_preV (kn_M, kt_M, 22) hE hP hS hh_2490 rfl) rfl rfl hl.1 rfl (lv_room (Nat.le_of_ble_eq_true rfl)) de_M_put_4 ⟨(by first | exact Nat.le_of_ble_eq_true rfl | (simp only [Nat.zero_add]; omega) | omega), (by first | exact Nat.le_of_ble_eq_true rfl | (simp only [Nat.zero_add]; omega) | omega)⟩) hS (fun r_2493 w_2491 H locs hq_2492 hP hS => ?_)
  exact dk_iret hQ hx hb hr hlocks hP hS (Nat.le_refl _) (Nat.le_refl _) (⟨hq_2492.1, hq_2492.2.1, hq_2492.2.2⟩) de_M_put_7
set_option maxHeartbeats 4000000 in
set_option maxRecDepth 100000 in
theorem c_M_putB (l : Launch) (G : dk_G) (w : dk_H) (h : Nat) (D : md_D) (μ : md_S) (hm : md_at G w h D μ) (hmo : md_ok μ) (k : Nat) (hk0 : k < 1024) (b9 : Nat) (hba : μ.ba = some b9) (hb9 : b9 = 16) (z : Int64) : dk_Mi l my_M_put (wd_c my_M_put mb_M_put 4 (some .int)) rm_M_put G w [.ref h, .int (nI k), .long z] (fun r w1 => r = nI 0 ∧ md_at G w1 h D (μ.er' 2) ∧ dk_fr md_T w w1) 0 0 := by
  refine dk_enter (lv := [(0, .ref h), (1, .int (nI k)), (2, .long z)]) (by decide) (Nat.le_of_ble_eq_true rfl) rfl (fun p e s m args below meth c ls Q hQ C hP hS hl => ?_)
  obtain ⟨hx, hb, hr, hml, hlocks, hown, hnm, hts, hE⟩ := C
  have hK := hE.1
  have hN := hE.2.1
  have hh_2494 : w h = some (100, .inr (cx_M, [.int (nI μ.er), .int (nI μ.n), .int (nI μ.sq), .int (nI μ.sf), .int (nI μ.rs), .int (rI μ.ba), .int (nI μ.pr), .int (nI μ.mi), .ref D.kf, .ref D.nf, .ref D.rf, .ref D.lf, .ref D.sv, .ref D.bk, .ref D.od, .ref D.vf, .ref D.bv, .ref D.df, .ref D.ss, .ref D.bd, .ref D.ks, .ref D.bt])) := hm.o
  refine lv_aload_n hx hb de_M_put_0 rfl (lv_at hl 0 rfl) ?_
  refine lv_iload_n hx hb de_M_put_1 rfl (lv_at hl 1 rfl) ?_
  refine lv_lload_n hx hb de_M_put_2 rfl (lv_at hl 2 rfl) ?_
  refine lv_iconst (v := nI 0) hx hb de_M_put_3 (by decide) ?_
  rw [show nI 0 = bo_i false by decide]
  refine dk_calli (va_runV (As := [.int (nI k), .long z, .int (bo_i false)]) (rest := []) ⟨hx, hb, hml, hown, hts⟩ (c_M_writtenB l G w h D μ hm hmo k hk0 b9 hba hb9 z false) (cwV 3 hts (wd_gV (C := "RunKeeperModel") wi_792 wi_789 wi_791 (wd_p (q := (⟨"RunKeeperModel", "written", "(IJZ)I"⟩, 22)) (by decide +kernel) (by decide +kernel)) wi_8) rfl rfl rfl (by decide +kernel) ⟨Nat.le_of_ble_eq_true rfl, Nat.le_of_ble_eq_true rfl⟩) (dk_preV (kn_M, kt_M, 22) hE hP hS hh_2494 rfl) rfl rfl hl.1 rfl (lv_room (Nat.le_of_ble_eq_true rfl)) de_M_put_4 ⟨(by first | exact Nat.le_of_ble_eq_true rfl | (simp only [Nat.zero_add]; omega) | omega), (by first | exact Nat.le_of_ble_eq_true rfl | (simp only [Nat.zero_add]; omega) | omega)⟩) hS (fun r_2497 w_2495 H locs hq_2496 hP hS => ?_)
  exact dk_iret hQ hx hb hr hlocks hP hS (Nat.le_refl _) (Nat.le_refl _) (⟨hq_2496.1, hq_2496.2.1, hq_2496.2.2⟩) de_M_put_7
set_option maxHeartbeats 4000000 in
set_option maxRecDepth 100000 in
theorem c_M_putN (l : Launch) (G : dk_G) (w : dk_H) (h : Nat) (D : md_D) (μ : md_S) (hm : md_at G w h D μ) (hmo : md_ok μ) (k : Nat) (hk0 : k < 1024) (hba : μ.ba = none) (hn : 600 ≤ μ.n) (z : Int64) : dk_Mi l my_M_put (wd_c my_M_put mb_M_put 4 (some .int)) rm_M_put G w [.ref h, .int (nI k), .long z] (fun r w1 => r = nI 0 ∧ md_at G w1 h D (μ.er' 2) ∧ dk_fr md_T w w1) 0 0 := by
  refine dk_enter (lv := [(0, .ref h), (1, .int (nI k)), (2, .long z)]) (by decide) (Nat.le_of_ble_eq_true rfl) rfl (fun p e s m args below meth c ls Q hQ C hP hS hl => ?_)
  obtain ⟨hx, hb, hr, hml, hlocks, hown, hnm, hts, hE⟩ := C
  have hK := hE.1
  have hN := hE.2.1
  have hh_2498 : w h = some (100, .inr (cx_M, [.int (nI μ.er), .int (nI μ.n), .int (nI μ.sq), .int (nI μ.sf), .int (nI μ.rs), .int (rI μ.ba), .int (nI μ.pr), .int (nI μ.mi), .ref D.kf, .ref D.nf, .ref D.rf, .ref D.lf, .ref D.sv, .ref D.bk, .ref D.od, .ref D.vf, .ref D.bv, .ref D.df, .ref D.ss, .ref D.bd, .ref D.ks, .ref D.bt])) := hm.o
  refine lv_aload_n hx hb de_M_put_0 rfl (lv_at hl 0 rfl) ?_
  refine lv_iload_n hx hb de_M_put_1 rfl (lv_at hl 1 rfl) ?_
  refine lv_lload_n hx hb de_M_put_2 rfl (lv_at hl 2 rfl) ?_
  refine lv_iconst (v := nI 0) hx hb de_M_put_3 (by decide) ?_
  rw [show nI 0 = bo_i false by decide]
  refine dk_calli (va_runV (As := [.int (nI k), .long z, .int (bo_i false)]) (rest := []) ⟨hx, hb, hml, hown, hts⟩ (c_M_writtenN l G w h D μ hm hmo k hk0 hba hn z false) (cwV 3 hts (wd_gV (C := "RunKeeperModel") wi_792 wi_789 wi_791 (wd_p (q := (⟨"RunKeeperModel", "written", "(IJZ)I"⟩, 22)) (by decide +kernel) (by decide +kernel)) wi_8) rfl rfl rfl (by decide +kernel) ⟨Nat.le_of_ble_eq_true rfl, Nat.le_of_ble_eq_true rfl⟩) (dk_preV (kn_M, kt_M, 22) hE hP hS hh_2498 rfl) rfl rfl hl.1 rfl (lv_room (Nat.le_of_ble_eq_true rfl)) de_M_put_4 ⟨(by first | exact Nat.le_of_ble_eq_true rfl | (simp only [Nat.zero_add]; omega) | omega), (by first | exact Nat.le_of_ble_eq_true rfl | (simp only [Nat.zero_add]; omega) | omega)⟩) hS (fun r_2501 w_2499 H locs hq_2500 hP hS => ?_)
  exact dk_iret hQ hx hb hr hlocks hP hS (Nat.le_refl _) (Nat.le_refl _) (⟨hq_2500.1, hq_2500.2.1, hq_2500.2.2⟩) de_M_put_7
set_option maxHeartbeats 4000000 in
set_option maxRecDepth 100000 in
theorem c_M_putC (l : Launch) (G : dk_G) (w : dk_H) (h : Nat) (D : md_D) (μ : md_S) (hm : md_at G w h D μ) (hmo : md_ok μ) (k : Nat) (hk0 : k < 1024) (b9 : Nat) (hba : μ.ba = some b9) (hb9 : b9 < 16) (z : Int64) : dk_Mi l my_M_put (wd_c my_M_put mb_M_put 4 (some .int)) rm_M_put G w [.ref h, .int (nI k), .long z] (fun r w1 => r = nI (b9 + 1) ∧ md_at G w1 h D (md_b μ k z false b9) ∧ dk_fr md_T w w1) 0 0 := by
  refine dk_enter (lv := [(0, .ref h), (1, .int (nI k)), (2, .long z)]) (by decide) (Nat.le_of_ble_eq_true rfl) rfl (fun p e s m args below meth c ls Q hQ C hP hS hl => ?_)
  obtain ⟨hx, hb, hr, hml, hlocks, hown, hnm, hts, hE⟩ := C
  have hK := hE.1
  have hN := hE.2.1
  have hh_2502 : w h = some (100, .inr (cx_M, [.int (nI μ.er), .int (nI μ.n), .int (nI μ.sq), .int (nI μ.sf), .int (nI μ.rs), .int (rI μ.ba), .int (nI μ.pr), .int (nI μ.mi), .ref D.kf, .ref D.nf, .ref D.rf, .ref D.lf, .ref D.sv, .ref D.bk, .ref D.od, .ref D.vf, .ref D.bv, .ref D.df, .ref D.ss, .ref D.bd, .ref D.ks, .ref D.bt])) := hm.o
  refine lv_aload_n hx hb de_M_put_0 rfl (lv_at hl 0 rfl) ?_
  refine lv_iload_n hx hb de_M_put_1 rfl (lv_at hl 1 rfl) ?_
  refine lv_lload_n hx hb de_M_put_2 rfl (lv_at hl 2 rfl) ?_
  refine lv_iconst (v := nI 0) hx hb de_M_put_3 (by decide) ?_
  rw [show nI 0 = bo_i false by decide]
  refine dk_calli (va_runV (As := [.int (nI k), .long z, .int (bo_i false)]) (rest := []) ⟨hx, hb, hml, hown, hts⟩ (c_M_writtenC l G w h D μ hm hmo k hk0 b9 hba hb9 z false) (cwV 3 hts (wd_gV (C := "RunKeeperModel") wi_792 wi_789 wi_791 (wd_p (q := (⟨"RunKeeperModel", "written", "(IJZ)I"⟩, 22)) (by decide +kernel) (by decide +kernel)) wi_8) rfl rfl rfl (by decide +kernel) ⟨Nat.le_of_ble_eq_true rfl, Nat.le_of_ble_eq_true rfl⟩) (dk_preV (kn_M, kt_M, 22) hE hP hS hh_2502 rfl) rfl rfl hl.1 rfl (lv_room (Nat.le_of_ble_eq_true rfl)) de_M_put_4 ⟨(by first | exact Nat.le_of_ble_eq_true rfl | (simp only [Nat.zero_add]; omega) | omega), (by first | exact Nat.le_of_ble_eq_true rfl | (simp only [Nat.zero_add]; omega) | omega)⟩) hS (fun r_2505 w_2503 H locs hq_2504 hP hS => ?_)
  exact dk_iret hQ hx hb hr hlocks hP hS (Nat.le_refl _) (Nat.le_refl _) (⟨hq_2504.1, hq_2504.2.1, hq_2504.2.2⟩) de_M_put_7
set_option maxHeartbeats 4000000 in
set_option maxRecDepth 100000 in
theorem c_M_putW (l : Launch) (G : dk_G) (w : dk_H) (h : Nat) (D : md_D) (μ : md_S) (hm : md_at G w h D μ) (hmo : md_ok μ) (k : Nat) (hk0 : k < 1024) (hba : μ.ba = none) (hn : μ.n < 600) (hs : μ.sq + 1 < 2 ^ 30) (z : Int64) : dk_Mi l my_M_put (wd_c my_M_put mb_M_put 4 (some .int)) rm_M_put G w [.ref h, .int (nI k), .long z] (fun r w1 => r = nI (μ.sq + 1) ∧ md_at G w1 h D (md_ff (md_w (μ.er' 0) k z false)) ∧ dk_fr md_T w w1) 0 0 := by
  refine dk_enter (lv := [(0, .ref h), (1, .int (nI k)), (2, .long z)]) (by decide) (Nat.le_of_ble_eq_true rfl) rfl (fun p e s m args below meth c ls Q hQ C hP hS hl => ?_)
  obtain ⟨hx, hb, hr, hml, hlocks, hown, hnm, hts, hE⟩ := C
  have hK := hE.1
  have hN := hE.2.1
  have hh_2506 : w h = some (100, .inr (cx_M, [.int (nI μ.er), .int (nI μ.n), .int (nI μ.sq), .int (nI μ.sf), .int (nI μ.rs), .int (rI μ.ba), .int (nI μ.pr), .int (nI μ.mi), .ref D.kf, .ref D.nf, .ref D.rf, .ref D.lf, .ref D.sv, .ref D.bk, .ref D.od, .ref D.vf, .ref D.bv, .ref D.df, .ref D.ss, .ref D.bd, .ref D.ks, .ref D.bt])) := hm.o
  refine lv_aload_n hx hb de_M_put_0 rfl (lv_at hl 0 rfl) ?_
  refine lv_iload_n hx hb de_M_put_1 rfl (lv_at hl 1 rfl) ?_
  refine lv_lload_n hx hb de_M_put_2 rfl (lv_at hl 2 rfl) ?_
  refine lv_iconst (v := nI 0) hx hb de_M_put_3 (by decide) ?_
  rw [show nI 0 = bo_i false by decide]
  refine dk_calli (va_runV (As := [.int (nI k), .long z, .int (bo_i false)]) (rest := []) ⟨hx, hb, hml, hown, hts⟩ (c_M_writtenW l G w h D μ hm hmo k hk0 hba hn hs z false) (cwV 3 hts (wd_gV (C := "RunKeeperModel") wi_792 wi_789 wi_791 (wd_p (q := (⟨"RunKeeperModel", "written", "(IJZ)I"⟩, 22)) (by decide +kernel) (by decide +kernel)) wi_8) rfl rfl rfl (by decide +kernel) ⟨Nat.le_of_ble_eq_true rfl, Nat.le_of_ble_eq_true rfl⟩) (dk_preV (kn_M, kt_M, 22) hE hP hS hh_2506 rfl) rfl rfl hl.1 rfl (lv_room (Nat.le_of_ble_eq_true rfl)) de_M_put_4 ⟨(by first | exact Nat.le_of_ble_eq_true rfl | (simp only [Nat.zero_add]; omega) | omega), (by first | exact Nat.le_of_ble_eq_true rfl | (simp only [Nat.zero_add]; omega) | omega)⟩) hS (fun r_2509 w_2507 H locs hq_2508 hP hS => ?_)
  exact dk_iret hQ hx hb hr hlocks hP hS (Nat.le_refl _) (Nat.le_refl _) (⟨hq_2508.1, hq_2508.2.1, hq_2508.2.2⟩) de_M_put_7
abbrev rm_M_delete : Room := { frames := 2, cells := 0, slots := 0, locals := 48 }
set_option maxHeartbeats 4000000 in
set_option maxRecDepth 100000 in
theorem c_M_deleteK (l : Launch) (G : dk_G) (w : dk_H) (h : Nat) (D : md_D) (μ : md_S) (hm : md_at G w h D μ) (hmo : md_ok μ) (k : Int32) (hk0 : im_b k (nI 0) (nI 1023) = false) : dk_Mi l my_M_delete (wd_c my_M_delete mb_M_delete 2 (some .int)) rm_M_delete G w [.ref h, .int k] (fun r w1 => r = nI 0 ∧ md_at G w1 h D (μ.er' 1) ∧ dk_fr md_T w w1) 0 0 := by
  refine dk_enter (lv := [(0, .ref h), (1, .int k)]) (by decide) (Nat.le_of_ble_eq_true rfl) rfl (fun p e s m args below meth c ls Q hQ C hP hS hl => ?_)
  obtain ⟨hx, hb, hr, hml, hlocks, hown, hnm, hts, hE⟩ := C
  have hK := hE.1
  have hN := hE.2.1
  have hh_2510 : w h = some (100, .inr (cx_M, [.int (nI μ.er), .int (nI μ.n), .int (nI μ.sq), .int (nI μ.sf), .int (nI μ.rs), .int (rI μ.ba), .int (nI μ.pr), .int (nI μ.mi), .ref D.kf, .ref D.nf, .ref D.rf, .ref D.lf, .ref D.sv, .ref D.bk, .ref D.od, .ref D.vf, .ref D.bv, .ref D.df, .ref D.ss, .ref D.bd, .ref D.ks, .ref D.bt])) := hm.o
  refine lv_aload_n hx hb de_M_delete_0 rfl (lv_at hl 0 rfl) ?_
  refine lv_iload_n hx hb de_M_delete_1 rfl (lv_at hl 1 rfl) ?_
  refine lv_lconst (v := 0) hx hb de_M_delete_2 (by decide) ?_
  refine lv_iconst (v := nI 1) hx hb de_M_delete_3 (by decide) ?_
  rw [show nI 1 = bo_i true by decide]
  refine dk_calli (va_runV (As := [.int k, .long 0, .int (bo_i true)]) (rest := []) ⟨hx, hb, hml, hown, hts⟩ (c_M_writtenK l G w h D μ hm hmo k hk0 0 true) (cwV 3 hts (wd_gV (C := "RunKeeperModel") wi_792 wi_789 wi_791 (wd_p (q := (⟨"RunKeeperModel", "written", "(IJZ)I"⟩, 22)) (by decide +kernel) (by decide +kernel)) wi_8) rfl rfl rfl (by decide +kernel) ⟨Nat.le_of_ble_eq_true rfl, Nat.le_of_ble_eq_true rfl⟩) (dk_preV (kn_M, kt_M, 22) hE hP hS hh_2510 rfl) rfl rfl hl.1 rfl (lv_room (Nat.le_of_ble_eq_true rfl)) de_M_delete_4 ⟨(by first | exact Nat.le_of_ble_eq_true rfl | (simp only [Nat.zero_add]; omega) | omega), (by first | exact Nat.le_of_ble_eq_true rfl | (simp only [Nat.zero_add]; omega) | omega)⟩) hS (fun r_2513 w_2511 H locs hq_2512 hP hS => ?_)
  exact dk_iret hQ hx hb hr hlocks hP hS (Nat.le_refl _) (Nat.le_refl _) (⟨hq_2512.1, hq_2512.2.1, hq_2512.2.2⟩) de_M_delete_7
set_option maxHeartbeats 4000000 in
set_option maxRecDepth 100000 in
theorem c_M_deleteB (l : Launch) (G : dk_G) (w : dk_H) (h : Nat) (D : md_D) (μ : md_S) (hm : md_at G w h D μ) (hmo : md_ok μ) (k : Nat) (hk0 : k < 1024) (b9 : Nat) (hba : μ.ba = some b9) (hb9 : b9 = 16) : dk_Mi l my_M_delete (wd_c my_M_delete mb_M_delete 2 (some .int)) rm_M_delete G w [.ref h, .int (nI k)] (fun r w1 => r = nI 0 ∧ md_at G w1 h D (μ.er' 2) ∧ dk_fr md_T w w1) 0 0 := by
  refine dk_enter (lv := [(0, .ref h), (1, .int (nI k))]) (by decide) (Nat.le_of_ble_eq_true rfl) rfl (fun p e s m args below meth c ls Q hQ C hP hS hl => ?_)
  obtain ⟨hx, hb, hr, hml, hlocks, hown, hnm, hts, hE⟩ := C
  have hK := hE.1
  have hN := hE.2.1
  have hh_2514 : w h = some (100, .inr (cx_M, [.int (nI μ.er), .int (nI μ.n), .int (nI μ.sq), .int (nI μ.sf), .int (nI μ.rs), .int (rI μ.ba), .int (nI μ.pr), .int (nI μ.mi), .ref D.kf, .ref D.nf, .ref D.rf, .ref D.lf, .ref D.sv, .ref D.bk, .ref D.od, .ref D.vf, .ref D.bv, .ref D.df, .ref D.ss, .ref D.bd, .ref D.ks, .ref D.bt])) := hm.o
  refine lv_aload_n hx hb de_M_delete_0 rfl (lv_at hl 0 rfl) ?_
  refine lv_iload_n hx hb de_M_delete_1 rfl (lv_at hl 1 rfl) ?_
  refine lv_lconst (v := 0) hx hb de_M_delete_2 (by decide) ?_
  refine lv_iconst (v := nI 1) hx hb de_M_delete_3 (by decide) ?_
  rw [show nI 1 = bo_i true by decide]
  refine dk_calli (va_runV (As := [.int (nI k), .long 0, .int (bo_i true)]) (rest := []) ⟨hx, hb, hml, hown, hts⟩ (c_M_writtenB l G w h D μ hm hmo k hk0 b9 hba hb9 0 true) (cwV 3 hts (wd_gV (C := "RunKeeperModel") wi_792 wi_789 wi_791 (wd_p (q := (⟨"RunKeeperModel", "written", "(IJZ)I"⟩, 22)) (by decide +kernel) (by decide +kernel)) wi_8) rfl rfl rfl (by decide +kernel) ⟨Nat.le_of_ble_eq_true rfl, Nat.le_of_ble_eq_true rfl⟩) (dk_preV (kn_M, kt_M, 22) hE hP hS hh_2514 rfl) rfl rfl hl.1 rfl (lv_room (Nat.le_of_ble_eq_true rfl)) de_M_delete_4 ⟨(by first | exact Nat.le_of_ble_eq_true rfl | (simp only [Nat.zero_add]; omega) | omega), (by first | exact Nat.le_of_ble_eq_true rfl | (simp only [Nat.zero_add]; omega) | omega)⟩) hS (fun r_2517 w_2515 H locs hq_2516 hP hS => ?_)
  exact dk_iret hQ hx hb hr hlocks hP hS (Nat.le_refl _) (Nat.le_refl _) (⟨hq_2516.1, hq_2516.2.1, hq_2516.2.2⟩) de_M_delete_7
set_option maxHeartbeats 4000000 in
set_option maxRecDepth 100000 in
theorem c_M_deleteN (l : Launch) (G : dk_G) (w : dk_H) (h : Nat) (D : md_D) (μ : md_S) (hm : md_at G w h D μ) (hmo : md_ok μ) (k : Nat) (hk0 : k < 1024) (hba : μ.ba = none) (hn : 600 ≤ μ.n) : dk_Mi l my_M_delete (wd_c my_M_delete mb_M_delete 2 (some .int)) rm_M_delete G w [.ref h, .int (nI k)] (fun r w1 => r = nI 0 ∧ md_at G w1 h D (μ.er' 2) ∧ dk_fr md_T w w1) 0 0 := by
  refine dk_enter (lv := [(0, .ref h), (1, .int (nI k))]) (by decide) (Nat.le_of_ble_eq_true rfl) rfl (fun p e s m args below meth c ls Q hQ C hP hS hl => ?_)
  obtain ⟨hx, hb, hr, hml, hlocks, hown, hnm, hts, hE⟩ := C
  have hK := hE.1
  have hN := hE.2.1
  have hh_2518 : w h = some (100, .inr (cx_M, [.int (nI μ.er), .int (nI μ.n), .int (nI μ.sq), .int (nI μ.sf), .int (nI μ.rs), .int (rI μ.ba), .int (nI μ.pr), .int (nI μ.mi), .ref D.kf, .ref D.nf, .ref D.rf, .ref D.lf, .ref D.sv, .ref D.bk, .ref D.od, .ref D.vf, .ref D.bv, .ref D.df, .ref D.ss, .ref D.bd, .ref D.ks, .ref D.bt])) := hm.o
  refine lv_aload_n hx hb de_M_delete_0 rfl (lv_at hl 0 rfl) ?_
  refine lv_iload_n hx hb de_M_delete_1 rfl (lv_at hl 1 rfl) ?_
  refine lv_lconst (v := 0) hx hb de_M_delete_2 (by decide) ?_
  refine lv_iconst (v := nI 1) hx hb de_M_delete_3 (by decide) ?_
  rw [show nI 1 = bo_i true by decide]
  refine dk_calli (va_runV (As := [.int (nI k), .long 0, .int (bo_i true)]) (rest := []) ⟨hx, hb, hml, hown, hts⟩ (c_M_writtenN l G w h D μ hm hmo k hk0 hba hn 0 true) (cwV 3 hts (wd_gV (C := "RunKeeperModel") wi_792 wi_789 wi_791 (wd_p (q := (⟨"RunKeeperModel", "written", "(IJZ)I"⟩, 22)) (by decide +kernel) (by decide +kernel)) wi_8) rfl rfl rfl (by decide +kernel) ⟨Nat.le_of_ble_eq_true rfl, Nat.le_of_ble_eq_true rfl⟩) (dk_preV (kn_M, kt_M, 22) hE hP hS hh_2518 rfl) rfl rfl hl.1 rfl (lv_room (Nat.le_of_ble_eq_true rfl)) de_M_delete_4 ⟨(by first | exact Nat.le_of_ble_eq_true rfl | (simp only [Nat.zero_add]; omega) | omega), (by first | exact Nat.le_of_ble_eq_true rfl | (simp only [Nat.zero_add]; omega) | omega)⟩) hS (fun r_2521 w_2519 H locs hq_2520 hP hS => ?_)
  exact dk_iret hQ hx hb hr hlocks hP hS (Nat.le_refl _) (Nat.le_refl _) (⟨hq_2520.1, hq_2520.2.1, hq_2520.2.2⟩) de_M_delete_7
set_option maxHeartbeats 4000000 in
set_option maxRecDepth 100000 in
theorem c_M_deleteC (l : Launch) (G : dk_G) (w : dk_H) (h : Nat) (D : md_D) (μ : md_S) (hm : md_at G w h D μ) (hmo : md_ok μ) (k : Nat) (hk0 : k < 1024) (b9 : Nat) (hba : μ.ba = some b9) (hb9 : b9 < 16) : dk_Mi l my_M_delete (wd_c my_M_delete mb_M_delete 2 (some .int)) rm_M_delete G w [.ref h, .int (nI k)] (fun r w1 => r = nI (b9 + 1) ∧ md_at G w1 h D (md_b μ k 0 true b9) ∧ dk_fr md_T w w1) 0 0 := by
  refine dk_enter (lv := [(0, .ref h), (1, .int (nI k))]) (by decide) (Nat.le_of_ble_eq_true rfl) rfl (fun p e s m args below meth c ls Q hQ C hP hS hl => ?_)
  obtain ⟨hx, hb, hr, hml, hlocks, hown, hnm, hts, hE⟩ := C
  have hK := hE.1
  have hN := hE.2.1
  have hh_2522 : w h = some (100, .inr (cx_M, [.int (nI μ.er), .int (nI μ.n), .int (nI μ.sq), .int (nI μ.sf), .int (nI μ.rs), .int (rI μ.ba), .int (nI μ.pr), .int (nI μ.mi), .ref D.kf, .ref D.nf, .ref D.rf, .ref D.lf, .ref D.sv, .ref D.bk, .ref D.od, .ref D.vf, .ref D.bv, .ref D.df, .ref D.ss, .ref D.bd, .ref D.ks, .ref D.bt])) := hm.o
  refine lv_aload_n hx hb de_M_delete_0 rfl (lv_at hl 0 rfl) ?_
  refine lv_iload_n hx hb de_M_delete_1 rfl (lv_at hl 1 rfl) ?_
  refine lv_lconst (v := 0) hx hb de_M_delete_2 (by decide) ?_
  refine lv_iconst (v := nI 1) hx hb de_M_delete_3 (by decide) ?_
  rw [show nI 1 = bo_i true by decide]
  refine dk_calli (va_runV (As := [.int (nI k), .long 0, .int (bo_i true)]) (rest := []) ⟨hx, hb, hml, hown, hts⟩ (c_M_writtenC l G w h D μ hm hmo k hk0 b9 hba hb9 0 true) (cwV 3 hts (wd_gV (C := "RunKeeperModel") wi_792 wi_789 wi_791 (wd_p (q := (⟨"RunKeeperModel", "written", "(IJZ)I"⟩, 22)) (by decide +kernel) (by decide +kernel)) wi_8) rfl rfl rfl (by decide +kernel) ⟨Nat.le_of_ble_eq_true rfl, Nat.le_of_ble_eq_true rfl⟩) (dk_preV (kn_M, kt_M, 22) hE hP hS hh_2522 rfl) rfl rfl hl.1 rfl (lv_room (Nat.le_of_ble_eq_true rfl)) de_M_delete_4 ⟨(by first | exact Nat.le_of_ble_eq_true rfl | (simp only [Nat.zero_add]; omega) | omega), (by first | exact Nat.le_of_ble_eq_true rfl | (simp only [Nat.zero_add]; omega) | omega)⟩) hS (fun r_2525 w_2523 H locs hq_2524 hP hS => ?_)
  exact dk_iret hQ hx hb hr hlocks hP hS (Nat.le_refl _) (Nat.le_refl _) (⟨hq_2524.1, hq_2524.2.1, hq_2524.2.2⟩) de_M_delete_7
set_option maxHeartbeats 4000000 in
set_option maxRecDepth 100000 in
theorem c_M_deleteW (l : Launch) (G : dk_G) (w : dk_H) (h : Nat) (D : md_D) (μ : md_S) (hm : md_at G w h D μ) (hmo : md_ok μ) (k : Nat) (hk0 : k < 1024) (hba : μ.ba = none) (hn : μ.n < 600) (hs : μ.sq + 1 < 2 ^ 30) : dk_Mi l my_M_delete (wd_c my_M_delete mb_M_delete 2 (some .int)) rm_M_delete G w [.ref h, .int (nI k)] (fun r w1 => r = nI (μ.sq + 1) ∧ md_at G w1 h D (md_ff (md_w (μ.er' 0) k 0 true)) ∧ dk_fr md_T w w1) 0 0 := by
  refine dk_enter (lv := [(0, .ref h), (1, .int (nI k))]) (by decide) (Nat.le_of_ble_eq_true rfl) rfl (fun p e s m args below meth c ls Q hQ C hP hS hl => ?_)
  obtain ⟨hx, hb, hr, hml, hlocks, hown, hnm, hts, hE⟩ := C
  have hK := hE.1
  have hN := hE.2.1
  have hh_2526 : w h = some (100, .inr (cx_M, [.int (nI μ.er), .int (nI μ.n), .int (nI μ.sq), .int (nI μ.sf), .int (nI μ.rs), .int (rI μ.ba), .int (nI μ.pr), .int (nI μ.mi), .ref D.kf, .ref D.nf, .ref D.rf, .ref D.lf, .ref D.sv, .ref D.bk, .ref D.od, .ref D.vf, .ref D.bv, .ref D.df, .ref D.ss, .ref D.bd, .ref D.ks, .ref D.bt])) := hm.o
  refine lv_aload_n hx hb de_M_delete_0 rfl (lv_at hl 0 rfl) ?_
  refine lv_iload_n hx hb de_M_delete_1 rfl (lv_at hl 1 rfl) ?_
  refine lv_lconst (v := 0) hx hb de_M_delete_2 (by decide) ?_
  refine lv_iconst (v := nI 1) hx hb de_M_delete_3 (by decide) ?_
  rw [show nI 1 = bo_i true by decide]
  refine dk_calli (va_runV (As := [.int (nI k), .long 0, .int (bo_i true)]) (rest := []) ⟨hx, hb, hml, hown, hts⟩ (c_M_writtenW l G w h D μ hm hmo k hk0 hba hn hs 0 true) (cwV 3 hts (wd_gV (C := "RunKeeperModel") wi_792 wi_789 wi_791 (wd_p (q := (⟨"RunKeeperModel", "written", "(IJZ)I"⟩, 22)) (by decide +kernel) (by decide +kernel)) wi_8) rfl rfl rfl (by decide +kernel) ⟨Nat.le_of_ble_eq_true rfl, Nat.le_of_ble_eq_true rfl⟩) (dk_preV (kn_M, kt_M, 22) hE hP hS hh_2526 rfl) rfl rfl hl.1 rfl (lv_room (Nat.le_of_ble_eq_true rfl)) de_M_delete_4 ⟨(by first | exact Nat.le_of_ble_eq_true rfl | (simp only [Nat.zero_add]; omega) | omega), (by first | exact Nat.le_of_ble_eq_true rfl | (simp only [Nat.zero_add]; omega) | omega)⟩) hS (fun r_2529 w_2527 H locs hq_2528 hP hS => ?_)
  exact dk_iret hQ hx hb hr hlocks hP hS (Nat.le_refl _) (Nat.le_refl _) (⟨hq_2528.1, hq_2528.2.1, hq_2528.2.2⟩) de_M_delete_7
abbrev rm_M_batch : Room := { frames := 1, cells := 0, slots := 0, locals := 22 }
set_option maxHeartbeats 4000000 in
set_option maxRecDepth 100000 in
theorem c_M_batchF (l : Launch) (G : dk_G) (w : dk_H) (h : Nat) (D : md_D) (μ : md_S) (hm : md_at G w h D μ) (hmo : md_ok μ) (b9 : Nat) (hba : μ.ba = some b9) (hb9 : b9 ≤ 16) : dk_Mv l my_M_batch (wd_c my_M_batch mb_M_batch 1 none) rm_M_batch G w [.ref h] (fun w1 => md_at G w1 h D (μ.er' 1) ∧ dk_fr md_T w w1) 0 0 := by
  refine dk_enter (lv := [(0, .ref h)]) (by decide) (Nat.le_of_ble_eq_true rfl) rfl (fun p e s m args below meth c ls Q hQ C hP hS hl => ?_)
  obtain ⟨hx, hb, hr, hml, hlocks, hown, hnm, hts, hE⟩ := C
  have hK := hE.1
  have hN := hE.2.1
  have hh_2530 : w h = some (100, .inr (cx_M, [.int (nI μ.er), .int (nI μ.n), .int (nI μ.sq), .int (nI μ.sf), .int (nI μ.rs), .int (rI μ.ba), .int (nI μ.pr), .int (nI μ.mi), .ref D.kf, .ref D.nf, .ref D.rf, .ref D.lf, .ref D.sv, .ref D.bk, .ref D.od, .ref D.vf, .ref D.bv, .ref D.df, .ref D.ss, .ref D.bd, .ref D.ks, .ref D.bt])) := hm.o
  refine lv_aload_n hx hb de_M_batch_0 rfl (lv_at hl 0 rfl) ?_
  refine lv_iconst (v := nI 0) hx hb de_M_batch_1 (by decide) ?_
  refine dk_put (a := h) (v := .int (nI 0)) (ty := .int) (C := kn_M) (T := kt_M) (N := 22) hx hb hts ki_M ky_M kk_M kd_M hown hK hP hS hh_2530 rfl 0 (by decide) (hts _ wi_714) (fun _ h9 => h9) rfl (by decide +kernel) rfl rfl (Nat.le_of_ble_eq_true rfl) de_M_batch_2 (fun H locs w_2531 hw_2532 hP hS => ?_)
  have h_2533 : w_2531 h = some (100, .inr (cx_M, [.int (nI 0), .int (nI μ.n), .int (nI μ.sq), .int (nI μ.sf), .int (nI μ.rs), .int (rI μ.ba), .int (nI μ.pr), .int (nI μ.mi), .ref D.kf, .ref D.nf, .ref D.rf, .ref D.lf, .ref D.sv, .ref D.bk, .ref D.od, .ref D.vf, .ref D.bv, .ref D.df, .ref D.ss, .ref D.bd, .ref D.ks, .ref D.bt])) := dk_here hw_2532
  have h_2534 : w_2531 D.kf = some (101, dk_ci G 700 (fun i9 => nI (μ.kf i9))) := dk_keep hw_2532 hh_2530 hm.kf (by decide)
  have h_2535 : w_2531 D.nf = some (102, dk_ci G 700 (fun i9 => nI (μ.nf i9))) := dk_keep hw_2532 hh_2530 hm.nf (by decide)
  have h_2536 : w_2531 D.rf = some (103, dk_ci G 700 (fun i9 => rI (μ.rf i9))) := dk_keep hw_2532 hh_2530 hm.rf (by decide)
  have h_2537 : w_2531 D.lf = some (104, dk_ci G 5000 (fun i9 => rI (μ.lf i9))) := dk_keep hw_2532 hh_2530 hm.lf (by decide)
  have h_2538 : w_2531 D.sv = some (105, dk_ci G 6 (fun i9 => nI (μ.sv i9))) := dk_keep hw_2532 hh_2530 hm.sv (by decide)
  have h_2539 : w_2531 D.bk = some (106, dk_ci G 16 (fun i9 => nI (μ.bk i9))) := dk_keep hw_2532 hh_2530 hm.bk (by decide)
  have h_2540 : w_2531 D.od = some (107, dk_ci G 700 (fun i9 => nI (μ.od i9))) := dk_keep hw_2532 hh_2530 hm.od (by decide)
  have h_2541 : w_2531 D.vf = some (108, dk_cl G 700 (fun i9 => μ.vf i9)) := dk_keep hw_2532 hh_2530 hm.vf (by decide)
  have h_2542 : w_2531 D.bv = some (109, dk_cl G 16 (fun i9 => μ.bv i9)) := dk_keep hw_2532 hh_2530 hm.bv (by decide)
  have h_2543 : w_2531 D.df = some (110, dk_cz G 700 (fun i9 => bo_i (μ.df i9))) := dk_keep hw_2532 hh_2530 hm.df (by decide)
  have h_2544 : w_2531 D.ss = some (111, dk_cz G 6 (fun i9 => bo_i (μ.ss i9))) := dk_keep hw_2532 hh_2530 hm.ss (by decide)
  have h_2545 : w_2531 D.bd = some (112, dk_cz G 16 (fun i9 => bo_i (μ.bd i9))) := dk_keep hw_2532 hh_2530 hm.bd (by decide)
  have h_2546 : w_2531 D.ks = some (113, dk_cz G 700 (fun i9 => bo_i (μ.ks i9))) := dk_keep hw_2532 hh_2530 hm.ks (by decide)
  have h_2547 : w_2531 D.bt = some (114, dk_cz G 6000 (fun i9 => bo_i (μ.bt i9))) := dk_keep hw_2532 hh_2530 hm.bt (by decide)
  have hm_2548 : md_at G w_2531 h D (μ.er' 0) := ⟨h_2533, h_2534, h_2535, h_2536, h_2537, h_2538, h_2539, h_2540, h_2541, h_2542, h_2543, h_2544, h_2545, h_2546, h_2547⟩
  have hh_2549 : w_2531 h = some (100, .inr (cx_M, [.int (nI 0), .int (nI μ.n), .int (nI μ.sq), .int (nI μ.sf), .int (nI μ.rs), .int (rI μ.ba), .int (nI μ.pr), .int (nI μ.mi), .ref D.kf, .ref D.nf, .ref D.rf, .ref D.lf, .ref D.sv, .ref D.bk, .ref D.od, .ref D.vf, .ref D.bv, .ref D.df, .ref D.ss, .ref D.bd, .ref D.ks, .ref D.bt])) := hm_2548.o
  have ha_2550 : w_2531 D.kf = some (101, dk_ci G 700 (fun i9 => nI (μ.kf i9))) := hm_2548.kf
  have ha_2551 : w_2531 D.nf = some (102, dk_ci G 700 (fun i9 => nI (μ.nf i9))) := hm_2548.nf
  have ha_2552 : w_2531 D.rf = some (103, dk_ci G 700 (fun i9 => rI (μ.rf i9))) := hm_2548.rf
  have ha_2553 : w_2531 D.lf = some (104, dk_ci G 5000 (fun i9 => rI (μ.lf i9))) := hm_2548.lf
  have ha_2554 : w_2531 D.sv = some (105, dk_ci G 6 (fun i9 => nI (μ.sv i9))) := hm_2548.sv
  have ha_2555 : w_2531 D.bk = some (106, dk_ci G 16 (fun i9 => nI (μ.bk i9))) := hm_2548.bk
  have ha_2556 : w_2531 D.od = some (107, dk_ci G 700 (fun i9 => nI (μ.od i9))) := hm_2548.od
  have ha_2557 : w_2531 D.vf = some (108, dk_cl G 700 (fun i9 => μ.vf i9)) := hm_2548.vf
  have ha_2558 : w_2531 D.bv = some (109, dk_cl G 16 (fun i9 => μ.bv i9)) := hm_2548.bv
  have ha_2559 : w_2531 D.df = some (110, dk_cz G 700 (fun i9 => bo_i (μ.df i9))) := hm_2548.df
  have ha_2560 : w_2531 D.ss = some (111, dk_cz G 6 (fun i9 => bo_i (μ.ss i9))) := hm_2548.ss
  have ha_2561 : w_2531 D.bd = some (112, dk_cz G 16 (fun i9 => bo_i (μ.bd i9))) := hm_2548.bd
  have ha_2562 : w_2531 D.ks = some (113, dk_cz G 700 (fun i9 => bo_i (μ.ks i9))) := hm_2548.ks
  have ha_2563 : w_2531 D.bt = some (114, dk_cz G 6000 (fun i9 => bo_i (μ.bt i9))) := hm_2548.bt
  refine lv_aload_n hx hb de_M_batch_5 rfl (lv_at hl 0 rfl) ?_
  refine lv_aload_n hx hb de_M_batch_6 rfl (lv_at hl 0 rfl) ?_
  refine dk_get (a := h) (v := .int (rI μ.ba)) (C := kn_M) (T := kt_M) (N := 22) hx hb hts ki_M hown hK hP hh_2549 rfl 5 (by decide) (hts _ wi_719) (fun _ h9 => h9) rfl de_M_batch_7 ?_
  rw [show rI μ.ba = nI b9 from by rw [hba]; rfl]
  refine nx_if_lt (a := b9) (tgt := 17) hx hb (by omega) de_M_batch_10 (by decide) ?_
  refine lv_iconst (v := nI 1) hx hb de_M_batch_13 (by decide) ?_
  refine lv_goto (tgt := 18) hx hb de_M_batch_14 (by decide) ?_
  refine lv_iconst (v := nI 1) hx hb de_M_batch_18 (by decide) ?_
  rw [show (nI 1) = bo_i true from (by decide)]
  refine dk_calli (va_runV (As := [.int (bo_i true), .int (nI 1)]) (rest := []) ⟨hx, hb, hml, hown, hts⟩ (c_M_fails l G w_2531 h D (μ.er' 0) hm_2548 true 1 (by decide) (by decide) (show (0 : Nat) < 3 by decide)) (cwV 2 hts (wd_gV (C := "RunKeeperModel") wi_799 wi_796 wi_798 (wd_p (q := (⟨"RunKeeperModel", "fails", "(ZI)Z"⟩, 22)) (by decide +kernel) (by decide +kernel)) wi_8) rfl rfl rfl (by decide +kernel) ⟨Nat.le_of_ble_eq_true rfl, Nat.le_of_ble_eq_true rfl⟩) (dk_preV (kn_M, kt_M, 22) hE hP hS hh_2549 rfl) rfl rfl hl.1 rfl (lv_room (Nat.le_of_ble_eq_true rfl)) de_M_batch_19 ⟨(by first | exact Nat.le_of_ble_eq_true rfl | (simp only [Nat.zero_add]; omega) | omega), (by first | exact Nat.le_of_ble_eq_true rfl | (simp only [Nat.zero_add]; omega) | omega)⟩) hS (fun r_2567 w_2565 H locs hq_2566 hP hS => ?_)
  obtain ⟨hr_2568, hq_2569, hf_2570⟩ := hq_2566
  subst hr_2568
  have hm_2571 : md_at G w_2565 h D ((μ.er' 0).er' 1) := hq_2569
  have hh_2572 : w_2565 h = some (100, .inr (cx_M, [.int (nI 1), .int (nI μ.n), .int (nI μ.sq), .int (nI μ.sf), .int (nI μ.rs), .int (rI μ.ba), .int (nI μ.pr), .int (nI μ.mi), .ref D.kf, .ref D.nf, .ref D.rf, .ref D.lf, .ref D.sv, .ref D.bk, .ref D.od, .ref D.vf, .ref D.bv, .ref D.df, .ref D.ss, .ref D.bd, .ref D.ks, .ref D.bt])) := hm_2571.o
  have ha_2573 : w_2565 D.kf = some (101, dk_ci G 700 (fun i9 => nI (μ.kf i9))) := hm_2571.kf
  have ha_2574 : w_2565 D.nf = some (102, dk_ci G 700 (fun i9 => nI (μ.nf i9))) := hm_2571.nf
  have ha_2575 : w_2565 D.rf = some (103, dk_ci G 700 (fun i9 => rI (μ.rf i9))) := hm_2571.rf
  have ha_2576 : w_2565 D.lf = some (104, dk_ci G 5000 (fun i9 => rI (μ.lf i9))) := hm_2571.lf
  have ha_2577 : w_2565 D.sv = some (105, dk_ci G 6 (fun i9 => nI (μ.sv i9))) := hm_2571.sv
  have ha_2578 : w_2565 D.bk = some (106, dk_ci G 16 (fun i9 => nI (μ.bk i9))) := hm_2571.bk
  have ha_2579 : w_2565 D.od = some (107, dk_ci G 700 (fun i9 => nI (μ.od i9))) := hm_2571.od
  have ha_2580 : w_2565 D.vf = some (108, dk_cl G 700 (fun i9 => μ.vf i9)) := hm_2571.vf
  have ha_2581 : w_2565 D.bv = some (109, dk_cl G 16 (fun i9 => μ.bv i9)) := hm_2571.bv
  have ha_2582 : w_2565 D.df = some (110, dk_cz G 700 (fun i9 => bo_i (μ.df i9))) := hm_2571.df
  have ha_2583 : w_2565 D.ss = some (111, dk_cz G 6 (fun i9 => bo_i (μ.ss i9))) := hm_2571.ss
  have ha_2584 : w_2565 D.bd = some (112, dk_cz G 16 (fun i9 => bo_i (μ.bd i9))) := hm_2571.bd
  have ha_2585 : w_2565 D.ks = some (113, dk_cz G 700 (fun i9 => bo_i (μ.ks i9))) := hm_2571.ks
  have ha_2586 : w_2565 D.bt = some (114, dk_cz G 6000 (fun i9 => bo_i (μ.bt i9))) := hm_2571.bt
  refine bo_if_ne (b := true) (tgt := 30) hx hb de_M_batch_22 (by decide) (fun c_2587 => ?_) (fun c_2587 => ?_)
  · exact dk_vret hQ hx hb hr hlocks hP hS (Nat.le_refl _) (Nat.le_refl _) (⟨hm_2571, ((dk_fr.rf).tr ((dk_fr.up (T := md_T) hh_2530 (by unfold md_T; omega)).eq hw_2532)).tr (hf_2570)⟩) de_M_batch_30
  · exact absurd c_2587 (by decide)
set_option maxHeartbeats 4000000 in
set_option maxRecDepth 100000 in
theorem c_M_batchS (l : Launch) (G : dk_G) (w : dk_H) (h : Nat) (D : md_D) (μ : md_S) (hm : md_at G w h D μ) (hmo : md_ok μ) (hba : μ.ba = none) : dk_Mv l my_M_batch (wd_c my_M_batch mb_M_batch 1 none) rm_M_batch G w [.ref h] (fun w1 => md_at G w1 h D ((μ.er' 0).ba' (some 0)) ∧ dk_fr md_T w w1) 0 0 := by
  refine dk_enter (lv := [(0, .ref h)]) (by decide) (Nat.le_of_ble_eq_true rfl) rfl (fun p e s m args below meth c ls Q hQ C hP hS hl => ?_)
  obtain ⟨hx, hb, hr, hml, hlocks, hown, hnm, hts, hE⟩ := C
  have hK := hE.1
  have hN := hE.2.1
  have hh_2588 : w h = some (100, .inr (cx_M, [.int (nI μ.er), .int (nI μ.n), .int (nI μ.sq), .int (nI μ.sf), .int (nI μ.rs), .int (rI μ.ba), .int (nI μ.pr), .int (nI μ.mi), .ref D.kf, .ref D.nf, .ref D.rf, .ref D.lf, .ref D.sv, .ref D.bk, .ref D.od, .ref D.vf, .ref D.bv, .ref D.df, .ref D.ss, .ref D.bd, .ref D.ks, .ref D.bt])) := hm.o
  refine lv_aload_n hx hb de_M_batch_0 rfl (lv_at hl 0 rfl) ?_
  refine lv_iconst (v := nI 0) hx hb de_M_batch_1 (by decide) ?_
  refine dk_put (a := h) (v := .int (nI 0)) (ty := .int) (C := kn_M) (T := kt_M) (N := 22) hx hb hts ki_M ky_M kk_M kd_M hown hK hP hS hh_2588 rfl 0 (by decide) (hts _ wi_714) (fun _ h9 => h9) rfl (by decide +kernel) rfl rfl (Nat.le_of_ble_eq_true rfl) de_M_batch_2 (fun H locs w_2589 hw_2590 hP hS => ?_)
  have h_2591 : w_2589 h = some (100, .inr (cx_M, [.int (nI 0), .int (nI μ.n), .int (nI μ.sq), .int (nI μ.sf), .int (nI μ.rs), .int (rI μ.ba), .int (nI μ.pr), .int (nI μ.mi), .ref D.kf, .ref D.nf, .ref D.rf, .ref D.lf, .ref D.sv, .ref D.bk, .ref D.od, .ref D.vf, .ref D.bv, .ref D.df, .ref D.ss, .ref D.bd, .ref D.ks, .ref D.bt])) := dk_here hw_2590
  have h_2592 : w_2589 D.kf = some (101, dk_ci G 700 (fun i9 => nI (μ.kf i9))) := dk_keep hw_2590 hh_2588 hm.kf (by decide)
  have h_2593 : w_2589 D.nf = some (102, dk_ci G 700 (fun i9 => nI (μ.nf i9))) := dk_keep hw_2590 hh_2588 hm.nf (by decide)
  have h_2594 : w_2589 D.rf = some (103, dk_ci G 700 (fun i9 => rI (μ.rf i9))) := dk_keep hw_2590 hh_2588 hm.rf (by decide)
  have h_2595 : w_2589 D.lf = some (104, dk_ci G 5000 (fun i9 => rI (μ.lf i9))) := dk_keep hw_2590 hh_2588 hm.lf (by decide)
  have h_2596 : w_2589 D.sv = some (105, dk_ci G 6 (fun i9 => nI (μ.sv i9))) := dk_keep hw_2590 hh_2588 hm.sv (by decide)
  have h_2597 : w_2589 D.bk = some (106, dk_ci G 16 (fun i9 => nI (μ.bk i9))) := dk_keep hw_2590 hh_2588 hm.bk (by decide)
  have h_2598 : w_2589 D.od = some (107, dk_ci G 700 (fun i9 => nI (μ.od i9))) := dk_keep hw_2590 hh_2588 hm.od (by decide)
  have h_2599 : w_2589 D.vf = some (108, dk_cl G 700 (fun i9 => μ.vf i9)) := dk_keep hw_2590 hh_2588 hm.vf (by decide)
  have h_2600 : w_2589 D.bv = some (109, dk_cl G 16 (fun i9 => μ.bv i9)) := dk_keep hw_2590 hh_2588 hm.bv (by decide)
  have h_2601 : w_2589 D.df = some (110, dk_cz G 700 (fun i9 => bo_i (μ.df i9))) := dk_keep hw_2590 hh_2588 hm.df (by decide)
  have h_2602 : w_2589 D.ss = some (111, dk_cz G 6 (fun i9 => bo_i (μ.ss i9))) := dk_keep hw_2590 hh_2588 hm.ss (by decide)
  have h_2603 : w_2589 D.bd = some (112, dk_cz G 16 (fun i9 => bo_i (μ.bd i9))) := dk_keep hw_2590 hh_2588 hm.bd (by decide)
  have h_2604 : w_2589 D.ks = some (113, dk_cz G 700 (fun i9 => bo_i (μ.ks i9))) := dk_keep hw_2590 hh_2588 hm.ks (by decide)
  have h_2605 : w_2589 D.bt = some (114, dk_cz G 6000 (fun i9 => bo_i (μ.bt i9))) := dk_keep hw_2590 hh_2588 hm.bt (by decide)
  have hm_2606 : md_at G w_2589 h D (μ.er' 0) := ⟨h_2591, h_2592, h_2593, h_2594, h_2595, h_2596, h_2597, h_2598, h_2599, h_2600, h_2601, h_2602, h_2603, h_2604, h_2605⟩
  have hh_2607 : w_2589 h = some (100, .inr (cx_M, [.int (nI 0), .int (nI μ.n), .int (nI μ.sq), .int (nI μ.sf), .int (nI μ.rs), .int (rI μ.ba), .int (nI μ.pr), .int (nI μ.mi), .ref D.kf, .ref D.nf, .ref D.rf, .ref D.lf, .ref D.sv, .ref D.bk, .ref D.od, .ref D.vf, .ref D.bv, .ref D.df, .ref D.ss, .ref D.bd, .ref D.ks, .ref D.bt])) := hm_2606.o
  have ha_2608 : w_2589 D.kf = some (101, dk_ci G 700 (fun i9 => nI (μ.kf i9))) := hm_2606.kf
  have ha_2609 : w_2589 D.nf = some (102, dk_ci G 700 (fun i9 => nI (μ.nf i9))) := hm_2606.nf
  have ha_2610 : w_2589 D.rf = some (103, dk_ci G 700 (fun i9 => rI (μ.rf i9))) := hm_2606.rf
  have ha_2611 : w_2589 D.lf = some (104, dk_ci G 5000 (fun i9 => rI (μ.lf i9))) := hm_2606.lf
  have ha_2612 : w_2589 D.sv = some (105, dk_ci G 6 (fun i9 => nI (μ.sv i9))) := hm_2606.sv
  have ha_2613 : w_2589 D.bk = some (106, dk_ci G 16 (fun i9 => nI (μ.bk i9))) := hm_2606.bk
  have ha_2614 : w_2589 D.od = some (107, dk_ci G 700 (fun i9 => nI (μ.od i9))) := hm_2606.od
  have ha_2615 : w_2589 D.vf = some (108, dk_cl G 700 (fun i9 => μ.vf i9)) := hm_2606.vf
  have ha_2616 : w_2589 D.bv = some (109, dk_cl G 16 (fun i9 => μ.bv i9)) := hm_2606.bv
  have ha_2617 : w_2589 D.df = some (110, dk_cz G 700 (fun i9 => bo_i (μ.df i9))) := hm_2606.df
  have ha_2618 : w_2589 D.ss = some (111, dk_cz G 6 (fun i9 => bo_i (μ.ss i9))) := hm_2606.ss
  have ha_2619 : w_2589 D.bd = some (112, dk_cz G 16 (fun i9 => bo_i (μ.bd i9))) := hm_2606.bd
  have ha_2620 : w_2589 D.ks = some (113, dk_cz G 700 (fun i9 => bo_i (μ.ks i9))) := hm_2606.ks
  have ha_2621 : w_2589 D.bt = some (114, dk_cz G 6000 (fun i9 => bo_i (μ.bt i9))) := hm_2606.bt
  refine lv_aload_n hx hb de_M_batch_5 rfl (lv_at hl 0 rfl) ?_
  refine lv_aload_n hx hb de_M_batch_6 rfl (lv_at hl 0 rfl) ?_
  refine dk_get (a := h) (v := .int (rI μ.ba)) (C := kn_M) (T := kt_M) (N := 22) hx hb hts ki_M hown hK hP hh_2607 rfl 5 (by decide) (hts _ wi_719) (fun _ h9 => h9) rfl de_M_batch_7 ?_
  rw [show rI μ.ba = -1 from by rw [hba]; rfl]
  refine lv_if_lt (tgt := 17) hx hb de_M_batch_10 (by decide) (fun c_2622 => ?_) (fun c_2622 => ?_)
  · refine lv_iconst (v := nI 0) hx hb de_M_batch_17 (by decide) ?_
    refine lv_iconst (v := nI 1) hx hb de_M_batch_18 (by decide) ?_
    rw [show (nI 0) = bo_i false from (by decide)]
    refine dk_calli (va_runV (As := [.int (bo_i false), .int (nI 1)]) (rest := []) ⟨hx, hb, hml, hown, hts⟩ (c_M_fails l G w_2589 h D (μ.er' 0) hm_2606 false 1 (by decide) (by decide) (show (0 : Nat) < 3 by decide)) (cwV 2 hts (wd_gV (C := "RunKeeperModel") wi_799 wi_796 wi_798 (wd_p (q := (⟨"RunKeeperModel", "fails", "(ZI)Z"⟩, 22)) (by decide +kernel) (by decide +kernel)) wi_8) rfl rfl rfl (by decide +kernel) ⟨Nat.le_of_ble_eq_true rfl, Nat.le_of_ble_eq_true rfl⟩) (dk_preV (kn_M, kt_M, 22) hE hP hS hh_2607 rfl) rfl rfl hl.1 rfl (lv_room (Nat.le_of_ble_eq_true rfl)) de_M_batch_19 ⟨(by first | exact Nat.le_of_ble_eq_true rfl | (simp only [Nat.zero_add]; omega) | omega), (by first | exact Nat.le_of_ble_eq_true rfl | (simp only [Nat.zero_add]; omega) | omega)⟩) hS (fun r_2625 w_2623 H locs hq_2624 hP hS => ?_)
    obtain ⟨hr_2626, hq_2627, hf_2628⟩ := hq_2624
    subst hr_2626
    have hm_2629 : md_at G w_2623 h D ((μ.er' 0).er' 0) := hq_2627
    have hh_2630 : w_2623 h = some (100, .inr (cx_M, [.int (nI 0), .int (nI μ.n), .int (nI μ.sq), .int (nI μ.sf), .int (nI μ.rs), .int (rI μ.ba), .int (nI μ.pr), .int (nI μ.mi), .ref D.kf, .ref D.nf, .ref D.rf, .ref D.lf, .ref D.sv, .ref D.bk, .ref D.od, .ref D.vf, .ref D.bv, .ref D.df, .ref D.ss, .ref D.bd, .ref D.ks, .ref D.bt])) := hm_2629.o
    have ha_2631 : w_2623 D.kf = some (101, dk_ci G 700 (fun i9 => nI (μ.kf i9))) := hm_2629.kf
    have ha_2632 : w_2623 D.nf = some (102, dk_ci G 700 (fun i9 => nI (μ.nf i9))) := hm_2629.nf
    have ha_2633 : w_2623 D.rf = some (103, dk_ci G 700 (fun i9 => rI (μ.rf i9))) := hm_2629.rf
    have ha_2634 : w_2623 D.lf = some (104, dk_ci G 5000 (fun i9 => rI (μ.lf i9))) := hm_2629.lf
    have ha_2635 : w_2623 D.sv = some (105, dk_ci G 6 (fun i9 => nI (μ.sv i9))) := hm_2629.sv
    have ha_2636 : w_2623 D.bk = some (106, dk_ci G 16 (fun i9 => nI (μ.bk i9))) := hm_2629.bk
    have ha_2637 : w_2623 D.od = some (107, dk_ci G 700 (fun i9 => nI (μ.od i9))) := hm_2629.od
    have ha_2638 : w_2623 D.vf = some (108, dk_cl G 700 (fun i9 => μ.vf i9)) := hm_2629.vf
    have ha_2639 : w_2623 D.bv = some (109, dk_cl G 16 (fun i9 => μ.bv i9)) := hm_2629.bv
    have ha_2640 : w_2623 D.df = some (110, dk_cz G 700 (fun i9 => bo_i (μ.df i9))) := hm_2629.df
    have ha_2641 : w_2623 D.ss = some (111, dk_cz G 6 (fun i9 => bo_i (μ.ss i9))) := hm_2629.ss
    have ha_2642 : w_2623 D.bd = some (112, dk_cz G 16 (fun i9 => bo_i (μ.bd i9))) := hm_2629.bd
    have ha_2643 : w_2623 D.ks = some (113, dk_cz G 700 (fun i9 => bo_i (μ.ks i9))) := hm_2629.ks
    have ha_2644 : w_2623 D.bt = some (114, dk_cz G 6000 (fun i9 => bo_i (μ.bt i9))) := hm_2629.bt
    refine bo_if_ne (b := false) (tgt := 30) hx hb de_M_batch_22 (by decide) (fun c_2645 => ?_) (fun c_2645 => ?_)
    · exact absurd c_2645 (by decide)
    · refine lv_aload_n hx hb de_M_batch_25 rfl (lv_at hl 0 rfl) ?_
      refine lv_iconst (v := nI 0) hx hb de_M_batch_26 (by decide) ?_
      refine dk_put (a := h) (v := .int (nI 0)) (ty := .int) (C := kn_M) (T := kt_M) (N := 22) hx hb hts ki_M ky_M kk_M kd_M hown hK hP hS hh_2630 rfl 5 (by decide) (hts _ wi_719) (fun _ h9 => h9) rfl (by decide +kernel) rfl rfl (Nat.le_of_ble_eq_true rfl) de_M_batch_27 (fun H locs w_2646 hw_2647 hP hS => ?_)
      have h_2648 : w_2646 h = some (100, .inr (cx_M, [.int (nI 0), .int (nI μ.n), .int (nI μ.sq), .int (nI μ.sf), .int (nI μ.rs), .int (nI 0), .int (nI μ.pr), .int (nI μ.mi), .ref D.kf, .ref D.nf, .ref D.rf, .ref D.lf, .ref D.sv, .ref D.bk, .ref D.od, .ref D.vf, .ref D.bv, .ref D.df, .ref D.ss, .ref D.bd, .ref D.ks, .ref D.bt])) := dk_here hw_2647
      have h_2649 : w_2646 D.kf = some (101, dk_ci G 700 (fun i9 => nI (μ.kf i9))) := dk_keep hw_2647 hh_2630 ha_2631 (by decide)
      have h_2650 : w_2646 D.nf = some (102, dk_ci G 700 (fun i9 => nI (μ.nf i9))) := dk_keep hw_2647 hh_2630 ha_2632 (by decide)
      have h_2651 : w_2646 D.rf = some (103, dk_ci G 700 (fun i9 => rI (μ.rf i9))) := dk_keep hw_2647 hh_2630 ha_2633 (by decide)
      have h_2652 : w_2646 D.lf = some (104, dk_ci G 5000 (fun i9 => rI (μ.lf i9))) := dk_keep hw_2647 hh_2630 ha_2634 (by decide)
      have h_2653 : w_2646 D.sv = some (105, dk_ci G 6 (fun i9 => nI (μ.sv i9))) := dk_keep hw_2647 hh_2630 ha_2635 (by decide)
      have h_2654 : w_2646 D.bk = some (106, dk_ci G 16 (fun i9 => nI (μ.bk i9))) := dk_keep hw_2647 hh_2630 ha_2636 (by decide)
      have h_2655 : w_2646 D.od = some (107, dk_ci G 700 (fun i9 => nI (μ.od i9))) := dk_keep hw_2647 hh_2630 ha_2637 (by decide)
      have h_2656 : w_2646 D.vf = some (108, dk_cl G 700 (fun i9 => μ.vf i9)) := dk_keep hw_2647 hh_2630 ha_2638 (by decide)
      have h_2657 : w_2646 D.bv = some (109, dk_cl G 16 (fun i9 => μ.bv i9)) := dk_keep hw_2647 hh_2630 ha_2639 (by decide)
      have h_2658 : w_2646 D.df = some (110, dk_cz G 700 (fun i9 => bo_i (μ.df i9))) := dk_keep hw_2647 hh_2630 ha_2640 (by decide)
      have h_2659 : w_2646 D.ss = some (111, dk_cz G 6 (fun i9 => bo_i (μ.ss i9))) := dk_keep hw_2647 hh_2630 ha_2641 (by decide)
      have h_2660 : w_2646 D.bd = some (112, dk_cz G 16 (fun i9 => bo_i (μ.bd i9))) := dk_keep hw_2647 hh_2630 ha_2642 (by decide)
      have h_2661 : w_2646 D.ks = some (113, dk_cz G 700 (fun i9 => bo_i (μ.ks i9))) := dk_keep hw_2647 hh_2630 ha_2643 (by decide)
      have h_2662 : w_2646 D.bt = some (114, dk_cz G 6000 (fun i9 => bo_i (μ.bt i9))) := dk_keep hw_2647 hh_2630 ha_2644 (by decide)
      have hm_2663 : md_at G w_2646 h D (((μ.er' 0).er' 0).ba' (some 0)) := ⟨h_2648, h_2649, h_2650, h_2651, h_2652, h_2653, h_2654, h_2655, h_2656, h_2657, h_2658, h_2659, h_2660, h_2661, h_2662⟩
      exact dk_vret hQ hx hb hr hlocks hP hS (Nat.le_refl _) (Nat.le_refl _) (⟨hm_2663, (((dk_fr.rf).tr ((dk_fr.up (T := md_T) hh_2588 (by unfold md_T; omega)).eq hw_2590)).tr (hf_2628)).tr ((dk_fr.up (T := md_T) hh_2630 (by unfold md_T; omega)).eq hw_2647)⟩) de_M_batch_30
  · exact absurd c_2622 (by decide)
abbrev rm_M_sync : Room := { frames := 1, cells := 0, slots := 0, locals := 23 }
set_option maxHeartbeats 4000000 in
set_option maxRecDepth 100000 in
theorem c_M_sync (l : Launch) (G : dk_G) (w : dk_H) (h : Nat) (D : md_D) (μ : md_S) (hm : md_at G w h D μ) (hmo : md_ok μ) : dk_Mi l my_M_sync (wd_c my_M_sync mb_M_sync 1 (some .int)) rm_M_sync G w [.ref h] (fun r w1 => r = nI (md_k μ) ∧ md_at G w1 h D ((μ.er' 0).sf' (md_k μ)) ∧ dk_fr md_T w w1) 0 0 := by
  obtain ⟨ok1, ok2, ok3, ok4, ok5, ok6, ok7, ok8, ok9, ok10, ok11⟩ := id hmo
  refine dk_enter (lv := [(0, .ref h)]) (by decide) (Nat.le_of_ble_eq_true rfl) rfl (fun p e s m args below meth c ls Q hQ C hP hS hl => ?_)
  obtain ⟨hx, hb, hr, hml, hlocks, hown, hnm, hts, hE⟩ := C
  have hK := hE.1
  have hN := hE.2.1
  have hh_2664 : w h = some (100, .inr (cx_M, [.int (nI μ.er), .int (nI μ.n), .int (nI μ.sq), .int (nI μ.sf), .int (nI μ.rs), .int (rI μ.ba), .int (nI μ.pr), .int (nI μ.mi), .ref D.kf, .ref D.nf, .ref D.rf, .ref D.lf, .ref D.sv, .ref D.bk, .ref D.od, .ref D.vf, .ref D.bv, .ref D.df, .ref D.ss, .ref D.bd, .ref D.ks, .ref D.bt])) := hm.o
  refine lv_aload_n hx hb de_M_sync_0 rfl (lv_at hl 0 rfl) ?_
  refine lv_iconst (v := nI 0) hx hb de_M_sync_1 (by decide) ?_
  refine dk_put (a := h) (v := .int (nI 0)) (ty := .int) (C := kn_M) (T := kt_M) (N := 22) hx hb hts ki_M ky_M kk_M kd_M hown hK hP hS hh_2664 rfl 0 (by decide) (hts _ wi_714) (fun _ h9 => h9) rfl (by decide +kernel) rfl rfl (Nat.le_of_ble_eq_true rfl) de_M_sync_2 (fun H locs w_2665 hw_2666 hP hS => ?_)
  have h_2667 : w_2665 h = some (100, .inr (cx_M, [.int (nI 0), .int (nI μ.n), .int (nI μ.sq), .int (nI μ.sf), .int (nI μ.rs), .int (rI μ.ba), .int (nI μ.pr), .int (nI μ.mi), .ref D.kf, .ref D.nf, .ref D.rf, .ref D.lf, .ref D.sv, .ref D.bk, .ref D.od, .ref D.vf, .ref D.bv, .ref D.df, .ref D.ss, .ref D.bd, .ref D.ks, .ref D.bt])) := dk_here hw_2666
  have h_2668 : w_2665 D.kf = some (101, dk_ci G 700 (fun i9 => nI (μ.kf i9))) := dk_keep hw_2666 hh_2664 hm.kf (by decide)
  have h_2669 : w_2665 D.nf = some (102, dk_ci G 700 (fun i9 => nI (μ.nf i9))) := dk_keep hw_2666 hh_2664 hm.nf (by decide)
  have h_2670 : w_2665 D.rf = some (103, dk_ci G 700 (fun i9 => rI (μ.rf i9))) := dk_keep hw_2666 hh_2664 hm.rf (by decide)
  have h_2671 : w_2665 D.lf = some (104, dk_ci G 5000 (fun i9 => rI (μ.lf i9))) := dk_keep hw_2666 hh_2664 hm.lf (by decide)
  have h_2672 : w_2665 D.sv = some (105, dk_ci G 6 (fun i9 => nI (μ.sv i9))) := dk_keep hw_2666 hh_2664 hm.sv (by decide)
  have h_2673 : w_2665 D.bk = some (106, dk_ci G 16 (fun i9 => nI (μ.bk i9))) := dk_keep hw_2666 hh_2664 hm.bk (by decide)
  have h_2674 : w_2665 D.od = some (107, dk_ci G 700 (fun i9 => nI (μ.od i9))) := dk_keep hw_2666 hh_2664 hm.od (by decide)
  have h_2675 : w_2665 D.vf = some (108, dk_cl G 700 (fun i9 => μ.vf i9)) := dk_keep hw_2666 hh_2664 hm.vf (by decide)
  have h_2676 : w_2665 D.bv = some (109, dk_cl G 16 (fun i9 => μ.bv i9)) := dk_keep hw_2666 hh_2664 hm.bv (by decide)
  have h_2677 : w_2665 D.df = some (110, dk_cz G 700 (fun i9 => bo_i (μ.df i9))) := dk_keep hw_2666 hh_2664 hm.df (by decide)
  have h_2678 : w_2665 D.ss = some (111, dk_cz G 6 (fun i9 => bo_i (μ.ss i9))) := dk_keep hw_2666 hh_2664 hm.ss (by decide)
  have h_2679 : w_2665 D.bd = some (112, dk_cz G 16 (fun i9 => bo_i (μ.bd i9))) := dk_keep hw_2666 hh_2664 hm.bd (by decide)
  have h_2680 : w_2665 D.ks = some (113, dk_cz G 700 (fun i9 => bo_i (μ.ks i9))) := dk_keep hw_2666 hh_2664 hm.ks (by decide)
  have h_2681 : w_2665 D.bt = some (114, dk_cz G 6000 (fun i9 => bo_i (μ.bt i9))) := dk_keep hw_2666 hh_2664 hm.bt (by decide)
  have hm_2682 : md_at G w_2665 h D (μ.er' 0) := ⟨h_2667, h_2668, h_2669, h_2670, h_2671, h_2672, h_2673, h_2674, h_2675, h_2676, h_2677, h_2678, h_2679, h_2680, h_2681⟩
  have hh_2683 : w_2665 h = some (100, .inr (cx_M, [.int (nI 0), .int (nI μ.n), .int (nI μ.sq), .int (nI μ.sf), .int (nI μ.rs), .int (rI μ.ba), .int (nI μ.pr), .int (nI μ.mi), .ref D.kf, .ref D.nf, .ref D.rf, .ref D.lf, .ref D.sv, .ref D.bk, .ref D.od, .ref D.vf, .ref D.bv, .ref D.df, .ref D.ss, .ref D.bd, .ref D.ks, .ref D.bt])) := hm_2682.o
  have ha_2684 : w_2665 D.kf = some (101, dk_ci G 700 (fun i9 => nI (μ.kf i9))) := hm_2682.kf
  have ha_2685 : w_2665 D.nf = some (102, dk_ci G 700 (fun i9 => nI (μ.nf i9))) := hm_2682.nf
  have ha_2686 : w_2665 D.rf = some (103, dk_ci G 700 (fun i9 => rI (μ.rf i9))) := hm_2682.rf
  have ha_2687 : w_2665 D.lf = some (104, dk_ci G 5000 (fun i9 => rI (μ.lf i9))) := hm_2682.lf
  have ha_2688 : w_2665 D.sv = some (105, dk_ci G 6 (fun i9 => nI (μ.sv i9))) := hm_2682.sv
  have ha_2689 : w_2665 D.bk = some (106, dk_ci G 16 (fun i9 => nI (μ.bk i9))) := hm_2682.bk
  have ha_2690 : w_2665 D.od = some (107, dk_ci G 700 (fun i9 => nI (μ.od i9))) := hm_2682.od
  have ha_2691 : w_2665 D.vf = some (108, dk_cl G 700 (fun i9 => μ.vf i9)) := hm_2682.vf
  have ha_2692 : w_2665 D.bv = some (109, dk_cl G 16 (fun i9 => μ.bv i9)) := hm_2682.bv
  have ha_2693 : w_2665 D.df = some (110, dk_cz G 700 (fun i9 => bo_i (μ.df i9))) := hm_2682.df
  have ha_2694 : w_2665 D.ss = some (111, dk_cz G 6 (fun i9 => bo_i (μ.ss i9))) := hm_2682.ss
  have ha_2695 : w_2665 D.bd = some (112, dk_cz G 16 (fun i9 => bo_i (μ.bd i9))) := hm_2682.bd
  have ha_2696 : w_2665 D.ks = some (113, dk_cz G 700 (fun i9 => bo_i (μ.ks i9))) := hm_2682.ks
  have ha_2697 : w_2665 D.bt = some (114, dk_cz G 6000 (fun i9 => bo_i (μ.bt i9))) := hm_2682.bt
  refine lv_aload_n hx hb de_M_sync_5 rfl (lv_at hl 0 rfl) ?_
  refine lv_aload_n hx hb de_M_sync_6 rfl (lv_at hl 0 rfl) ?_
  refine lv_iconst (v := (-1)) hx hb de_M_sync_7 (by decide) ?_
  have hmo2 : md_ok (μ.er' 0) := ⟨ok1, ok2, ok3, ok4, ok5, ok6, ok7, ok8, ok9, ok10, show (0 : Nat) < 3 by decide⟩
  refine dk_calli (va_runV (As := [.int (-1)]) (rest := [.ref h]) ⟨hx, hb, hml, hown, hts⟩ (c_M_inRun l G w_2665 h D (μ.er' 0) hm_2682 hmo2 none (fun r hr => by cases hr)) (cwV 1 hts (wd_gV (C := "RunKeeperModel") wi_807 wi_804 wi_806 (wd_p (q := (⟨"RunKeeperModel", "inRun", "(I)I"⟩, 22)) (by decide +kernel) (by decide +kernel)) wi_8) rfl rfl rfl (by decide +kernel) ⟨Nat.le_of_ble_eq_true rfl, Nat.le_of_ble_eq_true rfl⟩) (dk_preV (kn_M, kt_M, 22) hE hP hS hh_2683 rfl) rfl rfl hl.1 rfl (lv_room (Nat.le_of_ble_eq_true rfl)) de_M_sync_8 ⟨(by first | exact Nat.le_of_ble_eq_true rfl | (simp only [Nat.zero_add]; omega) | omega), (by first | exact Nat.le_of_ble_eq_true rfl | (simp only [Nat.zero_add]; omega) | omega)⟩) hS (fun r_2700 w_2698 H locs hq_2699 hP hS => ?_)
  obtain ⟨hr_2701, he_2702⟩ := hq_2699
  subst hr_2701
  rw [he_2702] at hP
  refine dk_put (a := h) (v := .int (nI (md_k μ))) (ty := .int) (C := kn_M) (T := kt_M) (N := 22) hx hb hts ki_M ky_M kk_M kd_M hown hK hP hS hh_2683 rfl 3 (by decide) (hts _ wi_717) (fun _ h9 => h9) rfl (by decide +kernel) rfl rfl (Nat.le_of_ble_eq_true rfl) de_M_sync_11 (fun H locs w_2703 hw_2704 hP hS => ?_)
  have h_2705 : w_2703 h = some (100, .inr (cx_M, [.int (nI 0), .int (nI μ.n), .int (nI μ.sq), .int (nI (md_k μ)), .int (nI μ.rs), .int (rI μ.ba), .int (nI μ.pr), .int (nI μ.mi), .ref D.kf, .ref D.nf, .ref D.rf, .ref D.lf, .ref D.sv, .ref D.bk, .ref D.od, .ref D.vf, .ref D.bv, .ref D.df, .ref D.ss, .ref D.bd, .ref D.ks, .ref D.bt])) := dk_here hw_2704
  have h_2706 : w_2703 D.kf = some (101, dk_ci G 700 (fun i9 => nI (μ.kf i9))) := dk_keep hw_2704 hh_2683 ha_2684 (by decide)
  have h_2707 : w_2703 D.nf = some (102, dk_ci G 700 (fun i9 => nI (μ.nf i9))) := dk_keep hw_2704 hh_2683 ha_2685 (by decide)
  have h_2708 : w_2703 D.rf = some (103, dk_ci G 700 (fun i9 => rI (μ.rf i9))) := dk_keep hw_2704 hh_2683 ha_2686 (by decide)
  have h_2709 : w_2703 D.lf = some (104, dk_ci G 5000 (fun i9 => rI (μ.lf i9))) := dk_keep hw_2704 hh_2683 ha_2687 (by decide)
  have h_2710 : w_2703 D.sv = some (105, dk_ci G 6 (fun i9 => nI (μ.sv i9))) := dk_keep hw_2704 hh_2683 ha_2688 (by decide)
  have h_2711 : w_2703 D.bk = some (106, dk_ci G 16 (fun i9 => nI (μ.bk i9))) := dk_keep hw_2704 hh_2683 ha_2689 (by decide)
  have h_2712 : w_2703 D.od = some (107, dk_ci G 700 (fun i9 => nI (μ.od i9))) := dk_keep hw_2704 hh_2683 ha_2690 (by decide)
  have h_2713 : w_2703 D.vf = some (108, dk_cl G 700 (fun i9 => μ.vf i9)) := dk_keep hw_2704 hh_2683 ha_2691 (by decide)
  have h_2714 : w_2703 D.bv = some (109, dk_cl G 16 (fun i9 => μ.bv i9)) := dk_keep hw_2704 hh_2683 ha_2692 (by decide)
  have h_2715 : w_2703 D.df = some (110, dk_cz G 700 (fun i9 => bo_i (μ.df i9))) := dk_keep hw_2704 hh_2683 ha_2693 (by decide)
  have h_2716 : w_2703 D.ss = some (111, dk_cz G 6 (fun i9 => bo_i (μ.ss i9))) := dk_keep hw_2704 hh_2683 ha_2694 (by decide)
  have h_2717 : w_2703 D.bd = some (112, dk_cz G 16 (fun i9 => bo_i (μ.bd i9))) := dk_keep hw_2704 hh_2683 ha_2695 (by decide)
  have h_2718 : w_2703 D.ks = some (113, dk_cz G 700 (fun i9 => bo_i (μ.ks i9))) := dk_keep hw_2704 hh_2683 ha_2696 (by decide)
  have h_2719 : w_2703 D.bt = some (114, dk_cz G 6000 (fun i9 => bo_i (μ.bt i9))) := dk_keep hw_2704 hh_2683 ha_2697 (by decide)
  have hm_2720 : md_at G w_2703 h D ((μ.er' 0).sf' (md_k μ)) := ⟨h_2705, h_2706, h_2707, h_2708, h_2709, h_2710, h_2711, h_2712, h_2713, h_2714, h_2715, h_2716, h_2717, h_2718, h_2719⟩
  have hh_2721 : w_2703 h = some (100, .inr (cx_M, [.int (nI 0), .int (nI μ.n), .int (nI μ.sq), .int (nI (md_k μ)), .int (nI μ.rs), .int (rI μ.ba), .int (nI μ.pr), .int (nI μ.mi), .ref D.kf, .ref D.nf, .ref D.rf, .ref D.lf, .ref D.sv, .ref D.bk, .ref D.od, .ref D.vf, .ref D.bv, .ref D.df, .ref D.ss, .ref D.bd, .ref D.ks, .ref D.bt])) := hm_2720.o
  have ha_2722 : w_2703 D.kf = some (101, dk_ci G 700 (fun i9 => nI (μ.kf i9))) := hm_2720.kf
  have ha_2723 : w_2703 D.nf = some (102, dk_ci G 700 (fun i9 => nI (μ.nf i9))) := hm_2720.nf
  have ha_2724 : w_2703 D.rf = some (103, dk_ci G 700 (fun i9 => rI (μ.rf i9))) := hm_2720.rf
  have ha_2725 : w_2703 D.lf = some (104, dk_ci G 5000 (fun i9 => rI (μ.lf i9))) := hm_2720.lf
  have ha_2726 : w_2703 D.sv = some (105, dk_ci G 6 (fun i9 => nI (μ.sv i9))) := hm_2720.sv
  have ha_2727 : w_2703 D.bk = some (106, dk_ci G 16 (fun i9 => nI (μ.bk i9))) := hm_2720.bk
  have ha_2728 : w_2703 D.od = some (107, dk_ci G 700 (fun i9 => nI (μ.od i9))) := hm_2720.od
  have ha_2729 : w_2703 D.vf = some (108, dk_cl G 700 (fun i9 => μ.vf i9)) := hm_2720.vf
  have ha_2730 : w_2703 D.bv = some (109, dk_cl G 16 (fun i9 => μ.bv i9)) := hm_2720.bv
  have ha_2731 : w_2703 D.df = some (110, dk_cz G 700 (fun i9 => bo_i (μ.df i9))) := hm_2720.df
  have ha_2732 : w_2703 D.ss = some (111, dk_cz G 6 (fun i9 => bo_i (μ.ss i9))) := hm_2720.ss
  have ha_2733 : w_2703 D.bd = some (112, dk_cz G 16 (fun i9 => bo_i (μ.bd i9))) := hm_2720.bd
  have ha_2734 : w_2703 D.ks = some (113, dk_cz G 700 (fun i9 => bo_i (μ.ks i9))) := hm_2720.ks
  have ha_2735 : w_2703 D.bt = some (114, dk_cz G 6000 (fun i9 => bo_i (μ.bt i9))) := hm_2720.bt
  refine lv_aload_n hx hb de_M_sync_14 rfl (lv_at hl 0 rfl) ?_
  refine dk_get (a := h) (v := .int (nI (md_k μ))) (C := kn_M) (T := kt_M) (N := 22) hx hb hts ki_M hown hK hP hh_2721 rfl 3 (by decide) (hts _ wi_717) (fun _ h9 => h9) rfl de_M_sync_15 ?_
  exact dk_iret hQ hx hb hr hlocks hP hS (Nat.le_refl _) (Nat.le_refl _) (⟨rfl, hm_2720, ((dk_fr.rf).tr ((dk_fr.up (T := md_T) hh_2664 (by unfold md_T; omega)).eq hw_2666)).tr ((dk_fr.up (T := md_T) hh_2683 (by unfold md_T; omega)).eq hw_2704)⟩) de_M_sync_18
abbrev rm_M_flush : Room := { frames := 1, cells := 0, slots := 0, locals := 22 }
set_option maxHeartbeats 4000000 in
set_option maxRecDepth 100000 in
theorem c_M_flush (l : Launch) (G : dk_G) (w : dk_H) (h : Nat) (D : md_D) (μ : md_S) (hm : md_at G w h D μ) (hmo : md_ok μ) : dk_Mi l my_M_flush (wd_c my_M_flush mb_M_flush 1 (some .int)) rm_M_flush G w [.ref h] (fun r w1 => r = nI (md_k μ) ∧ md_at G w1 h D (md_fl (μ.er' 0)) ∧ dk_fr md_T w w1) 0 0 := by
  obtain ⟨ok1, ok2, ok3, ok4, ok5, ok6, ok7, ok8, ok9, ok10, ok11⟩ := id hmo
  refine dk_enter (lv := [(0, .ref h)]) (by decide) (Nat.le_of_ble_eq_true rfl) rfl (fun p e s m args below meth c ls Q hQ C hP hS hl => ?_)
  obtain ⟨hx, hb, hr, hml, hlocks, hown, hnm, hts, hE⟩ := C
  have hK := hE.1
  have hN := hE.2.1
  have hh_2736 : w h = some (100, .inr (cx_M, [.int (nI μ.er), .int (nI μ.n), .int (nI μ.sq), .int (nI μ.sf), .int (nI μ.rs), .int (rI μ.ba), .int (nI μ.pr), .int (nI μ.mi), .ref D.kf, .ref D.nf, .ref D.rf, .ref D.lf, .ref D.sv, .ref D.bk, .ref D.od, .ref D.vf, .ref D.bv, .ref D.df, .ref D.ss, .ref D.bd, .ref D.ks, .ref D.bt])) := hm.o
  refine lv_aload_n hx hb de_M_flush_0 rfl (lv_at hl 0 rfl) ?_
  refine lv_iconst (v := nI 0) hx hb de_M_flush_1 (by decide) ?_
  refine dk_put (a := h) (v := .int (nI 0)) (ty := .int) (C := kn_M) (T := kt_M) (N := 22) hx hb hts ki_M ky_M kk_M kd_M hown hK hP hS hh_2736 rfl 0 (by decide) (hts _ wi_714) (fun _ h9 => h9) rfl (by decide +kernel) rfl rfl (Nat.le_of_ble_eq_true rfl) de_M_flush_2 (fun H locs w_2737 hw_2738 hP hS => ?_)
  have h_2739 : w_2737 h = some (100, .inr (cx_M, [.int (nI 0), .int (nI μ.n), .int (nI μ.sq), .int (nI μ.sf), .int (nI μ.rs), .int (rI μ.ba), .int (nI μ.pr), .int (nI μ.mi), .ref D.kf, .ref D.nf, .ref D.rf, .ref D.lf, .ref D.sv, .ref D.bk, .ref D.od, .ref D.vf, .ref D.bv, .ref D.df, .ref D.ss, .ref D.bd, .ref D.ks, .ref D.bt])) := dk_here hw_2738
  have h_2740 : w_2737 D.kf = some (101, dk_ci G 700 (fun i9 => nI (μ.kf i9))) := dk_keep hw_2738 hh_2736 hm.kf (by decide)
  have h_2741 : w_2737 D.nf = some (102, dk_ci G 700 (fun i9 => nI (μ.nf i9))) := dk_keep hw_2738 hh_2736 hm.nf (by decide)
  have h_2742 : w_2737 D.rf = some (103, dk_ci G 700 (fun i9 => rI (μ.rf i9))) := dk_keep hw_2738 hh_2736 hm.rf (by decide)
  have h_2743 : w_2737 D.lf = some (104, dk_ci G 5000 (fun i9 => rI (μ.lf i9))) := dk_keep hw_2738 hh_2736 hm.lf (by decide)
  have h_2744 : w_2737 D.sv = some (105, dk_ci G 6 (fun i9 => nI (μ.sv i9))) := dk_keep hw_2738 hh_2736 hm.sv (by decide)
  have h_2745 : w_2737 D.bk = some (106, dk_ci G 16 (fun i9 => nI (μ.bk i9))) := dk_keep hw_2738 hh_2736 hm.bk (by decide)
  have h_2746 : w_2737 D.od = some (107, dk_ci G 700 (fun i9 => nI (μ.od i9))) := dk_keep hw_2738 hh_2736 hm.od (by decide)
  have h_2747 : w_2737 D.vf = some (108, dk_cl G 700 (fun i9 => μ.vf i9)) := dk_keep hw_2738 hh_2736 hm.vf (by decide)
  have h_2748 : w_2737 D.bv = some (109, dk_cl G 16 (fun i9 => μ.bv i9)) := dk_keep hw_2738 hh_2736 hm.bv (by decide)
  have h_2749 : w_2737 D.df = some (110, dk_cz G 700 (fun i9 => bo_i (μ.df i9))) := dk_keep hw_2738 hh_2736 hm.df (by decide)
  have h_2750 : w_2737 D.ss = some (111, dk_cz G 6 (fun i9 => bo_i (μ.ss i9))) := dk_keep hw_2738 hh_2736 hm.ss (by decide)
  have h_2751 : w_2737 D.bd = some (112, dk_cz G 16 (fun i9 => bo_i (μ.bd i9))) := dk_keep hw_2738 hh_2736 hm.bd (by decide)
  have h_2752 : w_2737 D.ks = some (113, dk_cz G 700 (fun i9 => bo_i (μ.ks i9))) := dk_keep hw_2738 hh_2736 hm.ks (by decide)
  have h_2753 : w_2737 D.bt = some (114, dk_cz G 6000 (fun i9 => bo_i (μ.bt i9))) := dk_keep hw_2738 hh_2736 hm.bt (by decide)
  have hm_2754 : md_at G w_2737 h D (μ.er' 0) := ⟨h_2739, h_2740, h_2741, h_2742, h_2743, h_2744, h_2745, h_2746, h_2747, h_2748, h_2749, h_2750, h_2751, h_2752, h_2753⟩
  have hh_2755 : w_2737 h = some (100, .inr (cx_M, [.int (nI 0), .int (nI μ.n), .int (nI μ.sq), .int (nI μ.sf), .int (nI μ.rs), .int (rI μ.ba), .int (nI μ.pr), .int (nI μ.mi), .ref D.kf, .ref D.nf, .ref D.rf, .ref D.lf, .ref D.sv, .ref D.bk, .ref D.od, .ref D.vf, .ref D.bv, .ref D.df, .ref D.ss, .ref D.bd, .ref D.ks, .ref D.bt])) := hm_2754.o
  have ha_2756 : w_2737 D.kf = some (101, dk_ci G 700 (fun i9 => nI (μ.kf i9))) := hm_2754.kf
  have ha_2757 : w_2737 D.nf = some (102, dk_ci G 700 (fun i9 => nI (μ.nf i9))) := hm_2754.nf
  have ha_2758 : w_2737 D.rf = some (103, dk_ci G 700 (fun i9 => rI (μ.rf i9))) := hm_2754.rf
  have ha_2759 : w_2737 D.lf = some (104, dk_ci G 5000 (fun i9 => rI (μ.lf i9))) := hm_2754.lf
  have ha_2760 : w_2737 D.sv = some (105, dk_ci G 6 (fun i9 => nI (μ.sv i9))) := hm_2754.sv
  have ha_2761 : w_2737 D.bk = some (106, dk_ci G 16 (fun i9 => nI (μ.bk i9))) := hm_2754.bk
  have ha_2762 : w_2737 D.od = some (107, dk_ci G 700 (fun i9 => nI (μ.od i9))) := hm_2754.od
  have ha_2763 : w_2737 D.vf = some (108, dk_cl G 700 (fun i9 => μ.vf i9)) := hm_2754.vf
  have ha_2764 : w_2737 D.bv = some (109, dk_cl G 16 (fun i9 => μ.bv i9)) := hm_2754.bv
  have ha_2765 : w_2737 D.df = some (110, dk_cz G 700 (fun i9 => bo_i (μ.df i9))) := hm_2754.df
  have ha_2766 : w_2737 D.ss = some (111, dk_cz G 6 (fun i9 => bo_i (μ.ss i9))) := hm_2754.ss
  have ha_2767 : w_2737 D.bd = some (112, dk_cz G 16 (fun i9 => bo_i (μ.bd i9))) := hm_2754.bd
  have ha_2768 : w_2737 D.ks = some (113, dk_cz G 700 (fun i9 => bo_i (μ.ks i9))) := hm_2754.ks
  have ha_2769 : w_2737 D.bt = some (114, dk_cz G 6000 (fun i9 => bo_i (μ.bt i9))) := hm_2754.bt
  refine lv_aload_n hx hb de_M_flush_5 rfl (lv_at hl 0 rfl) ?_
  have hmo2 : md_ok (μ.er' 0) := ⟨ok1, ok2, ok3, ok4, ok5, ok6, ok7, ok8, ok9, ok10, show (0 : Nat) < 3 by decide⟩
  refine dk_calli (va_runV (As := []) (rest := []) ⟨hx, hb, hml, hown, hts⟩ (c_M_flushed l G w_2737 h D (μ.er' 0) hm_2754 hmo2) (cwV 0 hts (wd_gV (C := "RunKeeperModel") wi_811 wi_808 wi_810 (wd_p (q := (⟨"RunKeeperModel", "flushed", "()I"⟩, 22)) (by decide +kernel) (by decide +kernel)) wi_8) rfl rfl rfl (by decide +kernel) ⟨Nat.le_of_ble_eq_true rfl, Nat.le_of_ble_eq_true rfl⟩) (dk_preV (kn_M, kt_M, 22) hE hP hS hh_2755 rfl) rfl rfl hl.1 rfl (lv_room (Nat.le_of_ble_eq_true rfl)) de_M_flush_6 ⟨(by first | exact Nat.le_of_ble_eq_true rfl | (simp only [Nat.zero_add]; omega) | omega), (by first | exact Nat.le_of_ble_eq_true rfl | (simp only [Nat.zero_add]; omega) | omega)⟩) hS (fun r_2772 w_2770 H locs hq_2771 hP hS => ?_)
  exact dk_iret hQ hx hb hr hlocks hP hS (Nat.le_refl _) (Nat.le_refl _) (⟨hq_2771.1, hq_2771.2.1, ((dk_fr.rf).tr ((dk_fr.up (T := md_T) hh_2736 (by unfold md_T; omega)).eq hw_2738)).tr hq_2771.2.2⟩) de_M_flush_9
