/-! RunKeeperModel: entry (printed by gen/c_md13.py) -/
def me_e (μ : md_S) (j : Nat) : en_T := (μ.kf j, μ.nf j, μ.vf j, μ.df j)
/-- the entries of the run d among the first i -/
def en_r (μ : md_S) (d : Nat) : Nat → List en_T
  | 0 => []
  | i + 1 => if μ.rf i = some d then en_r μ d i ++ [me_e μ i] else en_r μ d i
theorem en_rn {μ : md_S} {d i : Nat} (h : ¬ μ.rf i = some d) : en_r μ d (i + 1) = en_r μ d i := if_neg h
theorem en_ry {μ : md_S} {d i : Nat} (h : μ.rf i = some d) : en_r μ d (i + 1) = en_r μ d i ++ [me_e μ i] := if_pos h
theorem en_r_len (μ : md_S) (d : Nat) : ∀ i, (en_r μ d i).length = ct_f (fun k9 => decide (μ.rf k9 = some d)) i
  | 0 => rfl
  | i + 1 => by
    by_cases h : μ.rf i = some d
    · rw [en_ry h, ct_y (p := fun k9 => decide (μ.rf k9 = some d)) (decide_eq_true h), List.length_append, en_r_len μ d i]; rfl
    · rw [en_rn h, ct_n (p := fun k9 => decide (μ.rf k9 = some d)) (decide_eq_false h), en_r_len μ d i]
/-- the reference's entries as if they were cells -/
def fw_d (μ : md_S) : dk_H := fun a => if a < μ.n then some (0, en_c (me_e μ a)) else none
theorem en_ci {x y : en_T} (hx : en_ok x) (hy : en_ok y) (h : en_c x = en_c y) : x = y := by
  obtain ⟨a1, a2, a3, a4⟩ := x
  obtain ⟨b1, b2, b3, b4⟩ := y
  have h3 := (Prod.mk.inj (Sum.inr.inj h)).2
  simp only [List.cons.injEq, Value.int.injEq, Value.long.injEq, and_true] at h3
  obtain ⟨e1, e2, e3, e4⟩ := h3
  have k1 : a1 < 1024 := hx.1
  have k2 : a2 < 2 ^ 30 := hx.2
  have k3 : b1 < 1024 := hy.1
  have k4 : b2 < 2 ^ 30 := hy.2
  have f1 : a1 = b1 := (nI_eq (by omega) (by omega)).mp e1
  have f2 : a2 = b2 := (nI_eq (by omega) (by omega)).mp e2
  have f4 : a4 = b4 := by
    cases a4 <;> cases b4 <;> first | rfl | exact absurd e4 (by decide)
  subst f1
  subst f2
  subst e3
  subst f4
  rfl
theorem me_ok {μ : md_S} (h : md_ok μ) (j : Nat) : en_ok (me_e μ j) := ⟨h.1 j, h.2.1 j⟩
theorem en_r_ok {μ : md_S} (h : md_ok μ) (d : Nat) : ∀ i, ∀ x ∈ en_r μ d i, en_ok x
  | 0, x, hx => by cases hx
  | i + 1, x, hx => by
    unfold en_r at hx
    split at hx
    · rcases List.mem_append.mp hx with h1 | h1
      · exact en_r_ok h d i x h1
      · rw [List.mem_singleton.mp h1]; exact me_ok h i
    · exact en_r_ok h d i x hx
theorem so_r_ok {μ : md_S} (h : md_ok μ) {d i k : Nat} {x : en_T} (hx : (so_st (en_r μ d i))[k]? = some x) : en_ok x := en_r_ok h d i x (so_st_mem.mp (List.mem_of_getElem? hx))
theorem fw_i {μ : md_S} {a : Nat} {x : en_T} (hm : md_ok μ) (hx : en_ok x) (h : en_at (fw_d μ) a x) : a < μ.n ∧ me_e μ a = x := by
  unfold en_at fw_d at h
  split at h
  · rename_i ha
    exact ⟨ha, en_ci (me_ok hm a) hx (Prod.mk.inj (Option.some.inj h)).2⟩
  · cases h
theorem fw_o {μ : md_S} {a : Nat} (h : a < μ.n) : en_at (fw_d μ) a (me_e μ a) := if_pos h
theorem im_mI {k c : Nat} (hc : c < 2 ^ 31) (h : k < c) : im_b (nI k) (nI 0) (mI c) = true := by
  obtain ⟨d, rfl⟩ : ∃ d, c = d + 1 := ⟨c - 1, by omega⟩
  rw [show mI (d + 1) = nI d from nI_s1 d]
  exact im_y (by omega) (by omega)
theorem up_so {g : Nat → Nat} {p v : Nat} : (fun q => some (va_up g p v q)) = va_up (fun q => some (g q)) p (some v) := by
  funext q
  by_cases e : q = p
  · subst e; rw [dk_us, dk_us]
  · rw [dk_un e, dk_un e]
theorem os_done {μ : md_S} {P : List en_T} {g : Nat → Nat} {m p i : Nat} (hl : P.length = m) (h : sh_ok (fw_d μ) (fun q => some (g q)) P p) (hp : so_n (me_e μ i) P = p) (hi : i < μ.n) : ra_ok (fw_d μ) (fun q => some (va_up g p i q)) (so_in (me_e μ i) P) := by
  have h1 := sh_ok.done (L := P ++ [me_e μ i]) (x := me_e μ i) (ax := i) hl h (fun j y hj hy => absurd (List.getElem?_eq_some_iff.mp hy).1 (by simp; omega)) hp (fw_o hi) (by simp; omega)
  rw [List.drop_of_length_le (by simp; omega), List.append_nil] at h1
  rw [up_so]
  exact h1
theorem os_al {x y : en_T} {P : List en_T} {p q : Nat} (hp : p = q + 1) (h : ∀ (j : Nat) (y : en_T), p ≤ j → P[j]? = some y → en_b x y = true) (hy : P[q]? = some y) (e : en_b x y = true) : ∀ (j : Nat) (y : en_T), p - 1 ≤ j → P[j]? = some y → en_b x y = true := by
  intro j z hj hz
  by_cases hj2 : p ≤ j
  · exact h j z hj2 hz
  · have e2 : j = q := by omega
    rw [e2, hy] at hz
    cases hz
    exact e
theorem os_st {w : dk_H} {g : Nat → Nat} {P : List en_T} {p q a : Nat} (hp : p = q + 1) (h : sh_ok w (fun q => some (g q)) P p) (ha : g (p - 1) = a) : sh_ok w (fun z => some (va_up g p a z)) P (p - 1) := by
  subst hp
  rw [Nat.add_sub_cancel] at ha ⊢
  rw [up_so, ← ha]
  exact h.step
set_option maxHeartbeats 4000000 in
set_option maxRecDepth 100000 in
theorem c_M_entryS0 (l : Launch) (G : dk_G) (w : dk_H) (h : Nat) (D : md_D) (μ : md_S) (hm : md_at G w h D μ) (hmo : md_ok μ) (l9 k : Nat) (r9 : Int32) (hl9 : l9 < 6) (d0 : Nat) (hn : (id_f μ l9 r9 μ.rs).1 = some d0) (hd0 : d0 < 5000) (x9 : en_T) (hx9 : (so_st (en_r μ d0 μ.n))[k]? = some x9) : dk_Mi l my_M_entry (wd_c my_M_entry mb_M_entry 9 (some .int)) rm_M_entry G w [.ref h, .int (nI l9), .int r9, .int (nI k), .int (nI 0)] (fun r w1 => r = nI x9.1 ∧ (∃ g, md_at G w1 h D ((μ.er' 0).od' g)) ∧ dk_fr md_T w w1) 0 0 := by
  obtain ⟨ok1, ok2, ok3, ok4, ok5, ok6, ok7, ok8, ok9, ok10, ok11⟩ := id hmo
  have hkl : k < (ct_f (fun k9 => decide (μ.rf k9 = some d0)) μ.n) := by have := (List.getElem?_eq_some_iff.mp hx9).1; rw [so_st_len, en_r_len] at this; exact this
  have hcl := ct_le (fun k9 => decide (μ.rf k9 = some d0)) μ.n
  refine dk_enter (lv := [(0, .ref h), (1, .int (nI l9)), (2, .int r9), (3, .int (nI k)), (4, .int (nI 0))]) (by decide) (Nat.le_of_ble_eq_true rfl) rfl (fun p e s m args below meth c ls Q hQ C hP hS hl => ?_)
  obtain ⟨hx, hb, hr, hml, hlocks, hown, hnm, hts, hE⟩ := C
  have hK := hE.1
  have hN := hE.2.1
  have hh_7727 : w h = some (100, .inr (cx_M, [.int (nI μ.er), .int (nI μ.n), .int (nI μ.sq), .int (nI μ.sf), .int (nI μ.rs), .int (rI μ.ba), .int (nI μ.pr), .int (nI μ.mi), .ref D.kf, .ref D.nf, .ref D.rf, .ref D.lf, .ref D.sv, .ref D.bk, .ref D.od, .ref D.vf, .ref D.bv, .ref D.df, .ref D.ss, .ref D.bd, .ref D.ks, .ref D.bt])) := hm.o
  refine lv_aload_n hx hb de_M_entry_0 rfl (lv_at hl 0 rfl) ?_
  refine lv_iconst (v := nI 0) hx hb de_M_entry_1 (by decide) ?_
  refine dk_put (a := h) (v := .int (nI 0)) (ty := .int) (C := kn_M) (T := kt_M) (N := 22) hx hb hts ki_M ky_M kk_M kd_M hown hK hP hS hh_7727 rfl 0 (by decide) (hts _ wi_714) (fun _ h9 => h9) rfl (by decide +kernel) rfl rfl (Nat.le_of_ble_eq_true rfl) de_M_entry_2 (fun H locs w_7728 hw_7729 hP hS => ?_)
  have h_7730 : w_7728 h = some (100, .inr (cx_M, [.int (nI 0), .int (nI μ.n), .int (nI μ.sq), .int (nI μ.sf), .int (nI μ.rs), .int (rI μ.ba), .int (nI μ.pr), .int (nI μ.mi), .ref D.kf, .ref D.nf, .ref D.rf, .ref D.lf, .ref D.sv, .ref D.bk, .ref D.od, .ref D.vf, .ref D.bv, .ref D.df, .ref D.ss, .ref D.bd, .ref D.ks, .ref D.bt])) := dk_here hw_7729
  have h_7731 : w_7728 D.kf = some (101, dk_ci G 700 (fun i9 => nI (μ.kf i9))) := dk_keep hw_7729 hh_7727 hm.kf (by decide)
  have h_7732 : w_7728 D.nf = some (102, dk_ci G 700 (fun i9 => nI (μ.nf i9))) := dk_keep hw_7729 hh_7727 hm.nf (by decide)
  have h_7733 : w_7728 D.rf = some (103, dk_ci G 700 (fun i9 => rI (μ.rf i9))) := dk_keep hw_7729 hh_7727 hm.rf (by decide)
  have h_7734 : w_7728 D.lf = some (104, dk_ci G 5000 (fun i9 => rI (μ.lf i9))) := dk_keep hw_7729 hh_7727 hm.lf (by decide)
  have h_7735 : w_7728 D.sv = some (105, dk_ci G 6 (fun i9 => nI (μ.sv i9))) := dk_keep hw_7729 hh_7727 hm.sv (by decide)
  have h_7736 : w_7728 D.bk = some (106, dk_ci G 16 (fun i9 => nI (μ.bk i9))) := dk_keep hw_7729 hh_7727 hm.bk (by decide)
  have h_7737 : w_7728 D.od = some (107, dk_ci G 700 (fun i9 => nI (μ.od i9))) := dk_keep hw_7729 hh_7727 hm.od (by decide)
  have h_7738 : w_7728 D.vf = some (108, dk_cl G 700 (fun i9 => μ.vf i9)) := dk_keep hw_7729 hh_7727 hm.vf (by decide)
  have h_7739 : w_7728 D.bv = some (109, dk_cl G 16 (fun i9 => μ.bv i9)) := dk_keep hw_7729 hh_7727 hm.bv (by decide)
  have h_7740 : w_7728 D.df = some (110, dk_cz G 700 (fun i9 => bo_i (μ.df i9))) := dk_keep hw_7729 hh_7727 hm.df (by decide)
  have h_7741 : w_7728 D.ss = some (111, dk_cz G 6 (fun i9 => bo_i (μ.ss i9))) := dk_keep hw_7729 hh_7727 hm.ss (by decide)
  have h_7742 : w_7728 D.bd = some (112, dk_cz G 16 (fun i9 => bo_i (μ.bd i9))) := dk_keep hw_7729 hh_7727 hm.bd (by decide)
  have h_7743 : w_7728 D.ks = some (113, dk_cz G 700 (fun i9 => bo_i (μ.ks i9))) := dk_keep hw_7729 hh_7727 hm.ks (by decide)
  have h_7744 : w_7728 D.bt = some (114, dk_cz G 6000 (fun i9 => bo_i (μ.bt i9))) := dk_keep hw_7729 hh_7727 hm.bt (by decide)
  have hm_7745 : md_at G w_7728 h D (μ.er' 0) := ⟨h_7730, h_7731, h_7732, h_7733, h_7734, h_7735, h_7736, h_7737, h_7738, h_7739, h_7740, h_7741, h_7742, h_7743, h_7744⟩
  have hh_7746 : w_7728 h = some (100, .inr (cx_M, [.int (nI 0), .int (nI μ.n), .int (nI μ.sq), .int (nI μ.sf), .int (nI μ.rs), .int (rI μ.ba), .int (nI μ.pr), .int (nI μ.mi), .ref D.kf, .ref D.nf, .ref D.rf, .ref D.lf, .ref D.sv, .ref D.bk, .ref D.od, .ref D.vf, .ref D.bv, .ref D.df, .ref D.ss, .ref D.bd, .ref D.ks, .ref D.bt])) := hm_7745.o
  have ha_7747 : w_7728 D.kf = some (101, dk_ci G 700 (fun i9 => nI (μ.kf i9))) := hm_7745.kf
  have ha_7748 : w_7728 D.nf = some (102, dk_ci G 700 (fun i9 => nI (μ.nf i9))) := hm_7745.nf
  have ha_7749 : w_7728 D.rf = some (103, dk_ci G 700 (fun i9 => rI (μ.rf i9))) := hm_7745.rf
  have ha_7750 : w_7728 D.lf = some (104, dk_ci G 5000 (fun i9 => rI (μ.lf i9))) := hm_7745.lf
  have ha_7751 : w_7728 D.sv = some (105, dk_ci G 6 (fun i9 => nI (μ.sv i9))) := hm_7745.sv
  have ha_7752 : w_7728 D.bk = some (106, dk_ci G 16 (fun i9 => nI (μ.bk i9))) := hm_7745.bk
  have ha_7753 : w_7728 D.od = some (107, dk_ci G 700 (fun i9 => nI (μ.od i9))) := hm_7745.od
  have ha_7754 : w_7728 D.vf = some (108, dk_cl G 700 (fun i9 => μ.vf i9)) := hm_7745.vf
  have ha_7755 : w_7728 D.bv = some (109, dk_cl G 16 (fun i9 => μ.bv i9)) := hm_7745.bv
  have ha_7756 : w_7728 D.df = some (110, dk_cz G 700 (fun i9 => bo_i (μ.df i9))) := hm_7745.df
  have ha_7757 : w_7728 D.ss = some (111, dk_cz G 6 (fun i9 => bo_i (μ.ss i9))) := hm_7745.ss
  have ha_7758 : w_7728 D.bd = some (112, dk_cz G 16 (fun i9 => bo_i (μ.bd i9))) := hm_7745.bd
  have ha_7759 : w_7728 D.ks = some (113, dk_cz G 700 (fun i9 => bo_i (μ.ks i9))) := hm_7745.ks
  have ha_7760 : w_7728 D.bt = some (114, dk_cz G 6000 (fun i9 => bo_i (μ.bt i9))) := hm_7745.bt
  refine lv_aload_n hx hb de_M_entry_5 rfl (lv_at hl 0 rfl) ?_
  refine lv_iload_n hx hb de_M_entry_6 rfl (lv_at hl 1 rfl) ?_
  refine lv_iconst (v := nI 0) hx hb de_M_entry_7 (by decide) ?_
  refine lv_iconst (v := nI 5) hx hb de_M_entry_8 (by decide) ?_
  refine dk_calli (va_runS (As := [.int (nI l9), .int (nI 0), .int (nI 5)]) (rest := [.ref h]) ⟨hx, hb, hml, hown, hts⟩ (c_M_in l G w_7728 (nI l9) (nI 0) (nI 5)) (va_cwS 3 hts (wd_gS wi_795 wi_793 wi_794 wi_8) rfl rfl rfl (by decide +kernel) ⟨Nat.le_of_ble_eq_true rfl, Nat.le_of_ble_eq_true rfl⟩) (dk_preS hE hP hS) rfl rfl hl.1 rfl (lv_room (Nat.le_of_ble_eq_true rfl)) de_M_entry_9 ⟨(by first | exact Nat.le_of_ble_eq_true rfl | (simp only [Nat.zero_add]; omega) | omega), (by first | exact Nat.le_of_ble_eq_true rfl | (simp only [Nat.zero_add]; omega) | omega)⟩) hS (fun r_7763 w_7761 H locs hq_7762 hP hS => ?_)
  rw [im_y (by decide) (by omega)] at hq_7762
  obtain ⟨hr_7764, he_7765⟩ := hq_7762
  subst hr_7764
  rw [he_7765] at hP
  refine bo_if_eq (b := true) (tgt := 25) hx hb de_M_entry_12 (by decide) (fun c_7766 => ?_) (fun c_7766 => ?_)
  · exact absurd c_7766 (by decide)
  · refine lv_iload hx hb de_M_entry_15 (lv_at hl 4 rfl) ?_
    refine lv_iconst (v := nI 0) hx hb de_M_entry_17 (by decide) ?_
    refine lv_iconst (v := nI 2) hx hb de_M_entry_18 (by decide) ?_
    refine dk_calli (va_runS (As := [.int (nI 0), .int (nI 0), .int (nI 2)]) (rest := [.ref h]) ⟨hx, hb, hml, hown, hts⟩ (c_M_in l G w_7728 (nI 0) (nI 0) (nI 2)) (va_cwS 3 hts (wd_gS wi_795 wi_793 wi_794 wi_8) rfl rfl rfl (by decide +kernel) ⟨Nat.le_of_ble_eq_true rfl, Nat.le_of_ble_eq_true rfl⟩) (dk_preS hE hP hS) rfl rfl hl.1 rfl (lv_room (Nat.le_of_ble_eq_true rfl)) de_M_entry_19 ⟨(by first | exact Nat.le_of_ble_eq_true rfl | (simp only [Nat.zero_add]; omega) | omega), (by first | exact Nat.le_of_ble_eq_true rfl | (simp only [Nat.zero_add]; omega) | omega)⟩) hS (fun r_7769 w_7767 H locs hq_7768 hP hS => ?_)
    rw [im_y (by decide) (by omega)] at hq_7768
    obtain ⟨hr_7770, he_7771⟩ := hq_7768
    subst hr_7770
    rw [he_7771] at hP
    refine bo_if_ne (b := true) (tgt := 29) hx hb de_M_entry_22 (by decide) (fun c_7772 => ?_) (fun c_7772 => ?_)
    · refine lv_iconst (v := nI 0) hx hb de_M_entry_29 (by decide) ?_
      refine lv_iconst (v := nI 1) hx hb de_M_entry_30 (by decide) ?_
      rw [show (nI 0) = bo_i false from (by decide)]
      refine dk_calli (va_runV (As := [.int (bo_i false), .int (nI 1)]) (rest := []) ⟨hx, hb, hml, hown, hts⟩ (c_M_fails l G w_7728 h D (μ.er' 0) hm_7745 false 1 (by decide) (by decide) (show (0 : Nat) < 3 by decide)) (cwV 2 hts (wd_gV (C := "RunKeeperModel") wi_799 wi_796 wi_798 (wd_p (q := (⟨"RunKeeperModel", "fails", "(ZI)Z"⟩, 22)) (by decide +kernel) (by decide +kernel)) wi_8) rfl rfl rfl (by decide +kernel) ⟨Nat.le_of_ble_eq_true rfl, Nat.le_of_ble_eq_true rfl⟩) (dk_preV (kn_M, kt_M, 22) hE hP hS hh_7746 rfl) rfl rfl hl.1 rfl (lv_room (Nat.le_of_ble_eq_true rfl)) de_M_entry_31 ⟨(by first | exact Nat.le_of_ble_eq_true rfl | (simp only [Nat.zero_add]; omega) | omega), (by first | exact Nat.le_of_ble_eq_true rfl | (simp only [Nat.zero_add]; omega) | omega)⟩) hS (fun r_7775 w_7773 H locs hq_7774 hP hS => ?_)
      obtain ⟨hr_7776, hq_7777, hf_7778⟩ := hq_7774
      subst hr_7776
      have hm_7779 : md_at G w_7773 h D ((μ.er' 0).er' 0) := hq_7777
      have hh_7780 : w_7773 h = some (100, .inr (cx_M, [.int (nI 0), .int (nI μ.n), .int (nI μ.sq), .int (nI μ.sf), .int (nI μ.rs), .int (rI μ.ba), .int (nI μ.pr), .int (nI μ.mi), .ref D.kf, .ref D.nf, .ref D.rf, .ref D.lf, .ref D.sv, .ref D.bk, .ref D.od, .ref D.vf, .ref D.bv, .ref D.df, .ref D.ss, .ref D.bd, .ref D.ks, .ref D.bt])) := hm_7779.o
      have ha_7781 : w_7773 D.kf = some (101, dk_ci G 700 (fun i9 => nI (μ.kf i9))) := hm_7779.kf
      have ha_7782 : w_7773 D.nf = some (102, dk_ci G 700 (fun i9 => nI (μ.nf i9))) := hm_7779.nf
      have ha_7783 : w_7773 D.rf = some (103, dk_ci G 700 (fun i9 => rI (μ.rf i9))) := hm_7779.rf
      have ha_7784 : w_7773 D.lf = some (104, dk_ci G 5000 (fun i9 => rI (μ.lf i9))) := hm_7779.lf
      have ha_7785 : w_7773 D.sv = some (105, dk_ci G 6 (fun i9 => nI (μ.sv i9))) := hm_7779.sv
      have ha_7786 : w_7773 D.bk = some (106, dk_ci G 16 (fun i9 => nI (μ.bk i9))) := hm_7779.bk
      have ha_7787 : w_7773 D.od = some (107, dk_ci G 700 (fun i9 => nI (μ.od i9))) := hm_7779.od
      have ha_7788 : w_7773 D.vf = some (108, dk_cl G 700 (fun i9 => μ.vf i9)) := hm_7779.vf
      have ha_7789 : w_7773 D.bv = some (109, dk_cl G 16 (fun i9 => μ.bv i9)) := hm_7779.bv
      have ha_7790 : w_7773 D.df = some (110, dk_cz G 700 (fun i9 => bo_i (μ.df i9))) := hm_7779.df
      have ha_7791 : w_7773 D.ss = some (111, dk_cz G 6 (fun i9 => bo_i (μ.ss i9))) := hm_7779.ss
      have ha_7792 : w_7773 D.bd = some (112, dk_cz G 16 (fun i9 => bo_i (μ.bd i9))) := hm_7779.bd
      have ha_7793 : w_7773 D.ks = some (113, dk_cz G 700 (fun i9 => bo_i (μ.ks i9))) := hm_7779.ks
      have ha_7794 : w_7773 D.bt = some (114, dk_cz G 6000 (fun i9 => bo_i (μ.bt i9))) := hm_7779.bt
      refine bo_if_eq (b := false) (tgt := 39) hx hb de_M_entry_34 (by decide) (fun c_7795 => ?_) (fun c_7795 => ?_)
      · refine lv_iconst (v := (-1)) hx hb de_M_entry_39 (by decide) ?_
        refine lv_istore (lv' := [(5, .int (-1)), (0, .ref h), (1, .int (nI l9)), (2, .int r9), (3, .int (nI k)), (4, .int (nI 0))]) hx hb de_M_entry_40 hl (by decide) rfl (fun ls hl => ?_)
        refine lv_iconst (v := nI 0) hx hb de_M_entry_42 (by decide) ?_
        refine lv_istore (lv' := [(6, .int (nI 0)), (5, .int (-1)), (0, .ref h), (1, .int (nI l9)), (2, .int r9), (3, .int (nI k)), (4, .int (nI 0))]) hx hb de_M_entry_43 hl (by decide) rfl (fun ls hl => ?_)
        refine lv_iconst (v := nI 0) hx hb de_M_entry_45 (by decide) ?_
        refine lv_istore (lv' := [(7, .int (nI 0)), (6, .int (nI 0)), (5, .int (-1)), (0, .ref h), (1, .int (nI l9)), (2, .int r9), (3, .int (nI k)), (4, .int (nI 0))]) hx hb de_M_entry_46 hl (by decide) rfl (fun ls hl => ?_)
        refine lv_iconst (v := nI 0) hx hb de_M_entry_48 (by decide) ?_
        refine lv_istore (lv' := [(8, .int (nI 0)), (7, .int (nI 0)), (6, .int (nI 0)), (5, .int (-1)), (0, .ref h), (1, .int (nI l9)), (2, .int r9), (3, .int (nI k)), (4, .int (nI 0))]) hx hb de_M_entry_49 hl (by decide) rfl (fun ls hl => ?_)
        replace hl : lv_has ls 9 [(8, .int (nI 0)), (7, .int (nI 0)), (6, .int (nI 0)), (5, .int (rI none)), (0, .ref h), (1, .int (nI l9)), (2, .int r9), (3, .int (nI k)), (4, .int (nI 0))] := hl
        have lp : ∀ (zk : Nat) (j : Nat) (o : Option Nat) (m9 : Nat), μ.rs - j < zk → (j ≤ μ.rs) → (id_f μ l9 r9 j = (o, m9)) → (m9 ≤ j) → ∀ (ls : Array Slot), lv_has ls 9 [(0, .ref h), (1, .int (nI l9)), (2, .int r9), (3, .int (nI k)), (4, .int (nI 0)), (5, .int (rI o)), (6, .int (nI m9)), (7, .int (nI 0)), (8, .int (nI j))] → W p l e rm_M_entry s m args below meth c H locs (0 + 0 + 0 + 0) (0 + 0 + 0 + 0) Q (F0 m 51 ls []) := by
          intro zk
          induction zk with
          | zero =>
            intro j o m9 hk
            exact absurd hk (by omega)
          | succ zk ih =>
            intro j o m9 hk hj hid hm9
            intro ls hl
            have hleq := rI_eq (a := μ.lf j) (b := some l9) (fun r hr => by have := ok4 j r hr; omega) (fun r hr => by cases hr; omega)
            refine lv_iload hx hb de_M_entry_51 (lv_at hl 8 rfl) ?_
            refine lv_aload_n hx hb de_M_entry_53 rfl (lv_at hl 0 rfl) ?_
            refine dk_get (a := h) (v := .int (nI μ.rs)) (C := kn_M) (T := kt_M) (N := 22) hx hb hts ki_M hown hK hP hh_7780 rfl 4 (by decide) (hts _ wi_718) (fun _ h9 => h9) rfl de_M_entry_54 ?_
            refine nx_icmp_ge (a := j) (b := μ.rs) (tgt := 90) hx hb (by omega) (by omega) de_M_entry_57 (by decide) (fun c_7796 => ?_) (fun c_7796 => ?_)
            · have e9 : j = μ.rs := by omega
              have hio : id_f μ l9 r9 μ.rs = (o, m9) := by rw [← e9]; exact hid
              have e8 : o = some d0 := by rw [hio] at hn; exact hn
              subst e8
              replace hl : lv_has ls 9 [(0, .ref h), (1, .int (nI l9)), (2, .int r9), (3, .int (nI k)), (4, .int (nI 0)), (5, .int (nI d0)), (6, .int (nI m9)), (7, .int (nI 0)), (8, .int (nI j))] := hl
              refine lv_aload_n hx hb de_M_entry_90 rfl (lv_at hl 0 rfl) ?_
              refine lv_iload hx hb de_M_entry_91 (lv_at hl 5 rfl) ?_
              refine nx_if_lt (a := d0) (tgt := 112) hx hb (by omega) de_M_entry_93 (by decide) ?_
              have hmo2 : md_ok ((μ.er' 0).er' 0) := ⟨ok1, ok2, ok3, ok4, ok5, ok6, ok7, ok8, ok9, ok10, show (0 : Nat) < 3 by decide⟩
              refine lv_iload_n hx hb de_M_entry_96 rfl (lv_at hl 3 rfl) ?_
              refine lv_iconst (v := nI 0) hx hb de_M_entry_97 (by decide) ?_
              refine lv_aload_n hx hb de_M_entry_98 rfl (lv_at hl 0 rfl) ?_
              refine lv_iload hx hb de_M_entry_99 (lv_at hl 5 rfl) ?_
              refine dk_calli (va_runV (As := [.int (nI d0)]) (rest := [.int (nI 0), .int (nI k), .ref h]) ⟨hx, hb, hml, hown, hts⟩ (c_M_inRun l G w_7773 h D ((μ.er' 0).er' 0) hm_7779 hmo2 (some d0) (fun r hr => by cases hr; omega)) (cwV 1 hts (wd_gV (C := "RunKeeperModel") wi_807 wi_804 wi_806 (wd_p (q := (⟨"RunKeeperModel", "inRun", "(I)I"⟩, 22)) (by decide +kernel) (by decide +kernel)) wi_8) rfl rfl rfl (by decide +kernel) ⟨Nat.le_of_ble_eq_true rfl, Nat.le_of_ble_eq_true rfl⟩) (dk_preV (kn_M, kt_M, 22) hE hP hS hh_7780 rfl) rfl rfl hl.1 rfl (lv_room (Nat.le_of_ble_eq_true rfl)) de_M_entry_101 ⟨(by first | exact Nat.le_of_ble_eq_true rfl | (simp only [Nat.zero_add]; omega) | omega), (by first | exact Nat.le_of_ble_eq_true rfl | (simp only [Nat.zero_add]; omega) | omega)⟩) hS (fun r_7802 w_7800 H locs hq_7801 hP hS => ?_)
              obtain ⟨hr_7803, he_7804⟩ := hq_7801
              subst hr_7803
              rw [he_7804] at hP
              refine lv_iconst (v := nI 1) hx hb de_M_entry_104 (by decide) ?_
              refine lv_isub hx hb de_M_entry_105 ?_
              refine dk_calli (va_runS (As := [.int (nI k), .int (nI 0), .int (mI (ct_f (fun k9 => decide (μ.rf k9 = some d0)) μ.n))]) (rest := [.ref h]) ⟨hx, hb, hml, hown, hts⟩ (c_M_in l G w_7773 (nI k) (nI 0) (mI (ct_f (fun k9 => decide (μ.rf k9 = some d0)) μ.n))) (va_cwS 3 hts (wd_gS wi_795 wi_793 wi_794 wi_8) rfl rfl rfl (by decide +kernel) ⟨Nat.le_of_ble_eq_true rfl, Nat.le_of_ble_eq_true rfl⟩) (dk_preS hE hP hS) rfl rfl hl.1 rfl (lv_room (Nat.le_of_ble_eq_true rfl)) de_M_entry_106 ⟨(by first | exact Nat.le_of_ble_eq_true rfl | (simp only [Nat.zero_add]; omega) | omega), (by first | exact Nat.le_of_ble_eq_true rfl | (simp only [Nat.zero_add]; omega) | omega)⟩) hS (fun r_7807 w_7805 H locs hq_7806 hP hS => ?_)
              rw [im_mI (by omega) hkl] at hq_7806
              obtain ⟨hr_7808, he_7809⟩ := hq_7806
              subst hr_7808
              rw [he_7809] at hP
              refine bo_if_ne (b := true) (tgt := 116) hx hb de_M_entry_109 (by decide) (fun c_7810 => ?_) (fun c_7810 => ?_)
              · refine lv_iconst (v := nI 0) hx hb de_M_entry_116 (by decide) ?_
                refine lv_iconst (v := nI 2) hx hb de_M_entry_117 (by decide) ?_
                rw [show (nI 0) = bo_i false from (by decide)]
                refine dk_calli (va_runV (As := [.int (bo_i false), .int (nI 2)]) (rest := []) ⟨hx, hb, hml, hown, hts⟩ (c_M_fails l G w_7773 h D ((μ.er' 0).er' 0) hm_7779 false 2 (by decide) (by decide) (show (0 : Nat) < 3 by decide)) (cwV 2 hts (wd_gV (C := "RunKeeperModel") wi_799 wi_796 wi_798 (wd_p (q := (⟨"RunKeeperModel", "fails", "(ZI)Z"⟩, 22)) (by decide +kernel) (by decide +kernel)) wi_8) rfl rfl rfl (by decide +kernel) ⟨Nat.le_of_ble_eq_true rfl, Nat.le_of_ble_eq_true rfl⟩) (dk_preV (kn_M, kt_M, 22) hE hP hS hh_7780 rfl) rfl rfl hl.1 rfl (lv_room (Nat.le_of_ble_eq_true rfl)) de_M_entry_118 ⟨(by first | exact Nat.le_of_ble_eq_true rfl | (simp only [Nat.zero_add]; omega) | omega), (by first | exact Nat.le_of_ble_eq_true rfl | (simp only [Nat.zero_add]; omega) | omega)⟩) hS (fun r_7813 w_7811 H locs hq_7812 hP hS => ?_)
                obtain ⟨hr_7814, hq_7815, hf_7816⟩ := hq_7812
                subst hr_7814
                have hm_7817 : md_at G w_7811 h D (((μ.er' 0).er' 0).er' 0) := hq_7815
                have hh_7818 : w_7811 h = some (100, .inr (cx_M, [.int (nI 0), .int (nI μ.n), .int (nI μ.sq), .int (nI μ.sf), .int (nI μ.rs), .int (rI μ.ba), .int (nI μ.pr), .int (nI μ.mi), .ref D.kf, .ref D.nf, .ref D.rf, .ref D.lf, .ref D.sv, .ref D.bk, .ref D.od, .ref D.vf, .ref D.bv, .ref D.df, .ref D.ss, .ref D.bd, .ref D.ks, .ref D.bt])) := hm_7817.o
                have ha_7819 : w_7811 D.kf = some (101, dk_ci G 700 (fun i9 => nI (μ.kf i9))) := hm_7817.kf
                have ha_7820 : w_7811 D.nf = some (102, dk_ci G 700 (fun i9 => nI (μ.nf i9))) := hm_7817.nf
                have ha_7821 : w_7811 D.rf = some (103, dk_ci G 700 (fun i9 => rI (μ.rf i9))) := hm_7817.rf
                have ha_7822 : w_7811 D.lf = some (104, dk_ci G 5000 (fun i9 => rI (μ.lf i9))) := hm_7817.lf
                have ha_7823 : w_7811 D.sv = some (105, dk_ci G 6 (fun i9 => nI (μ.sv i9))) := hm_7817.sv
                have ha_7824 : w_7811 D.bk = some (106, dk_ci G 16 (fun i9 => nI (μ.bk i9))) := hm_7817.bk
                have ha_7825 : w_7811 D.od = some (107, dk_ci G 700 (fun i9 => nI (μ.od i9))) := hm_7817.od
                have ha_7826 : w_7811 D.vf = some (108, dk_cl G 700 (fun i9 => μ.vf i9)) := hm_7817.vf
                have ha_7827 : w_7811 D.bv = some (109, dk_cl G 16 (fun i9 => μ.bv i9)) := hm_7817.bv
                have ha_7828 : w_7811 D.df = some (110, dk_cz G 700 (fun i9 => bo_i (μ.df i9))) := hm_7817.df
                have ha_7829 : w_7811 D.ss = some (111, dk_cz G 6 (fun i9 => bo_i (μ.ss i9))) := hm_7817.ss
                have ha_7830 : w_7811 D.bd = some (112, dk_cz G 16 (fun i9 => bo_i (μ.bd i9))) := hm_7817.bd
                have ha_7831 : w_7811 D.ks = some (113, dk_cz G 700 (fun i9 => bo_i (μ.ks i9))) := hm_7817.ks
                have ha_7832 : w_7811 D.bt = some (114, dk_cz G 6000 (fun i9 => bo_i (μ.bt i9))) := hm_7817.bt
                refine bo_if_eq (b := false) (tgt := 126) hx hb de_M_entry_121 (by decide) (fun c_7833 => ?_) (fun c_7833 => ?_)
                · refine lv_iconst (v := nI 0) hx hb de_M_entry_126 (by decide) ?_
                  refine lv_istore (lv' := [(6, .int (nI 0)), (0, .ref h), (1, .int (nI l9)), (2, .int r9), (3, .int (nI k)), (4, .int (nI 0)), (5, .int (nI d0)), (7, .int (nI 0)), (8, .int (nI j))]) hx hb de_M_entry_127 hl (by decide) rfl (fun ls hl => ?_)
                  refine lv_iconst (v := nI 0) hx hb de_M_entry_129 (by decide) ?_
                  refine lv_istore (lv' := [(8, .int (nI 0)), (6, .int (nI 0)), (0, .ref h), (1, .int (nI l9)), (2, .int r9), (3, .int (nI k)), (4, .int (nI 0)), (5, .int (nI d0)), (7, .int (nI 0))]) hx hb de_M_entry_130 hl (by decide) rfl (fun ls hl => ?_)
                  have lp2 : ∀ (zk2 : Nat) (i : Nat) (g : Nat → Nat), μ.n - i < zk2 → (i ≤ μ.n) → (ra_ok (fw_d μ) (fun q => some (g q)) (so_st (en_r μ d0 i))) → ∀ (H : Heap) (locs : List Loc) (v : dk_H), (md_at G v h D ((μ.er' 0).od' g)) → (dk_fr md_T w v) → dk_P G v H → dk_S G s.heap H locs → ∀ (ls : Array Slot), lv_has ls 9 [(0, .ref h), (3, .int (nI k)), (4, .int (nI 0)), (5, .int (nI d0)), (6, .int (nI (ct_f (fun k9 => decide (μ.rf k9 = some d0)) i))), (8, .int (nI i))] → W p l e rm_M_entry s m args below meth c H locs (0 + 0 + 0 + 0 + 0 + 0 + 0) (0 + 0 + 0 + 0 + 0 + 0 + 0) Q (F0 m 132 ls []) := by
                    intro zk2
                    induction zk2 with
                    | zero =>
                      intro i g hk
                      exact absurd hk (by omega)
                    | succ zk2 ih2 =>
                      intro i g hk hi hra
                      intro H locs v hmv hg hP hS
                      intro ls hl
                      have hh_7834 : v h = some (100, .inr (cx_M, [.int (nI 0), .int (nI μ.n), .int (nI μ.sq), .int (nI μ.sf), .int (nI μ.rs), .int (rI μ.ba), .int (nI μ.pr), .int (nI μ.mi), .ref D.kf, .ref D.nf, .ref D.rf, .ref D.lf, .ref D.sv, .ref D.bk, .ref D.od, .ref D.vf, .ref D.bv, .ref D.df, .ref D.ss, .ref D.bd, .ref D.ks, .ref D.bt])) := hmv.o
                      have ha_7835 : v D.kf = some (101, dk_ci G 700 (fun i9 => nI (μ.kf i9))) := hmv.kf
                      have ha_7836 : v D.nf = some (102, dk_ci G 700 (fun i9 => nI (μ.nf i9))) := hmv.nf
                      have ha_7837 : v D.rf = some (103, dk_ci G 700 (fun i9 => rI (μ.rf i9))) := hmv.rf
                      have ha_7838 : v D.lf = some (104, dk_ci G 5000 (fun i9 => rI (μ.lf i9))) := hmv.lf
                      have ha_7839 : v D.sv = some (105, dk_ci G 6 (fun i9 => nI (μ.sv i9))) := hmv.sv
                      have ha_7840 : v D.bk = some (106, dk_ci G 16 (fun i9 => nI (μ.bk i9))) := hmv.bk
                      have ha_7841 : v D.od = some (107, dk_ci G 700 (fun i9 => nI (g i9))) := hmv.od
                      have ha_7842 : v D.vf = some (108, dk_cl G 700 (fun i9 => μ.vf i9)) := hmv.vf
                      have ha_7843 : v D.bv = some (109, dk_cl G 16 (fun i9 => μ.bv i9)) := hmv.bv
                      have ha_7844 : v D.df = some (110, dk_cz G 700 (fun i9 => bo_i (μ.df i9))) := hmv.df
                      have ha_7845 : v D.ss = some (111, dk_cz G 6 (fun i9 => bo_i (μ.ss i9))) := hmv.ss
                      have ha_7846 : v D.bd = some (112, dk_cz G 16 (fun i9 => bo_i (μ.bd i9))) := hmv.bd
                      have ha_7847 : v D.ks = some (113, dk_cz G 700 (fun i9 => bo_i (μ.ks i9))) := hmv.ks
                      have ha_7848 : v D.bt = some (114, dk_cz G 6000 (fun i9 => bo_i (μ.bt i9))) := hmv.bt
                      have hreq := rI_eq (a := μ.rf i) (b := some d0) (fun r hr => by have := ok3 i r hr; omega) (fun r hr => by cases hr; omega)
                      have hcti := ct_le (fun k9 => decide (μ.rf k9 = some d0)) i
                      have hlen : (so_st (en_r μ d0 i)).length = ct_f (fun k9 => decide (μ.rf k9 = some d0)) i := by rw [so_st_len, en_r_len]
                      refine lv_iload hx hb de_M_entry_132 (lv_at hl 5 rfl) ?_
                      refine lv_aload_n hx hb de_M_entry_134 rfl (lv_at hl 0 rfl) ?_
                      refine dk_get (a := h) (v := .int (nI μ.n)) (C := kn_M) (T := kt_M) (N := 22) hx hb hts ki_M hown hK hP hh_7834 rfl 1 (by decide) (hts _ wi_715) (fun _ h9 => h9) rfl de_M_entry_135 ?_
                      refine nx_icmp_ge (a := i) (b := μ.n) (tgt := 223) hx hb (by omega) (by omega) de_M_entry_138 (by decide) (fun c_7849 => ?_) (fun c_7849 => ?_)
                      · have e6 : i = μ.n := by omega
                        rw [e6] at hra
                        obtain ⟨a1, ha1, hb1⟩ := hra k x9 hx9
                        obtain ⟨ha2, hx2⟩ := fw_i hmo (so_r_ok hmo hx9) hb1
                        have hgk : g k = a1 := Option.some.inj ha1
                        refine lv_aload_n hx hb de_M_entry_223 rfl (lv_at hl 0 rfl) ?_
                        refine dk_get (a := h) (v := .ref D.od) (C := kn_M) (T := kt_M) (N := 22) hx hb hts ki_M hown hK hP hh_7834 rfl 14 (by decide) (hts _ wi_728) (fun _ h9 => h9) rfl de_M_entry_224 ?_
                        refine lv_iload_n hx hb de_M_entry_227 rfl (lv_at hl 1 rfl) ?_
                        refine dk_iald (a := D.od) hx hb hK hP ha_7841 k rfl (by omega) (by omega) de_M_entry_228 ?_
                        rw [hgk]
                        refine lv_istore (lv' := [(8, .int (nI a1)), (0, .ref h), (3, .int (nI k)), (4, .int (nI 0)), (5, .int (nI d0)), (6, .int (nI (ct_f (fun k9 => decide (μ.rf k9 = some d0)) i)))]) hx hb de_M_entry_229 hl (by decide) rfl (fun ls hl => ?_)
                        refine lv_iload hx hb de_M_entry_231 (lv_at hl 3 rfl) ?_
                        subst hx2
                        refine nx_if_ne (a := 0) (tgt := 246) hx hb (by omega) de_M_entry_233 (by decide) (fun c_7927 => ?_) (fun c_7927 => ?_)
                        · exact absurd c_7927 (by omega)
                        · refine lv_aload_n hx hb de_M_entry_236 rfl (lv_at hl 1 rfl) ?_
                          refine dk_get (a := h) (v := .ref D.kf) (C := kn_M) (T := kt_M) (N := 22) hx hb hts ki_M hown hK hP hh_7834 rfl 8 (by decide) (hts _ wi_722) (fun _ h9 => h9) rfl de_M_entry_237 ?_
                          refine lv_iload hx hb de_M_entry_240 (lv_at hl 0 rfl) ?_
                          refine dk_iald (a := D.kf) hx hb hK hP ha_7835 a1 rfl (by omega) (by omega) de_M_entry_242 ?_
                          refine lv_goto (tgt := 277) hx hb de_M_entry_243 (by decide) ?_
                          exact dk_iret hQ hx hb hr hlocks hP hS (Nat.le_refl _) (Nat.le_refl _) (⟨rfl, ⟨g, hmv⟩, hg⟩) de_M_entry_277
                      · refine lv_aload_n hx hb de_M_entry_141 rfl (lv_at hl 0 rfl) ?_
                        refine dk_get (a := h) (v := .ref D.rf) (C := kn_M) (T := kt_M) (N := 22) hx hb hts ki_M hown hK hP hh_7834 rfl 10 (by decide) (hts _ wi_724) (fun _ h9 => h9) rfl de_M_entry_142 ?_
                        refine lv_iload hx hb de_M_entry_145 (lv_at hl 5 rfl) ?_
                        refine dk_iald (a := D.rf) hx hb hK hP ha_7837 i rfl (by omega) (by omega) de_M_entry_147 ?_
                        refine lv_iload hx hb de_M_entry_148 (lv_at hl 3 rfl) ?_
                        refine lv_icmp_eq (tgt := 156) hx hb de_M_entry_150 (by decide) (fun c_7850 => ?_) (fun c_7850 => ?_)
                        · have e7 : μ.rf i = some d0 := hreq.mp c_7850
                          obtain ⟨mm, hmm⟩ : ∃ mm, mm = ct_f (fun k9 => decide (μ.rf k9 = some d0)) i := ⟨_, rfl⟩
                          rw [← hmm] at hl hlen hcti
                          have hsh := sh_ok.init (R := []) (by rw [List.append_nil]; exact hra)
                          rw [hlen] at hsh
                          refine lv_iload hx hb de_M_entry_156 (lv_at hl 4 rfl) ?_
                          refine lv_iinc (v := nI (mm + 1)) (lv' := [(6, .int (nI (mm + 1))), (0, .ref h), (3, .int (nI k)), (4, .int (nI 0)), (5, .int (nI d0)), (8, .int (nI i))]) hx hb de_M_entry_158 hl (k := 4) rfl (nx_inc mm) (by decide) rfl (fun ls hl => ?_)
                          refine lv_istore (lv' := [(7, .int (nI mm)), (6, .int (nI (mm + 1))), (0, .ref h), (3, .int (nI k)), (4, .int (nI 0)), (5, .int (nI d0)), (8, .int (nI i))]) hx hb de_M_entry_161 hl (by decide) rfl (fun ls hl => ?_)
                          have lp3 : ∀ (zk3 : Nat) (p9 : Nat) (g2 : Nat → Nat), p9 < zk3 → (p9 ≤ mm) → (∀ (j : Nat) (y : en_T), p9 ≤ j → (so_st (en_r μ d0 i))[j]? = some y → en_b (me_e μ i) y = true) → (sh_ok (fw_d μ) (fun q => some (g2 q)) (so_st (en_r μ d0 i)) p9) → ∀ (H : Heap) (locs : List Loc) (v3 : dk_H), (md_at G v3 h D ((μ.er' 0).od' g2)) → (dk_fr md_T w v3) → dk_P G v3 H → dk_S G s.heap H locs → ∀ (ls : Array Slot), lv_has ls 9 [(0, .ref h), (3, .int (nI k)), (4, .int (nI 0)), (5, .int (nI d0)), (6, .int (nI (mm + 1))), (7, .int (nI p9)), (8, .int (nI i))] → W p l e rm_M_entry s m args below meth c H locs (0 + 0 + 0 + 0 + 0 + 0 + 0) (0 + 0 + 0 + 0 + 0 + 0 + 0) Q (F0 m 163 ls []) := by
                            intro zk3
                            induction zk3 with
                            | zero =>
                              intro p9 g2 hk
                              exact absurd hk (by omega)
                            | succ zk3 ih3 =>
                              intro p9 g2 hk hp9 hal hs2
                              intro H locs v3 hmv3 hg3 hP hS
                              intro ls hl
                              have hh_7851 : v3 h = some (100, .inr (cx_M, [.int (nI 0), .int (nI μ.n), .int (nI μ.sq), .int (nI μ.sf), .int (nI μ.rs), .int (rI μ.ba), .int (nI μ.pr), .int (nI μ.mi), .ref D.kf, .ref D.nf, .ref D.rf, .ref D.lf, .ref D.sv, .ref D.bk, .ref D.od, .ref D.vf, .ref D.bv, .ref D.df, .ref D.ss, .ref D.bd, .ref D.ks, .ref D.bt])) := hmv3.o
                              have ha_7852 : v3 D.kf = some (101, dk_ci G 700 (fun i9 => nI (μ.kf i9))) := hmv3.kf
                              have ha_7853 : v3 D.nf = some (102, dk_ci G 700 (fun i9 => nI (μ.nf i9))) := hmv3.nf
                              have ha_7854 : v3 D.rf = some (103, dk_ci G 700 (fun i9 => rI (μ.rf i9))) := hmv3.rf
                              have ha_7855 : v3 D.lf = some (104, dk_ci G 5000 (fun i9 => rI (μ.lf i9))) := hmv3.lf
                              have ha_7856 : v3 D.sv = some (105, dk_ci G 6 (fun i9 => nI (μ.sv i9))) := hmv3.sv
                              have ha_7857 : v3 D.bk = some (106, dk_ci G 16 (fun i9 => nI (μ.bk i9))) := hmv3.bk
                              have ha_7858 : v3 D.od = some (107, dk_ci G 700 (fun i9 => nI (g2 i9))) := hmv3.od
                              have ha_7859 : v3 D.vf = some (108, dk_cl G 700 (fun i9 => μ.vf i9)) := hmv3.vf
                              have ha_7860 : v3 D.bv = some (109, dk_cl G 16 (fun i9 => μ.bv i9)) := hmv3.bv
                              have ha_7861 : v3 D.df = some (110, dk_cz G 700 (fun i9 => bo_i (μ.df i9))) := hmv3.df
                              have ha_7862 : v3 D.ss = some (111, dk_cz G 6 (fun i9 => bo_i (μ.ss i9))) := hmv3.ss
                              have ha_7863 : v3 D.bd = some (112, dk_cz G 16 (fun i9 => bo_i (μ.bd i9))) := hmv3.bd
                              have ha_7864 : v3 D.ks = some (113, dk_cz G 700 (fun i9 => bo_i (μ.ks i9))) := hmv3.ks
                              have ha_7865 : v3 D.bt = some (114, dk_cz G 6000 (fun i9 => bo_i (μ.bt i9))) := hmv3.bt
                              have hmo3 : md_ok ((μ.er' 0).od' g2) := ⟨ok1, ok2, ok3, ok4, ok5, ok6, ok7, ok8, ok9, ok10, show (0 : Nat) < 3 by decide⟩
                              refine lv_iload hx hb de_M_entry_163 (lv_at hl 5 rfl) ?_
                              refine nx_if_le (a := p9) (tgt := 208) hx hb (by omega) de_M_entry_165 (by decide) (fun c_7866 => ?_) (fun c_7866 => ?_)
                              · refine lv_aload_n hx hb de_M_entry_208 rfl (lv_at hl 0 rfl) ?_
                                refine dk_get (a := h) (v := .ref D.od) (C := kn_M) (T := kt_M) (N := 22) hx hb hts ki_M hown hK hP hh_7851 rfl 14 (by decide) (hts _ wi_728) (fun _ h9 => h9) rfl de_M_entry_209 ?_
                                refine lv_iload hx hb de_M_entry_212 (lv_at hl 5 rfl) ?_
                                refine lv_iload hx hb de_M_entry_214 (lv_at hl 6 rfl) ?_
                                refine dk_iast (a := D.od) (x := (nI i)) hx hb hK hP hS ha_7858 p9 rfl (by omega) (by omega) de_M_entry_216 (fun H locs w_7867 hw_7868 hP hS => ?_)
                                rw [up_nI] at hw_7868
                                have h_7869 : w_7867 D.od = some (107, dk_ci G 700 (fun i9 => nI ((va_up g2 p9 i) i9))) := dk_here hw_7868
                                have h_7870 : w_7867 h = some (100, .inr (cx_M, [.int (nI 0), .int (nI μ.n), .int (nI μ.sq), .int (nI μ.sf), .int (nI μ.rs), .int (rI μ.ba), .int (nI μ.pr), .int (nI μ.mi), .ref D.kf, .ref D.nf, .ref D.rf, .ref D.lf, .ref D.sv, .ref D.bk, .ref D.od, .ref D.vf, .ref D.bv, .ref D.df, .ref D.ss, .ref D.bd, .ref D.ks, .ref D.bt])) := dk_keep hw_7868 ha_7858 hh_7851 (by decide)
                                have h_7871 : w_7867 D.kf = some (101, dk_ci G 700 (fun i9 => nI (μ.kf i9))) := dk_keep hw_7868 ha_7858 ha_7852 (by decide)
                                have h_7872 : w_7867 D.nf = some (102, dk_ci G 700 (fun i9 => nI (μ.nf i9))) := dk_keep hw_7868 ha_7858 ha_7853 (by decide)
                                have h_7873 : w_7867 D.rf = some (103, dk_ci G 700 (fun i9 => rI (μ.rf i9))) := dk_keep hw_7868 ha_7858 ha_7854 (by decide)
                                have h_7874 : w_7867 D.lf = some (104, dk_ci G 5000 (fun i9 => rI (μ.lf i9))) := dk_keep hw_7868 ha_7858 ha_7855 (by decide)
                                have h_7875 : w_7867 D.sv = some (105, dk_ci G 6 (fun i9 => nI (μ.sv i9))) := dk_keep hw_7868 ha_7858 ha_7856 (by decide)
                                have h_7876 : w_7867 D.bk = some (106, dk_ci G 16 (fun i9 => nI (μ.bk i9))) := dk_keep hw_7868 ha_7858 ha_7857 (by decide)
                                have h_7877 : w_7867 D.vf = some (108, dk_cl G 700 (fun i9 => μ.vf i9)) := dk_keep hw_7868 ha_7858 ha_7859 (by decide)
                                have h_7878 : w_7867 D.bv = some (109, dk_cl G 16 (fun i9 => μ.bv i9)) := dk_keep hw_7868 ha_7858 ha_7860 (by decide)
                                have h_7879 : w_7867 D.df = some (110, dk_cz G 700 (fun i9 => bo_i (μ.df i9))) := dk_keep hw_7868 ha_7858 ha_7861 (by decide)
                                have h_7880 : w_7867 D.ss = some (111, dk_cz G 6 (fun i9 => bo_i (μ.ss i9))) := dk_keep hw_7868 ha_7858 ha_7862 (by decide)
                                have h_7881 : w_7867 D.bd = some (112, dk_cz G 16 (fun i9 => bo_i (μ.bd i9))) := dk_keep hw_7868 ha_7858 ha_7863 (by decide)
                                have h_7882 : w_7867 D.ks = some (113, dk_cz G 700 (fun i9 => bo_i (μ.ks i9))) := dk_keep hw_7868 ha_7858 ha_7864 (by decide)
                                have h_7883 : w_7867 D.bt = some (114, dk_cz G 6000 (fun i9 => bo_i (μ.bt i9))) := dk_keep hw_7868 ha_7858 ha_7865 (by decide)
                                refine lv_iinc (v := nI (i + 1)) (lv' := [(8, .int (nI (i + 1))), (0, .ref h), (3, .int (nI k)), (4, .int (nI 0)), (5, .int (nI d0)), (6, .int (nI (mm + 1))), (7, .int (nI p9))]) hx hb de_M_entry_217 hl (k := 6) rfl (nx_inc i) (by decide) rfl (fun ls hl => ?_)
                                refine lv_goto (tgt := 132) hx hb de_M_entry_220 (by decide) ?_
                                have hm_7884 : md_at G w_7867 h D (((μ.er' 0).od' g2).od' (va_up g2 p9 i)) := ⟨h_7870, h_7871, h_7872, h_7873, h_7874, h_7875, h_7876, h_7869, h_7877, h_7878, h_7879, h_7880, h_7881, h_7882, h_7883⟩
                                have hso : so_n (me_e μ i) (so_st (en_r μ d0 i)) = p9 := so_n_of _ _ p9 (by rw [hlen]; exact hp9) hal (fun y h0 => absurd h0 (by omega))
                                have hra2 := os_done hlen hs2 hso (c_7849)
                                replace hl : lv_has ls 9 [(8, .int (nI (i + 1))), (0, .ref h), (3, .int (nI k)), (4, .int (nI 0)), (5, .int (nI d0)), (6, .int (nI (ct_f (fun k9 => decide (μ.rf k9 = some d0)) (i + 1)))), (7, .int (nI p9))] := by rw [ct_y (p := fun k9 => decide (μ.rf k9 = some d0)) (decide_eq_true e7), ← hmm]; exact hl
                                exact ih2 (i + 1) (va_up g2 p9 i) (by omega) (by omega) (by rw [en_ry e7, so_snoc]; exact hra2) _ _ _ hm_7884 (hg3.tr ((dk_fr.rf).tr ((dk_fr.up (T := md_T) ha_7858 (by unfold md_T; omega)).eq hw_7868))) hP hS _ (lv_sub hl [1, 2, 3, 4, 5, 0] rfl)
                              · obtain ⟨p8, hp8⟩ : ∃ p8, p9 = p8 + 1 := ⟨p9 - 1, by omega⟩
                                obtain ⟨y8, hy8⟩ := ge_at (L := so_st (en_r μ d0 i)) (i := p8) (by omega)
                                obtain ⟨a8, ha8, hb8⟩ := hs2.1 p8 y8 (by omega) hy8
                                have hga : g2 (p9 - 1) = a8 := by rw [hp8, Nat.add_sub_cancel]; exact Option.some.inj ha8
                                obtain ⟨ha7, hy7⟩ := fw_i hmo (so_r_ok hmo hy8) hb8
                                refine lv_aload_n hx hb de_M_entry_168 rfl (lv_at hl 0 rfl) ?_
                                refine lv_iload hx hb de_M_entry_169 (lv_at hl 6 rfl) ?_
                                refine lv_aload_n hx hb de_M_entry_171 rfl (lv_at hl 0 rfl) ?_
                                refine dk_get (a := h) (v := .ref D.od) (C := kn_M) (T := kt_M) (N := 22) hx hb hts ki_M hown hK hP hh_7851 rfl 14 (by decide) (hts _ wi_728) (fun _ h9 => h9) rfl de_M_entry_172 ?_
                                refine lv_iload hx hb de_M_entry_175 (lv_at hl 5 rfl) ?_
                                refine lv_iconst (v := nI 1) hx hb de_M_entry_177 (by decide) ?_
                                refine nx_isub (a := p9) (b := 1) hx hb (by omega) de_M_entry_178 ?_
                                refine dk_iald (a := D.od) hx hb hK hP ha_7858 (p9 - 1) rfl (by omega) (by omega) de_M_entry_179 ?_
                                rw [hga]
                                refine dk_calli (va_runV (As := [.int (nI i), .int (nI a8)]) (rest := []) ⟨hx, hb, hml, hown, hts⟩ (c_M_comesBefore l G v3 h D ((μ.er' 0).od' g2) hmv3 hmo3 i a8 (by omega) (by omega)) (cwV 2 hts (wd_gV (C := "RunKeeperModel") wi_910 wi_907 wi_909 (wd_p (q := (⟨"RunKeeperModel", "comesBefore", "(II)Z"⟩, 22)) (by decide +kernel) (by decide +kernel)) wi_8) rfl rfl rfl (by decide +kernel) ⟨Nat.le_of_ble_eq_true rfl, Nat.le_of_ble_eq_true rfl⟩) (dk_preV (kn_M, kt_M, 22) hE hP hS hh_7851 rfl) rfl rfl hl.1 rfl (lv_room (Nat.le_of_ble_eq_true rfl)) de_M_entry_180 ⟨(by first | exact Nat.le_of_ble_eq_true rfl | (simp only [Nat.zero_add]; omega) | omega), (by first | exact Nat.le_of_ble_eq_true rfl | (simp only [Nat.zero_add]; omega) | omega)⟩) hS (fun r_7887 w_7885 H locs hq_7886 hP hS => ?_)
                                obtain ⟨hr_7888, he_7889⟩ := hq_7886
                                subst hr_7888
                                rw [he_7889] at hP
                                refine bo_if_eq (b := (en_b (me_e μ i) (me_e μ a8))) (tgt := 208) hx hb de_M_entry_183 (by decide) (fun c_7890 => ?_) (fun c_7890 => ?_)
                                · have e5 : en_b (me_e μ i) y8 = false := by rw [← hy7]; exact c_7890
                                  refine lv_aload_n hx hb de_M_entry_208 rfl (lv_at hl 0 rfl) ?_
                                  refine dk_get (a := h) (v := .ref D.od) (C := kn_M) (T := kt_M) (N := 22) hx hb hts ki_M hown hK hP hh_7851 rfl 14 (by decide) (hts _ wi_728) (fun _ h9 => h9) rfl de_M_entry_209 ?_
                                  refine lv_iload hx hb de_M_entry_212 (lv_at hl 5 rfl) ?_
                                  refine lv_iload hx hb de_M_entry_214 (lv_at hl 6 rfl) ?_
                                  refine dk_iast (a := D.od) (x := (nI i)) hx hb hK hP hS ha_7858 p9 rfl (by omega) (by omega) de_M_entry_216 (fun H locs w_7891 hw_7892 hP hS => ?_)
                                  rw [up_nI] at hw_7892
                                  have h_7893 : w_7891 D.od = some (107, dk_ci G 700 (fun i9 => nI ((va_up g2 p9 i) i9))) := dk_here hw_7892
                                  have h_7894 : w_7891 h = some (100, .inr (cx_M, [.int (nI 0), .int (nI μ.n), .int (nI μ.sq), .int (nI μ.sf), .int (nI μ.rs), .int (rI μ.ba), .int (nI μ.pr), .int (nI μ.mi), .ref D.kf, .ref D.nf, .ref D.rf, .ref D.lf, .ref D.sv, .ref D.bk, .ref D.od, .ref D.vf, .ref D.bv, .ref D.df, .ref D.ss, .ref D.bd, .ref D.ks, .ref D.bt])) := dk_keep hw_7892 ha_7858 hh_7851 (by decide)
                                  have h_7895 : w_7891 D.kf = some (101, dk_ci G 700 (fun i9 => nI (μ.kf i9))) := dk_keep hw_7892 ha_7858 ha_7852 (by decide)
                                  have h_7896 : w_7891 D.nf = some (102, dk_ci G 700 (fun i9 => nI (μ.nf i9))) := dk_keep hw_7892 ha_7858 ha_7853 (by decide)
                                  have h_7897 : w_7891 D.rf = some (103, dk_ci G 700 (fun i9 => rI (μ.rf i9))) := dk_keep hw_7892 ha_7858 ha_7854 (by decide)
                                  have h_7898 : w_7891 D.lf = some (104, dk_ci G 5000 (fun i9 => rI (μ.lf i9))) := dk_keep hw_7892 ha_7858 ha_7855 (by decide)
                                  have h_7899 : w_7891 D.sv = some (105, dk_ci G 6 (fun i9 => nI (μ.sv i9))) := dk_keep hw_7892 ha_7858 ha_7856 (by decide)
                                  have h_7900 : w_7891 D.bk = some (106, dk_ci G 16 (fun i9 => nI (μ.bk i9))) := dk_keep hw_7892 ha_7858 ha_7857 (by decide)
                                  have h_7901 : w_7891 D.vf = some (108, dk_cl G 700 (fun i9 => μ.vf i9)) := dk_keep hw_7892 ha_7858 ha_7859 (by decide)
                                  have h_7902 : w_7891 D.bv = some (109, dk_cl G 16 (fun i9 => μ.bv i9)) := dk_keep hw_7892 ha_7858 ha_7860 (by decide)
                                  have h_7903 : w_7891 D.df = some (110, dk_cz G 700 (fun i9 => bo_i (μ.df i9))) := dk_keep hw_7892 ha_7858 ha_7861 (by decide)
                                  have h_7904 : w_7891 D.ss = some (111, dk_cz G 6 (fun i9 => bo_i (μ.ss i9))) := dk_keep hw_7892 ha_7858 ha_7862 (by decide)
                                  have h_7905 : w_7891 D.bd = some (112, dk_cz G 16 (fun i9 => bo_i (μ.bd i9))) := dk_keep hw_7892 ha_7858 ha_7863 (by decide)
                                  have h_7906 : w_7891 D.ks = some (113, dk_cz G 700 (fun i9 => bo_i (μ.ks i9))) := dk_keep hw_7892 ha_7858 ha_7864 (by decide)
                                  have h_7907 : w_7891 D.bt = some (114, dk_cz G 6000 (fun i9 => bo_i (μ.bt i9))) := dk_keep hw_7892 ha_7858 ha_7865 (by decide)
                                  refine lv_iinc (v := nI (i + 1)) (lv' := [(8, .int (nI (i + 1))), (0, .ref h), (3, .int (nI k)), (4, .int (nI 0)), (5, .int (nI d0)), (6, .int (nI (mm + 1))), (7, .int (nI p9))]) hx hb de_M_entry_217 hl (k := 6) rfl (nx_inc i) (by decide) rfl (fun ls hl => ?_)
                                  refine lv_goto (tgt := 132) hx hb de_M_entry_220 (by decide) ?_
                                  have hm_7908 : md_at G w_7891 h D (((μ.er' 0).od' g2).od' (va_up g2 p9 i)) := ⟨h_7894, h_7895, h_7896, h_7897, h_7898, h_7899, h_7900, h_7893, h_7901, h_7902, h_7903, h_7904, h_7905, h_7906, h_7907⟩
                                  have hso : so_n (me_e μ i) (so_st (en_r μ d0 i)) = p9 := so_n_of _ _ p9 (by rw [hlen]; exact hp9) hal (fun y h0 hy => by rw [hp8, Nat.add_sub_cancel, hy8] at hy; cases hy; exact e5)
                                  have hra2 := os_done hlen hs2 hso (c_7849)
                                  replace hl : lv_has ls 9 [(8, .int (nI (i + 1))), (0, .ref h), (3, .int (nI k)), (4, .int (nI 0)), (5, .int (nI d0)), (6, .int (nI (ct_f (fun k9 => decide (μ.rf k9 = some d0)) (i + 1)))), (7, .int (nI p9))] := by rw [ct_y (p := fun k9 => decide (μ.rf k9 = some d0)) (decide_eq_true e7), ← hmm]; exact hl
                                  exact ih2 (i + 1) (va_up g2 p9 i) (by omega) (by omega) (by rw [en_ry e7, so_snoc]; exact hra2) _ _ _ hm_7908 (hg3.tr ((dk_fr.rf).tr ((dk_fr.up (T := md_T) ha_7858 (by unfold md_T; omega)).eq hw_7892))) hP hS _ (lv_sub hl [1, 2, 3, 4, 5, 0] rfl)
                                · have e5 : en_b (me_e μ i) y8 = true := by rw [← hy7]; exact c_7890
                                  refine lv_aload_n hx hb de_M_entry_186 rfl (lv_at hl 0 rfl) ?_
                                  refine dk_get (a := h) (v := .ref D.od) (C := kn_M) (T := kt_M) (N := 22) hx hb hts ki_M hown hK hP hh_7851 rfl 14 (by decide) (hts _ wi_728) (fun _ h9 => h9) rfl de_M_entry_187 ?_
                                  refine lv_iload hx hb de_M_entry_190 (lv_at hl 5 rfl) ?_
                                  refine lv_aload_n hx hb de_M_entry_192 rfl (lv_at hl 0 rfl) ?_
                                  refine dk_get (a := h) (v := .ref D.od) (C := kn_M) (T := kt_M) (N := 22) hx hb hts ki_M hown hK hP hh_7851 rfl 14 (by decide) (hts _ wi_728) (fun _ h9 => h9) rfl de_M_entry_193 ?_
                                  refine lv_iload hx hb de_M_entry_196 (lv_at hl 5 rfl) ?_
                                  refine lv_iconst (v := nI 1) hx hb de_M_entry_198 (by decide) ?_
                                  refine nx_isub (a := p9) (b := 1) hx hb (by omega) de_M_entry_199 ?_
                                  refine dk_iald (a := D.od) hx hb hK hP ha_7858 (p9 - 1) rfl (by omega) (by omega) de_M_entry_200 ?_
                                  rw [hga]
                                  refine dk_iast (a := D.od) (x := (nI a8)) hx hb hK hP hS ha_7858 p9 rfl (by omega) (by omega) de_M_entry_201 (fun H locs w_7909 hw_7910 hP hS => ?_)
                                  rw [up_nI] at hw_7910
                                  have h_7911 : w_7909 D.od = some (107, dk_ci G 700 (fun i9 => nI ((va_up g2 p9 a8) i9))) := dk_here hw_7910
                                  have h_7912 : w_7909 h = some (100, .inr (cx_M, [.int (nI 0), .int (nI μ.n), .int (nI μ.sq), .int (nI μ.sf), .int (nI μ.rs), .int (rI μ.ba), .int (nI μ.pr), .int (nI μ.mi), .ref D.kf, .ref D.nf, .ref D.rf, .ref D.lf, .ref D.sv, .ref D.bk, .ref D.od, .ref D.vf, .ref D.bv, .ref D.df, .ref D.ss, .ref D.bd, .ref D.ks, .ref D.bt])) := dk_keep hw_7910 ha_7858 hh_7851 (by decide)
                                  have h_7913 : w_7909 D.kf = some (101, dk_ci G 700 (fun i9 => nI (μ.kf i9))) := dk_keep hw_7910 ha_7858 ha_7852 (by decide)
                                  have h_7914 : w_7909 D.nf = some (102, dk_ci G 700 (fun i9 => nI (μ.nf i9))) := dk_keep hw_7910 ha_7858 ha_7853 (by decide)
                                  have h_7915 : w_7909 D.rf = some (103, dk_ci G 700 (fun i9 => rI (μ.rf i9))) := dk_keep hw_7910 ha_7858 ha_7854 (by decide)
                                  have h_7916 : w_7909 D.lf = some (104, dk_ci G 5000 (fun i9 => rI (μ.lf i9))) := dk_keep hw_7910 ha_7858 ha_7855 (by decide)
                                  have h_7917 : w_7909 D.sv = some (105, dk_ci G 6 (fun i9 => nI (μ.sv i9))) := dk_keep hw_7910 ha_7858 ha_7856 (by decide)
                                  have h_7918 : w_7909 D.bk = some (106, dk_ci G 16 (fun i9 => nI (μ.bk i9))) := dk_keep hw_7910 ha_7858 ha_7857 (by decide)
                                  have h_7919 : w_7909 D.vf = some (108, dk_cl G 700 (fun i9 => μ.vf i9)) := dk_keep hw_7910 ha_7858 ha_7859 (by decide)
                                  have h_7920 : w_7909 D.bv = some (109, dk_cl G 16 (fun i9 => μ.bv i9)) := dk_keep hw_7910 ha_7858 ha_7860 (by decide)
                                  have h_7921 : w_7909 D.df = some (110, dk_cz G 700 (fun i9 => bo_i (μ.df i9))) := dk_keep hw_7910 ha_7858 ha_7861 (by decide)
                                  have h_7922 : w_7909 D.ss = some (111, dk_cz G 6 (fun i9 => bo_i (μ.ss i9))) := dk_keep hw_7910 ha_7858 ha_7862 (by decide)
                                  have h_7923 : w_7909 D.bd = some (112, dk_cz G 16 (fun i9 => bo_i (μ.bd i9))) := dk_keep hw_7910 ha_7858 ha_7863 (by decide)
                                  have h_7924 : w_7909 D.ks = some (113, dk_cz G 700 (fun i9 => bo_i (μ.ks i9))) := dk_keep hw_7910 ha_7858 ha_7864 (by decide)
                                  have h_7925 : w_7909 D.bt = some (114, dk_cz G 6000 (fun i9 => bo_i (μ.bt i9))) := dk_keep hw_7910 ha_7858 ha_7865 (by decide)
                                  have hm_7926 : md_at G w_7909 h D (((μ.er' 0).od' g2).od' (va_up g2 p9 a8)) := ⟨h_7912, h_7913, h_7914, h_7915, h_7916, h_7917, h_7918, h_7911, h_7919, h_7920, h_7921, h_7922, h_7923, h_7924, h_7925⟩
                                  refine lv_iinc (v := nI (p9 - 1)) (lv' := [(7, .int (nI (p9 - 1))), (0, .ref h), (3, .int (nI k)), (4, .int (nI 0)), (5, .int (nI d0)), (6, .int (nI (mm + 1))), (8, .int (nI i))]) hx hb de_M_entry_202 hl (k := 5) rfl (nx_dec (by omega)) (by decide) rfl (fun ls hl => ?_)
                                  refine lv_goto (tgt := 163) hx hb de_M_entry_205 (by decide) ?_
                                  exact ih3 (p9 - 1) (va_up g2 p9 a8) (by omega) (by omega) (os_al hp8 hal hy8 e5) (os_st hp8 hs2 hga) _ _ _ hm_7926 (hg3.tr ((dk_fr.rf).tr ((dk_fr.up (T := md_T) ha_7858 (by unfold md_T; omega)).eq hw_7910))) hP hS _ (lv_sub hl [1, 2, 3, 4, 5, 0, 6] rfl)
                          exact lp3 (mm + 1) mm g (by omega) (Nat.le_refl _) (fun j z hj hz => absurd (List.getElem?_eq_some_iff.mp hz).1 (by omega)) hsh _ _ _ hmv hg hP hS _ (lv_sub hl [2, 3, 4, 5, 1, 0, 6] rfl)
                        · have e7 : ¬ μ.rf i = some d0 := fun z => c_7850 (hreq.mpr z)
                          refine lv_goto (tgt := 217) hx hb de_M_entry_153 (by decide) ?_
                          refine lv_iinc (v := nI (i + 1)) (lv' := [(8, .int (nI (i + 1))), (0, .ref h), (3, .int (nI k)), (4, .int (nI 0)), (5, .int (nI d0)), (6, .int (nI (ct_f (fun k9 => decide (μ.rf k9 = some d0)) i)))]) hx hb de_M_entry_217 hl (k := 5) rfl (nx_inc i) (by decide) rfl (fun ls hl => ?_)
                          refine lv_goto (tgt := 132) hx hb de_M_entry_220 (by decide) ?_
                          replace hl : lv_has ls 9 [(8, .int (nI (i + 1))), (0, .ref h), (3, .int (nI k)), (4, .int (nI 0)), (5, .int (nI d0)), (6, .int (nI (ct_f (fun k9 => decide (μ.rf k9 = some d0)) (i + 1))))] := by rw [ct_n (p := fun k9 => decide (μ.rf k9 = some d0)) (decide_eq_false e7)]; exact hl
                          exact ih2 (i + 1) g (by omega) (by omega) (by rw [en_rn e7]; exact hra) _ _ _ hmv hg hP hS _ (lv_sub hl [1, 2, 3, 4, 5, 0] rfl)
                  exact lp2 (μ.n + 1) 0 μ.od (by omega) (Nat.zero_le _) ra_ok.nil _ _ _ hm_7817 ((((dk_fr.rf).tr ((dk_fr.up (T := md_T) hh_7727 (by unfold md_T; omega)).eq hw_7729)).tr (hf_7778)).tr (hf_7816)) hP hS _ (lv_sub hl [2, 5, 6, 7, 1, 0] rfl)
                · exact absurd c_7833 (by decide)
              · exact absurd c_7810 (by decide)
            · refine lv_aload_n hx hb de_M_entry_60 rfl (lv_at hl 0 rfl) ?_
              refine dk_get (a := h) (v := .ref D.lf) (C := kn_M) (T := kt_M) (N := 22) hx hb hts ki_M hown hK hP hh_7780 rfl 11 (by decide) (hts _ wi_725) (fun _ h9 => h9) rfl de_M_entry_61 ?_
              refine lv_iload hx hb de_M_entry_64 (lv_at hl 8 rfl) ?_
              refine dk_iald (a := D.lf) hx hb hK hP ha_7784 j rfl (by omega) (by omega) de_M_entry_66 ?_
              refine lv_iload_n hx hb de_M_entry_67 rfl (lv_at hl 1 rfl) ?_
              refine lv_icmp_ne (tgt := 84) hx hb de_M_entry_68 (by decide) (fun c_7797 => ?_) (fun c_7797 => ?_)
              · refine lv_iinc (v := nI (j + 1)) (lv' := [(8, .int (nI (j + 1))), (0, .ref h), (1, .int (nI l9)), (2, .int r9), (3, .int (nI k)), (4, .int (nI 0)), (5, .int (rI o)), (6, .int (nI m9)), (7, .int (nI 0))]) hx hb de_M_entry_84 hl (k := 8) rfl (nx_inc j) (by decide) rfl (fun ls hl => ?_)
                refine lv_goto (tgt := 51) hx hb de_M_entry_87 (by decide) ?_
                exact ih (j + 1) o m9 (by omega) (by omega) (by rw [id_n hid (fun z => c_7797 (hleq.mpr z))]) (by omega) _ (lv_sub hl [1, 2, 3, 4, 5, 6, 7, 8, 0] rfl)
              · refine lv_iload hx hb de_M_entry_71 (lv_at hl 6 rfl) ?_
                refine lv_iinc (v := nI (m9 + 1)) (lv' := [(6, .int (nI (m9 + 1))), (0, .ref h), (1, .int (nI l9)), (2, .int r9), (3, .int (nI k)), (4, .int (nI 0)), (5, .int (rI o)), (7, .int (nI 0)), (8, .int (nI j))]) hx hb de_M_entry_73 hl (k := 6) rfl (nx_inc m9) (by decide) rfl (fun ls hl => ?_)
                refine lv_iload_n hx hb de_M_entry_76 rfl (lv_at hl 3 rfl) ?_
                refine lv_icmp_ne (tgt := 84) hx hb de_M_entry_77 (by decide) (fun c_7798 => ?_) (fun c_7798 => ?_)
                · refine lv_iinc (v := nI (j + 1)) (lv' := [(8, .int (nI (j + 1))), (6, .int (nI (m9 + 1))), (0, .ref h), (1, .int (nI l9)), (2, .int r9), (3, .int (nI k)), (4, .int (nI 0)), (5, .int (rI o)), (7, .int (nI 0))]) hx hb de_M_entry_84 hl (k := 8) rfl (nx_inc j) (by decide) rfl (fun ls hl => ?_)
                  refine lv_goto (tgt := 51) hx hb de_M_entry_87 (by decide) ?_
                  exact ih (j + 1) o (m9 + 1) (by omega) (by omega) (by rw [id_o hid (hleq.mp c_7797) c_7798]) (by omega) _ (lv_sub hl [2, 3, 4, 5, 6, 7, 1, 8, 0] rfl)
                · refine lv_iload hx hb de_M_entry_80 (lv_at hl 8 rfl) ?_
                  refine lv_istore (lv' := [(5, .int (nI j)), (6, .int (nI (m9 + 1))), (0, .ref h), (1, .int (nI l9)), (2, .int r9), (3, .int (nI k)), (4, .int (nI 0)), (7, .int (nI 0)), (8, .int (nI j))]) hx hb de_M_entry_82 hl (by decide) rfl (fun ls hl => ?_)
                  refine lv_iinc (v := nI (j + 1)) (lv' := [(8, .int (nI (j + 1))), (5, .int (nI j)), (6, .int (nI (m9 + 1))), (0, .ref h), (1, .int (nI l9)), (2, .int r9), (3, .int (nI k)), (4, .int (nI 0)), (7, .int (nI 0))]) hx hb de_M_entry_84 hl (k := 8) rfl (nx_inc j) (by decide) rfl (fun ls hl => ?_)
                  refine lv_goto (tgt := 51) hx hb de_M_entry_87 (by decide) ?_
                  exact ih (j + 1) (some j) (m9 + 1) (by omega) (by omega) (by rw [id_y hid (hleq.mp c_7797) c_7798]) (by omega) _ (lv_sub hl [3, 4, 5, 6, 7, 1, 2, 8, 0] rfl)
        exact lp (μ.rs + 1) 0 none 0 (by omega) (Nat.zero_le _) rfl (by omega) _ (lv_sub hl [4, 5, 6, 7, 8, 3, 2, 1, 0] rfl)
      · exact absurd c_7795 (by decide)
    · exact absurd c_7772 (by decide)
set_option maxHeartbeats 4000000 in
set_option maxRecDepth 100000 in
theorem c_M_entryS1 (l : Launch) (G : dk_G) (w : dk_H) (h : Nat) (D : md_D) (μ : md_S) (hm : md_at G w h D μ) (hmo : md_ok μ) (l9 k : Nat) (r9 : Int32) (hl9 : l9 < 6) (d0 : Nat) (hn : (id_f μ l9 r9 μ.rs).1 = some d0) (hd0 : d0 < 5000) (x9 : en_T) (hx9 : (so_st (en_r μ d0 μ.n))[k]? = some x9) : dk_Mi l my_M_entry (wd_c my_M_entry mb_M_entry 9 (some .int)) rm_M_entry G w [.ref h, .int (nI l9), .int r9, .int (nI k), .int (nI 1)] (fun r w1 => r = nI x9.2.1 ∧ (∃ g, md_at G w1 h D ((μ.er' 0).od' g)) ∧ dk_fr md_T w w1) 0 0 := by
  obtain ⟨ok1, ok2, ok3, ok4, ok5, ok6, ok7, ok8, ok9, ok10, ok11⟩ := id hmo
  have hkl : k < (ct_f (fun k9 => decide (μ.rf k9 = some d0)) μ.n) := by have := (List.getElem?_eq_some_iff.mp hx9).1; rw [so_st_len, en_r_len] at this; exact this
  have hcl := ct_le (fun k9 => decide (μ.rf k9 = some d0)) μ.n
  refine dk_enter (lv := [(0, .ref h), (1, .int (nI l9)), (2, .int r9), (3, .int (nI k)), (4, .int (nI 1))]) (by decide) (Nat.le_of_ble_eq_true rfl) rfl (fun p e s m args below meth c ls Q hQ C hP hS hl => ?_)
  obtain ⟨hx, hb, hr, hml, hlocks, hown, hnm, hts, hE⟩ := C
  have hK := hE.1
  have hN := hE.2.1
  have hh_7928 : w h = some (100, .inr (cx_M, [.int (nI μ.er), .int (nI μ.n), .int (nI μ.sq), .int (nI μ.sf), .int (nI μ.rs), .int (rI μ.ba), .int (nI μ.pr), .int (nI μ.mi), .ref D.kf, .ref D.nf, .ref D.rf, .ref D.lf, .ref D.sv, .ref D.bk, .ref D.od, .ref D.vf, .ref D.bv, .ref D.df, .ref D.ss, .ref D.bd, .ref D.ks, .ref D.bt])) := hm.o
  refine lv_aload_n hx hb de_M_entry_0 rfl (lv_at hl 0 rfl) ?_
  refine lv_iconst (v := nI 0) hx hb de_M_entry_1 (by decide) ?_
  refine dk_put (a := h) (v := .int (nI 0)) (ty := .int) (C := kn_M) (T := kt_M) (N := 22) hx hb hts ki_M ky_M kk_M kd_M hown hK hP hS hh_7928 rfl 0 (by decide) (hts _ wi_714) (fun _ h9 => h9) rfl (by decide +kernel) rfl rfl (Nat.le_of_ble_eq_true rfl) de_M_entry_2 (fun H locs w_7929 hw_7930 hP hS => ?_)
  have h_7931 : w_7929 h = some (100, .inr (cx_M, [.int (nI 0), .int (nI μ.n), .int (nI μ.sq), .int (nI μ.sf), .int (nI μ.rs), .int (rI μ.ba), .int (nI μ.pr), .int (nI μ.mi), .ref D.kf, .ref D.nf, .ref D.rf, .ref D.lf, .ref D.sv, .ref D.bk, .ref D.od, .ref D.vf, .ref D.bv, .ref D.df, .ref D.ss, .ref D.bd, .ref D.ks, .ref D.bt])) := dk_here hw_7930
  have h_7932 : w_7929 D.kf = some (101, dk_ci G 700 (fun i9 => nI (μ.kf i9))) := dk_keep hw_7930 hh_7928 hm.kf (by decide)
  have h_7933 : w_7929 D.nf = some (102, dk_ci G 700 (fun i9 => nI (μ.nf i9))) := dk_keep hw_7930 hh_7928 hm.nf (by decide)
  have h_7934 : w_7929 D.rf = some (103, dk_ci G 700 (fun i9 => rI (μ.rf i9))) := dk_keep hw_7930 hh_7928 hm.rf (by decide)
  have h_7935 : w_7929 D.lf = some (104, dk_ci G 5000 (fun i9 => rI (μ.lf i9))) := dk_keep hw_7930 hh_7928 hm.lf (by decide)
  have h_7936 : w_7929 D.sv = some (105, dk_ci G 6 (fun i9 => nI (μ.sv i9))) := dk_keep hw_7930 hh_7928 hm.sv (by decide)
  have h_7937 : w_7929 D.bk = some (106, dk_ci G 16 (fun i9 => nI (μ.bk i9))) := dk_keep hw_7930 hh_7928 hm.bk (by decide)
  have h_7938 : w_7929 D.od = some (107, dk_ci G 700 (fun i9 => nI (μ.od i9))) := dk_keep hw_7930 hh_7928 hm.od (by decide)
  have h_7939 : w_7929 D.vf = some (108, dk_cl G 700 (fun i9 => μ.vf i9)) := dk_keep hw_7930 hh_7928 hm.vf (by decide)
  have h_7940 : w_7929 D.bv = some (109, dk_cl G 16 (fun i9 => μ.bv i9)) := dk_keep hw_7930 hh_7928 hm.bv (by decide)
  have h_7941 : w_7929 D.df = some (110, dk_cz G 700 (fun i9 => bo_i (μ.df i9))) := dk_keep hw_7930 hh_7928 hm.df (by decide)
  have h_7942 : w_7929 D.ss = some (111, dk_cz G 6 (fun i9 => bo_i (μ.ss i9))) := dk_keep hw_7930 hh_7928 hm.ss (by decide)
  have h_7943 : w_7929 D.bd = some (112, dk_cz G 16 (fun i9 => bo_i (μ.bd i9))) := dk_keep hw_7930 hh_7928 hm.bd (by decide)
  have h_7944 : w_7929 D.ks = some (113, dk_cz G 700 (fun i9 => bo_i (μ.ks i9))) := dk_keep hw_7930 hh_7928 hm.ks (by decide)
  have h_7945 : w_7929 D.bt = some (114, dk_cz G 6000 (fun i9 => bo_i (μ.bt i9))) := dk_keep hw_7930 hh_7928 hm.bt (by decide)
  have hm_7946 : md_at G w_7929 h D (μ.er' 0) := ⟨h_7931, h_7932, h_7933, h_7934, h_7935, h_7936, h_7937, h_7938, h_7939, h_7940, h_7941, h_7942, h_7943, h_7944, h_7945⟩
  have hh_7947 : w_7929 h = some (100, .inr (cx_M, [.int (nI 0), .int (nI μ.n), .int (nI μ.sq), .int (nI μ.sf), .int (nI μ.rs), .int (rI μ.ba), .int (nI μ.pr), .int (nI μ.mi), .ref D.kf, .ref D.nf, .ref D.rf, .ref D.lf, .ref D.sv, .ref D.bk, .ref D.od, .ref D.vf, .ref D.bv, .ref D.df, .ref D.ss, .ref D.bd, .ref D.ks, .ref D.bt])) := hm_7946.o
  have ha_7948 : w_7929 D.kf = some (101, dk_ci G 700 (fun i9 => nI (μ.kf i9))) := hm_7946.kf
  have ha_7949 : w_7929 D.nf = some (102, dk_ci G 700 (fun i9 => nI (μ.nf i9))) := hm_7946.nf
  have ha_7950 : w_7929 D.rf = some (103, dk_ci G 700 (fun i9 => rI (μ.rf i9))) := hm_7946.rf
  have ha_7951 : w_7929 D.lf = some (104, dk_ci G 5000 (fun i9 => rI (μ.lf i9))) := hm_7946.lf
  have ha_7952 : w_7929 D.sv = some (105, dk_ci G 6 (fun i9 => nI (μ.sv i9))) := hm_7946.sv
  have ha_7953 : w_7929 D.bk = some (106, dk_ci G 16 (fun i9 => nI (μ.bk i9))) := hm_7946.bk
  have ha_7954 : w_7929 D.od = some (107, dk_ci G 700 (fun i9 => nI (μ.od i9))) := hm_7946.od
  have ha_7955 : w_7929 D.vf = some (108, dk_cl G 700 (fun i9 => μ.vf i9)) := hm_7946.vf
  have ha_7956 : w_7929 D.bv = some (109, dk_cl G 16 (fun i9 => μ.bv i9)) := hm_7946.bv
  have ha_7957 : w_7929 D.df = some (110, dk_cz G 700 (fun i9 => bo_i (μ.df i9))) := hm_7946.df
  have ha_7958 : w_7929 D.ss = some (111, dk_cz G 6 (fun i9 => bo_i (μ.ss i9))) := hm_7946.ss
  have ha_7959 : w_7929 D.bd = some (112, dk_cz G 16 (fun i9 => bo_i (μ.bd i9))) := hm_7946.bd
  have ha_7960 : w_7929 D.ks = some (113, dk_cz G 700 (fun i9 => bo_i (μ.ks i9))) := hm_7946.ks
  have ha_7961 : w_7929 D.bt = some (114, dk_cz G 6000 (fun i9 => bo_i (μ.bt i9))) := hm_7946.bt
  refine lv_aload_n hx hb de_M_entry_5 rfl (lv_at hl 0 rfl) ?_
  refine lv_iload_n hx hb de_M_entry_6 rfl (lv_at hl 1 rfl) ?_
  refine lv_iconst (v := nI 0) hx hb de_M_entry_7 (by decide) ?_
  refine lv_iconst (v := nI 5) hx hb de_M_entry_8 (by decide) ?_
  refine dk_calli (va_runS (As := [.int (nI l9), .int (nI 0), .int (nI 5)]) (rest := [.ref h]) ⟨hx, hb, hml, hown, hts⟩ (c_M_in l G w_7929 (nI l9) (nI 0) (nI 5)) (va_cwS 3 hts (wd_gS wi_795 wi_793 wi_794 wi_8) rfl rfl rfl (by decide +kernel) ⟨Nat.le_of_ble_eq_true rfl, Nat.le_of_ble_eq_true rfl⟩) (dk_preS hE hP hS) rfl rfl hl.1 rfl (lv_room (Nat.le_of_ble_eq_true rfl)) de_M_entry_9 ⟨(by first | exact Nat.le_of_ble_eq_true rfl | (simp only [Nat.zero_add]; omega) | omega), (by first | exact Nat.le_of_ble_eq_true rfl | (simp only [Nat.zero_add]; omega) | omega)⟩) hS (fun r_7964 w_7962 H locs hq_7963 hP hS => ?_)
  rw [im_y (by decide) (by omega)] at hq_7963
  obtain ⟨hr_7965, he_7966⟩ := hq_7963
  subst hr_7965
  rw [he_7966] at hP
  refine bo_if_eq (b := true) (tgt := 25) hx hb de_M_entry_12 (by decide) (fun c_7967 => ?_) (fun c_7967 => ?_)
  · exact absurd c_7967 (by decide)
  · refine lv_iload hx hb de_M_entry_15 (lv_at hl 4 rfl) ?_
    refine lv_iconst (v := nI 0) hx hb de_M_entry_17 (by decide) ?_
    refine lv_iconst (v := nI 2) hx hb de_M_entry_18 (by decide) ?_
    refine dk_calli (va_runS (As := [.int (nI 1), .int (nI 0), .int (nI 2)]) (rest := [.ref h]) ⟨hx, hb, hml, hown, hts⟩ (c_M_in l G w_7929 (nI 1) (nI 0) (nI 2)) (va_cwS 3 hts (wd_gS wi_795 wi_793 wi_794 wi_8) rfl rfl rfl (by decide +kernel) ⟨Nat.le_of_ble_eq_true rfl, Nat.le_of_ble_eq_true rfl⟩) (dk_preS hE hP hS) rfl rfl hl.1 rfl (lv_room (Nat.le_of_ble_eq_true rfl)) de_M_entry_19 ⟨(by first | exact Nat.le_of_ble_eq_true rfl | (simp only [Nat.zero_add]; omega) | omega), (by first | exact Nat.le_of_ble_eq_true rfl | (simp only [Nat.zero_add]; omega) | omega)⟩) hS (fun r_7970 w_7968 H locs hq_7969 hP hS => ?_)
    rw [im_y (by decide) (by omega)] at hq_7969
    obtain ⟨hr_7971, he_7972⟩ := hq_7969
    subst hr_7971
    rw [he_7972] at hP
    refine bo_if_ne (b := true) (tgt := 29) hx hb de_M_entry_22 (by decide) (fun c_7973 => ?_) (fun c_7973 => ?_)
    · refine lv_iconst (v := nI 0) hx hb de_M_entry_29 (by decide) ?_
      refine lv_iconst (v := nI 1) hx hb de_M_entry_30 (by decide) ?_
      rw [show (nI 0) = bo_i false from (by decide)]
      refine dk_calli (va_runV (As := [.int (bo_i false), .int (nI 1)]) (rest := []) ⟨hx, hb, hml, hown, hts⟩ (c_M_fails l G w_7929 h D (μ.er' 0) hm_7946 false 1 (by decide) (by decide) (show (0 : Nat) < 3 by decide)) (cwV 2 hts (wd_gV (C := "RunKeeperModel") wi_799 wi_796 wi_798 (wd_p (q := (⟨"RunKeeperModel", "fails", "(ZI)Z"⟩, 22)) (by decide +kernel) (by decide +kernel)) wi_8) rfl rfl rfl (by decide +kernel) ⟨Nat.le_of_ble_eq_true rfl, Nat.le_of_ble_eq_true rfl⟩) (dk_preV (kn_M, kt_M, 22) hE hP hS hh_7947 rfl) rfl rfl hl.1 rfl (lv_room (Nat.le_of_ble_eq_true rfl)) de_M_entry_31 ⟨(by first | exact Nat.le_of_ble_eq_true rfl | (simp only [Nat.zero_add]; omega) | omega), (by first | exact Nat.le_of_ble_eq_true rfl | (simp only [Nat.zero_add]; omega) | omega)⟩) hS (fun r_7976 w_7974 H locs hq_7975 hP hS => ?_)
      obtain ⟨hr_7977, hq_7978, hf_7979⟩ := hq_7975
      subst hr_7977
      have hm_7980 : md_at G w_7974 h D ((μ.er' 0).er' 0) := hq_7978
      have hh_7981 : w_7974 h = some (100, .inr (cx_M, [.int (nI 0), .int (nI μ.n), .int (nI μ.sq), .int (nI μ.sf), .int (nI μ.rs), .int (rI μ.ba), .int (nI μ.pr), .int (nI μ.mi), .ref D.kf, .ref D.nf, .ref D.rf, .ref D.lf, .ref D.sv, .ref D.bk, .ref D.od, .ref D.vf, .ref D.bv, .ref D.df, .ref D.ss, .ref D.bd, .ref D.ks, .ref D.bt])) := hm_7980.o
      have ha_7982 : w_7974 D.kf = some (101, dk_ci G 700 (fun i9 => nI (μ.kf i9))) := hm_7980.kf
      have ha_7983 : w_7974 D.nf = some (102, dk_ci G 700 (fun i9 => nI (μ.nf i9))) := hm_7980.nf
      have ha_7984 : w_7974 D.rf = some (103, dk_ci G 700 (fun i9 => rI (μ.rf i9))) := hm_7980.rf
      have ha_7985 : w_7974 D.lf = some (104, dk_ci G 5000 (fun i9 => rI (μ.lf i9))) := hm_7980.lf
      have ha_7986 : w_7974 D.sv = some (105, dk_ci G 6 (fun i9 => nI (μ.sv i9))) := hm_7980.sv
      have ha_7987 : w_7974 D.bk = some (106, dk_ci G 16 (fun i9 => nI (μ.bk i9))) := hm_7980.bk
      have ha_7988 : w_7974 D.od = some (107, dk_ci G 700 (fun i9 => nI (μ.od i9))) := hm_7980.od
      have ha_7989 : w_7974 D.vf = some (108, dk_cl G 700 (fun i9 => μ.vf i9)) := hm_7980.vf
      have ha_7990 : w_7974 D.bv = some (109, dk_cl G 16 (fun i9 => μ.bv i9)) := hm_7980.bv
      have ha_7991 : w_7974 D.df = some (110, dk_cz G 700 (fun i9 => bo_i (μ.df i9))) := hm_7980.df
      have ha_7992 : w_7974 D.ss = some (111, dk_cz G 6 (fun i9 => bo_i (μ.ss i9))) := hm_7980.ss
      have ha_7993 : w_7974 D.bd = some (112, dk_cz G 16 (fun i9 => bo_i (μ.bd i9))) := hm_7980.bd
      have ha_7994 : w_7974 D.ks = some (113, dk_cz G 700 (fun i9 => bo_i (μ.ks i9))) := hm_7980.ks
      have ha_7995 : w_7974 D.bt = some (114, dk_cz G 6000 (fun i9 => bo_i (μ.bt i9))) := hm_7980.bt
      refine bo_if_eq (b := false) (tgt := 39) hx hb de_M_entry_34 (by decide) (fun c_7996 => ?_) (fun c_7996 => ?_)
      · refine lv_iconst (v := (-1)) hx hb de_M_entry_39 (by decide) ?_
        refine lv_istore (lv' := [(5, .int (-1)), (0, .ref h), (1, .int (nI l9)), (2, .int r9), (3, .int (nI k)), (4, .int (nI 1))]) hx hb de_M_entry_40 hl (by decide) rfl (fun ls hl => ?_)
        refine lv_iconst (v := nI 0) hx hb de_M_entry_42 (by decide) ?_
        refine lv_istore (lv' := [(6, .int (nI 0)), (5, .int (-1)), (0, .ref h), (1, .int (nI l9)), (2, .int r9), (3, .int (nI k)), (4, .int (nI 1))]) hx hb de_M_entry_43 hl (by decide) rfl (fun ls hl => ?_)
        refine lv_iconst (v := nI 0) hx hb de_M_entry_45 (by decide) ?_
        refine lv_istore (lv' := [(7, .int (nI 0)), (6, .int (nI 0)), (5, .int (-1)), (0, .ref h), (1, .int (nI l9)), (2, .int r9), (3, .int (nI k)), (4, .int (nI 1))]) hx hb de_M_entry_46 hl (by decide) rfl (fun ls hl => ?_)
        refine lv_iconst (v := nI 0) hx hb de_M_entry_48 (by decide) ?_
        refine lv_istore (lv' := [(8, .int (nI 0)), (7, .int (nI 0)), (6, .int (nI 0)), (5, .int (-1)), (0, .ref h), (1, .int (nI l9)), (2, .int r9), (3, .int (nI k)), (4, .int (nI 1))]) hx hb de_M_entry_49 hl (by decide) rfl (fun ls hl => ?_)
        replace hl : lv_has ls 9 [(8, .int (nI 0)), (7, .int (nI 0)), (6, .int (nI 0)), (5, .int (rI none)), (0, .ref h), (1, .int (nI l9)), (2, .int r9), (3, .int (nI k)), (4, .int (nI 1))] := hl
        have lp : ∀ (zk : Nat) (j : Nat) (o : Option Nat) (m9 : Nat), μ.rs - j < zk → (j ≤ μ.rs) → (id_f μ l9 r9 j = (o, m9)) → (m9 ≤ j) → ∀ (ls : Array Slot), lv_has ls 9 [(0, .ref h), (1, .int (nI l9)), (2, .int r9), (3, .int (nI k)), (4, .int (nI 1)), (5, .int (rI o)), (6, .int (nI m9)), (7, .int (nI 0)), (8, .int (nI j))] → W p l e rm_M_entry s m args below meth c H locs (0 + 0 + 0 + 0) (0 + 0 + 0 + 0) Q (F0 m 51 ls []) := by
          intro zk
          induction zk with
          | zero =>
            intro j o m9 hk
            exact absurd hk (by omega)
          | succ zk ih =>
            intro j o m9 hk hj hid hm9
            intro ls hl
            have hleq := rI_eq (a := μ.lf j) (b := some l9) (fun r hr => by have := ok4 j r hr; omega) (fun r hr => by cases hr; omega)
            refine lv_iload hx hb de_M_entry_51 (lv_at hl 8 rfl) ?_
            refine lv_aload_n hx hb de_M_entry_53 rfl (lv_at hl 0 rfl) ?_
            refine dk_get (a := h) (v := .int (nI μ.rs)) (C := kn_M) (T := kt_M) (N := 22) hx hb hts ki_M hown hK hP hh_7981 rfl 4 (by decide) (hts _ wi_718) (fun _ h9 => h9) rfl de_M_entry_54 ?_
            refine nx_icmp_ge (a := j) (b := μ.rs) (tgt := 90) hx hb (by omega) (by omega) de_M_entry_57 (by decide) (fun c_7997 => ?_) (fun c_7997 => ?_)
            · have e9 : j = μ.rs := by omega
              have hio : id_f μ l9 r9 μ.rs = (o, m9) := by rw [← e9]; exact hid
              have e8 : o = some d0 := by rw [hio] at hn; exact hn
              subst e8
              replace hl : lv_has ls 9 [(0, .ref h), (1, .int (nI l9)), (2, .int r9), (3, .int (nI k)), (4, .int (nI 1)), (5, .int (nI d0)), (6, .int (nI m9)), (7, .int (nI 0)), (8, .int (nI j))] := hl
              refine lv_aload_n hx hb de_M_entry_90 rfl (lv_at hl 0 rfl) ?_
              refine lv_iload hx hb de_M_entry_91 (lv_at hl 5 rfl) ?_
              refine nx_if_lt (a := d0) (tgt := 112) hx hb (by omega) de_M_entry_93 (by decide) ?_
              have hmo2 : md_ok ((μ.er' 0).er' 0) := ⟨ok1, ok2, ok3, ok4, ok5, ok6, ok7, ok8, ok9, ok10, show (0 : Nat) < 3 by decide⟩
              refine lv_iload_n hx hb de_M_entry_96 rfl (lv_at hl 3 rfl) ?_
              refine lv_iconst (v := nI 0) hx hb de_M_entry_97 (by decide) ?_
              refine lv_aload_n hx hb de_M_entry_98 rfl (lv_at hl 0 rfl) ?_
              refine lv_iload hx hb de_M_entry_99 (lv_at hl 5 rfl) ?_
              refine dk_calli (va_runV (As := [.int (nI d0)]) (rest := [.int (nI 0), .int (nI k), .ref h]) ⟨hx, hb, hml, hown, hts⟩ (c_M_inRun l G w_7974 h D ((μ.er' 0).er' 0) hm_7980 hmo2 (some d0) (fun r hr => by cases hr; omega)) (cwV 1 hts (wd_gV (C := "RunKeeperModel") wi_807 wi_804 wi_806 (wd_p (q := (⟨"RunKeeperModel", "inRun", "(I)I"⟩, 22)) (by decide +kernel) (by decide +kernel)) wi_8) rfl rfl rfl (by decide +kernel) ⟨Nat.le_of_ble_eq_true rfl, Nat.le_of_ble_eq_true rfl⟩) (dk_preV (kn_M, kt_M, 22) hE hP hS hh_7981 rfl) rfl rfl hl.1 rfl (lv_room (Nat.le_of_ble_eq_true rfl)) de_M_entry_101 ⟨(by first | exact Nat.le_of_ble_eq_true rfl | (simp only [Nat.zero_add]; omega) | omega), (by first | exact Nat.le_of_ble_eq_true rfl | (simp only [Nat.zero_add]; omega) | omega)⟩) hS (fun r_8003 w_8001 H locs hq_8002 hP hS => ?_)
              obtain ⟨hr_8004, he_8005⟩ := hq_8002
              subst hr_8004
              rw [he_8005] at hP
              refine lv_iconst (v := nI 1) hx hb de_M_entry_104 (by decide) ?_
              refine lv_isub hx hb de_M_entry_105 ?_
              refine dk_calli (va_runS (As := [.int (nI k), .int (nI 0), .int (mI (ct_f (fun k9 => decide (μ.rf k9 = some d0)) μ.n))]) (rest := [.ref h]) ⟨hx, hb, hml, hown, hts⟩ (c_M_in l G w_7974 (nI k) (nI 0) (mI (ct_f (fun k9 => decide (μ.rf k9 = some d0)) μ.n))) (va_cwS 3 hts (wd_gS wi_795 wi_793 wi_794 wi_8) rfl rfl rfl (by decide +kernel) ⟨Nat.le_of_ble_eq_true rfl, Nat.le_of_ble_eq_true rfl⟩) (dk_preS hE hP hS) rfl rfl hl.1 rfl (lv_room (Nat.le_of_ble_eq_true rfl)) de_M_entry_106 ⟨(by first | exact Nat.le_of_ble_eq_true rfl | (simp only [Nat.zero_add]; omega) | omega), (by first | exact Nat.le_of_ble_eq_true rfl | (simp only [Nat.zero_add]; omega) | omega)⟩) hS (fun r_8008 w_8006 H locs hq_8007 hP hS => ?_)
              rw [im_mI (by omega) hkl] at hq_8007
              obtain ⟨hr_8009, he_8010⟩ := hq_8007
              subst hr_8009
              rw [he_8010] at hP
              refine bo_if_ne (b := true) (tgt := 116) hx hb de_M_entry_109 (by decide) (fun c_8011 => ?_) (fun c_8011 => ?_)
              · refine lv_iconst (v := nI 0) hx hb de_M_entry_116 (by decide) ?_
                refine lv_iconst (v := nI 2) hx hb de_M_entry_117 (by decide) ?_
                rw [show (nI 0) = bo_i false from (by decide)]
                refine dk_calli (va_runV (As := [.int (bo_i false), .int (nI 2)]) (rest := []) ⟨hx, hb, hml, hown, hts⟩ (c_M_fails l G w_7974 h D ((μ.er' 0).er' 0) hm_7980 false 2 (by decide) (by decide) (show (0 : Nat) < 3 by decide)) (cwV 2 hts (wd_gV (C := "RunKeeperModel") wi_799 wi_796 wi_798 (wd_p (q := (⟨"RunKeeperModel", "fails", "(ZI)Z"⟩, 22)) (by decide +kernel) (by decide +kernel)) wi_8) rfl rfl rfl (by decide +kernel) ⟨Nat.le_of_ble_eq_true rfl, Nat.le_of_ble_eq_true rfl⟩) (dk_preV (kn_M, kt_M, 22) hE hP hS hh_7981 rfl) rfl rfl hl.1 rfl (lv_room (Nat.le_of_ble_eq_true rfl)) de_M_entry_118 ⟨(by first | exact Nat.le_of_ble_eq_true rfl | (simp only [Nat.zero_add]; omega) | omega), (by first | exact Nat.le_of_ble_eq_true rfl | (simp only [Nat.zero_add]; omega) | omega)⟩) hS (fun r_8014 w_8012 H locs hq_8013 hP hS => ?_)
                obtain ⟨hr_8015, hq_8016, hf_8017⟩ := hq_8013
                subst hr_8015
                have hm_8018 : md_at G w_8012 h D (((μ.er' 0).er' 0).er' 0) := hq_8016
                have hh_8019 : w_8012 h = some (100, .inr (cx_M, [.int (nI 0), .int (nI μ.n), .int (nI μ.sq), .int (nI μ.sf), .int (nI μ.rs), .int (rI μ.ba), .int (nI μ.pr), .int (nI μ.mi), .ref D.kf, .ref D.nf, .ref D.rf, .ref D.lf, .ref D.sv, .ref D.bk, .ref D.od, .ref D.vf, .ref D.bv, .ref D.df, .ref D.ss, .ref D.bd, .ref D.ks, .ref D.bt])) := hm_8018.o
                have ha_8020 : w_8012 D.kf = some (101, dk_ci G 700 (fun i9 => nI (μ.kf i9))) := hm_8018.kf
                have ha_8021 : w_8012 D.nf = some (102, dk_ci G 700 (fun i9 => nI (μ.nf i9))) := hm_8018.nf
                have ha_8022 : w_8012 D.rf = some (103, dk_ci G 700 (fun i9 => rI (μ.rf i9))) := hm_8018.rf
                have ha_8023 : w_8012 D.lf = some (104, dk_ci G 5000 (fun i9 => rI (μ.lf i9))) := hm_8018.lf
                have ha_8024 : w_8012 D.sv = some (105, dk_ci G 6 (fun i9 => nI (μ.sv i9))) := hm_8018.sv
                have ha_8025 : w_8012 D.bk = some (106, dk_ci G 16 (fun i9 => nI (μ.bk i9))) := hm_8018.bk
                have ha_8026 : w_8012 D.od = some (107, dk_ci G 700 (fun i9 => nI (μ.od i9))) := hm_8018.od
                have ha_8027 : w_8012 D.vf = some (108, dk_cl G 700 (fun i9 => μ.vf i9)) := hm_8018.vf
                have ha_8028 : w_8012 D.bv = some (109, dk_cl G 16 (fun i9 => μ.bv i9)) := hm_8018.bv
                have ha_8029 : w_8012 D.df = some (110, dk_cz G 700 (fun i9 => bo_i (μ.df i9))) := hm_8018.df
                have ha_8030 : w_8012 D.ss = some (111, dk_cz G 6 (fun i9 => bo_i (μ.ss i9))) := hm_8018.ss
                have ha_8031 : w_8012 D.bd = some (112, dk_cz G 16 (fun i9 => bo_i (μ.bd i9))) := hm_8018.bd
                have ha_8032 : w_8012 D.ks = some (113, dk_cz G 700 (fun i9 => bo_i (μ.ks i9))) := hm_8018.ks
                have ha_8033 : w_8012 D.bt = some (114, dk_cz G 6000 (fun i9 => bo_i (μ.bt i9))) := hm_8018.bt
                refine bo_if_eq (b := false) (tgt := 126) hx hb de_M_entry_121 (by decide) (fun c_8034 => ?_) (fun c_8034 => ?_)
                · refine lv_iconst (v := nI 0) hx hb de_M_entry_126 (by decide) ?_
                  refine lv_istore (lv' := [(6, .int (nI 0)), (0, .ref h), (1, .int (nI l9)), (2, .int r9), (3, .int (nI k)), (4, .int (nI 1)), (5, .int (nI d0)), (7, .int (nI 0)), (8, .int (nI j))]) hx hb de_M_entry_127 hl (by decide) rfl (fun ls hl => ?_)
                  refine lv_iconst (v := nI 0) hx hb de_M_entry_129 (by decide) ?_
                  refine lv_istore (lv' := [(8, .int (nI 0)), (6, .int (nI 0)), (0, .ref h), (1, .int (nI l9)), (2, .int r9), (3, .int (nI k)), (4, .int (nI 1)), (5, .int (nI d0)), (7, .int (nI 0))]) hx hb de_M_entry_130 hl (by decide) rfl (fun ls hl => ?_)
                  have lp2 : ∀ (zk2 : Nat) (i : Nat) (g : Nat → Nat), μ.n - i < zk2 → (i ≤ μ.n) → (ra_ok (fw_d μ) (fun q => some (g q)) (so_st (en_r μ d0 i))) → ∀ (H : Heap) (locs : List Loc) (v : dk_H), (md_at G v h D ((μ.er' 0).od' g)) → (dk_fr md_T w v) → dk_P G v H → dk_S G s.heap H locs → ∀ (ls : Array Slot), lv_has ls 9 [(0, .ref h), (3, .int (nI k)), (4, .int (nI 1)), (5, .int (nI d0)), (6, .int (nI (ct_f (fun k9 => decide (μ.rf k9 = some d0)) i))), (8, .int (nI i))] → W p l e rm_M_entry s m args below meth c H locs (0 + 0 + 0 + 0 + 0 + 0 + 0) (0 + 0 + 0 + 0 + 0 + 0 + 0) Q (F0 m 132 ls []) := by
                    intro zk2
                    induction zk2 with
                    | zero =>
                      intro i g hk
                      exact absurd hk (by omega)
                    | succ zk2 ih2 =>
                      intro i g hk hi hra
                      intro H locs v hmv hg hP hS
                      intro ls hl
                      have hh_8035 : v h = some (100, .inr (cx_M, [.int (nI 0), .int (nI μ.n), .int (nI μ.sq), .int (nI μ.sf), .int (nI μ.rs), .int (rI μ.ba), .int (nI μ.pr), .int (nI μ.mi), .ref D.kf, .ref D.nf, .ref D.rf, .ref D.lf, .ref D.sv, .ref D.bk, .ref D.od, .ref D.vf, .ref D.bv, .ref D.df, .ref D.ss, .ref D.bd, .ref D.ks, .ref D.bt])) := hmv.o
                      have ha_8036 : v D.kf = some (101, dk_ci G 700 (fun i9 => nI (μ.kf i9))) := hmv.kf
                      have ha_8037 : v D.nf = some (102, dk_ci G 700 (fun i9 => nI (μ.nf i9))) := hmv.nf
                      have ha_8038 : v D.rf = some (103, dk_ci G 700 (fun i9 => rI (μ.rf i9))) := hmv.rf
                      have ha_8039 : v D.lf = some (104, dk_ci G 5000 (fun i9 => rI (μ.lf i9))) := hmv.lf
                      have ha_8040 : v D.sv = some (105, dk_ci G 6 (fun i9 => nI (μ.sv i9))) := hmv.sv
                      have ha_8041 : v D.bk = some (106, dk_ci G 16 (fun i9 => nI (μ.bk i9))) := hmv.bk
                      have ha_8042 : v D.od = some (107, dk_ci G 700 (fun i9 => nI (g i9))) := hmv.od
                      have ha_8043 : v D.vf = some (108, dk_cl G 700 (fun i9 => μ.vf i9)) := hmv.vf
                      have ha_8044 : v D.bv = some (109, dk_cl G 16 (fun i9 => μ.bv i9)) := hmv.bv
                      have ha_8045 : v D.df = some (110, dk_cz G 700 (fun i9 => bo_i (μ.df i9))) := hmv.df
                      have ha_8046 : v D.ss = some (111, dk_cz G 6 (fun i9 => bo_i (μ.ss i9))) := hmv.ss
                      have ha_8047 : v D.bd = some (112, dk_cz G 16 (fun i9 => bo_i (μ.bd i9))) := hmv.bd
                      have ha_8048 : v D.ks = some (113, dk_cz G 700 (fun i9 => bo_i (μ.ks i9))) := hmv.ks
                      have ha_8049 : v D.bt = some (114, dk_cz G 6000 (fun i9 => bo_i (μ.bt i9))) := hmv.bt
                      have hreq := rI_eq (a := μ.rf i) (b := some d0) (fun r hr => by have := ok3 i r hr; omega) (fun r hr => by cases hr; omega)
                      have hcti := ct_le (fun k9 => decide (μ.rf k9 = some d0)) i
                      have hlen : (so_st (en_r μ d0 i)).length = ct_f (fun k9 => decide (μ.rf k9 = some d0)) i := by rw [so_st_len, en_r_len]
                      refine lv_iload hx hb de_M_entry_132 (lv_at hl 5 rfl) ?_
                      refine lv_aload_n hx hb de_M_entry_134 rfl (lv_at hl 0 rfl) ?_
                      refine dk_get (a := h) (v := .int (nI μ.n)) (C := kn_M) (T := kt_M) (N := 22) hx hb hts ki_M hown hK hP hh_8035 rfl 1 (by decide) (hts _ wi_715) (fun _ h9 => h9) rfl de_M_entry_135 ?_
                      refine nx_icmp_ge (a := i) (b := μ.n) (tgt := 223) hx hb (by omega) (by omega) de_M_entry_138 (by decide) (fun c_8050 => ?_) (fun c_8050 => ?_)
                      · have e6 : i = μ.n := by omega
                        rw [e6] at hra
                        obtain ⟨a1, ha1, hb1⟩ := hra k x9 hx9
                        obtain ⟨ha2, hx2⟩ := fw_i hmo (so_r_ok hmo hx9) hb1
                        have hgk : g k = a1 := Option.some.inj ha1
                        refine lv_aload_n hx hb de_M_entry_223 rfl (lv_at hl 0 rfl) ?_
                        refine dk_get (a := h) (v := .ref D.od) (C := kn_M) (T := kt_M) (N := 22) hx hb hts ki_M hown hK hP hh_8035 rfl 14 (by decide) (hts _ wi_728) (fun _ h9 => h9) rfl de_M_entry_224 ?_
                        refine lv_iload_n hx hb de_M_entry_227 rfl (lv_at hl 1 rfl) ?_
                        refine dk_iald (a := D.od) hx hb hK hP ha_8042 k rfl (by omega) (by omega) de_M_entry_228 ?_
                        rw [hgk]
                        refine lv_istore (lv' := [(8, .int (nI a1)), (0, .ref h), (3, .int (nI k)), (4, .int (nI 1)), (5, .int (nI d0)), (6, .int (nI (ct_f (fun k9 => decide (μ.rf k9 = some d0)) i)))]) hx hb de_M_entry_229 hl (by decide) rfl (fun ls hl => ?_)
                        refine lv_iload hx hb de_M_entry_231 (lv_at hl 3 rfl) ?_
                        subst hx2
                        refine nx_if_ne (a := 1) (tgt := 246) hx hb (by omega) de_M_entry_233 (by decide) (fun c_8128 => ?_) (fun c_8128 => ?_)
                        · refine lv_iload hx hb de_M_entry_246 (lv_at hl 3 rfl) ?_
                          refine lv_iconst (v := nI 1) hx hb de_M_entry_248 (by decide) ?_
                          refine nx_icmp_ne (a := 1) (b := 1) (tgt := 262) hx hb (by omega) (by omega) de_M_entry_249 (by decide) (fun c_8129 => ?_) (fun c_8129 => ?_)
                          · exact absurd c_8129 (by omega)
                          · refine lv_aload_n hx hb de_M_entry_252 rfl (lv_at hl 1 rfl) ?_
                            refine dk_get (a := h) (v := .ref D.nf) (C := kn_M) (T := kt_M) (N := 22) hx hb hts ki_M hown hK hP hh_8035 rfl 9 (by decide) (hts _ wi_723) (fun _ h9 => h9) rfl de_M_entry_253 ?_
                            refine lv_iload hx hb de_M_entry_256 (lv_at hl 0 rfl) ?_
                            refine dk_iald (a := D.nf) hx hb hK hP ha_8037 a1 rfl (by omega) (by omega) de_M_entry_258 ?_
                            refine lv_goto (tgt := 277) hx hb de_M_entry_259 (by decide) ?_
                            exact dk_iret hQ hx hb hr hlocks hP hS (Nat.le_refl _) (Nat.le_refl _) (⟨rfl, ⟨g, hmv⟩, hg⟩) de_M_entry_277
                        · exact absurd c_8128 (by omega)
                      · refine lv_aload_n hx hb de_M_entry_141 rfl (lv_at hl 0 rfl) ?_
                        refine dk_get (a := h) (v := .ref D.rf) (C := kn_M) (T := kt_M) (N := 22) hx hb hts ki_M hown hK hP hh_8035 rfl 10 (by decide) (hts _ wi_724) (fun _ h9 => h9) rfl de_M_entry_142 ?_
                        refine lv_iload hx hb de_M_entry_145 (lv_at hl 5 rfl) ?_
                        refine dk_iald (a := D.rf) hx hb hK hP ha_8038 i rfl (by omega) (by omega) de_M_entry_147 ?_
                        refine lv_iload hx hb de_M_entry_148 (lv_at hl 3 rfl) ?_
                        refine lv_icmp_eq (tgt := 156) hx hb de_M_entry_150 (by decide) (fun c_8051 => ?_) (fun c_8051 => ?_)
                        · have e7 : μ.rf i = some d0 := hreq.mp c_8051
                          obtain ⟨mm, hmm⟩ : ∃ mm, mm = ct_f (fun k9 => decide (μ.rf k9 = some d0)) i := ⟨_, rfl⟩
                          rw [← hmm] at hl hlen hcti
                          have hsh := sh_ok.init (R := []) (by rw [List.append_nil]; exact hra)
                          rw [hlen] at hsh
                          refine lv_iload hx hb de_M_entry_156 (lv_at hl 4 rfl) ?_
                          refine lv_iinc (v := nI (mm + 1)) (lv' := [(6, .int (nI (mm + 1))), (0, .ref h), (3, .int (nI k)), (4, .int (nI 1)), (5, .int (nI d0)), (8, .int (nI i))]) hx hb de_M_entry_158 hl (k := 4) rfl (nx_inc mm) (by decide) rfl (fun ls hl => ?_)
                          refine lv_istore (lv' := [(7, .int (nI mm)), (6, .int (nI (mm + 1))), (0, .ref h), (3, .int (nI k)), (4, .int (nI 1)), (5, .int (nI d0)), (8, .int (nI i))]) hx hb de_M_entry_161 hl (by decide) rfl (fun ls hl => ?_)
                          have lp3 : ∀ (zk3 : Nat) (p9 : Nat) (g2 : Nat → Nat), p9 < zk3 → (p9 ≤ mm) → (∀ (j : Nat) (y : en_T), p9 ≤ j → (so_st (en_r μ d0 i))[j]? = some y → en_b (me_e μ i) y = true) → (sh_ok (fw_d μ) (fun q => some (g2 q)) (so_st (en_r μ d0 i)) p9) → ∀ (H : Heap) (locs : List Loc) (v3 : dk_H), (md_at G v3 h D ((μ.er' 0).od' g2)) → (dk_fr md_T w v3) → dk_P G v3 H → dk_S G s.heap H locs → ∀ (ls : Array Slot), lv_has ls 9 [(0, .ref h), (3, .int (nI k)), (4, .int (nI 1)), (5, .int (nI d0)), (6, .int (nI (mm + 1))), (7, .int (nI p9)), (8, .int (nI i))] → W p l e rm_M_entry s m args below meth c H locs (0 + 0 + 0 + 0 + 0 + 0 + 0) (0 + 0 + 0 + 0 + 0 + 0 + 0) Q (F0 m 163 ls []) := by
                            intro zk3
                            induction zk3 with
                            | zero =>
                              intro p9 g2 hk
                              exact absurd hk (by omega)
                            | succ zk3 ih3 =>
                              intro p9 g2 hk hp9 hal hs2
                              intro H locs v3 hmv3 hg3 hP hS
                              intro ls hl
                              have hh_8052 : v3 h = some (100, .inr (cx_M, [.int (nI 0), .int (nI μ.n), .int (nI μ.sq), .int (nI μ.sf), .int (nI μ.rs), .int (rI μ.ba), .int (nI μ.pr), .int (nI μ.mi), .ref D.kf, .ref D.nf, .ref D.rf, .ref D.lf, .ref D.sv, .ref D.bk, .ref D.od, .ref D.vf, .ref D.bv, .ref D.df, .ref D.ss, .ref D.bd, .ref D.ks, .ref D.bt])) := hmv3.o
                              have ha_8053 : v3 D.kf = some (101, dk_ci G 700 (fun i9 => nI (μ.kf i9))) := hmv3.kf
                              have ha_8054 : v3 D.nf = some (102, dk_ci G 700 (fun i9 => nI (μ.nf i9))) := hmv3.nf
                              have ha_8055 : v3 D.rf = some (103, dk_ci G 700 (fun i9 => rI (μ.rf i9))) := hmv3.rf
                              have ha_8056 : v3 D.lf = some (104, dk_ci G 5000 (fun i9 => rI (μ.lf i9))) := hmv3.lf
                              have ha_8057 : v3 D.sv = some (105, dk_ci G 6 (fun i9 => nI (μ.sv i9))) := hmv3.sv
                              have ha_8058 : v3 D.bk = some (106, dk_ci G 16 (fun i9 => nI (μ.bk i9))) := hmv3.bk
                              have ha_8059 : v3 D.od = some (107, dk_ci G 700 (fun i9 => nI (g2 i9))) := hmv3.od
                              have ha_8060 : v3 D.vf = some (108, dk_cl G 700 (fun i9 => μ.vf i9)) := hmv3.vf
                              have ha_8061 : v3 D.bv = some (109, dk_cl G 16 (fun i9 => μ.bv i9)) := hmv3.bv
                              have ha_8062 : v3 D.df = some (110, dk_cz G 700 (fun i9 => bo_i (μ.df i9))) := hmv3.df
                              have ha_8063 : v3 D.ss = some (111, dk_cz G 6 (fun i9 => bo_i (μ.ss i9))) := hmv3.ss
                              have ha_8064 : v3 D.bd = some (112, dk_cz G 16 (fun i9 => bo_i (μ.bd i9))) := hmv3.bd
                              have ha_8065 : v3 D.ks = some (113, dk_cz G 700 (fun i9 => bo_i (μ.ks i9))) := hmv3.ks
                              have ha_8066 : v3 D.bt = some (114, dk_cz G 6000 (fun i9 => bo_i (μ.bt i9))) := hmv3.bt
                              have hmo3 : md_ok ((μ.er' 0).od' g2) := ⟨ok1, ok2, ok3, ok4, ok5, ok6, ok7, ok8, ok9, ok10, show (0 : Nat) < 3 by decide⟩
                              refine lv_iload hx hb de_M_entry_163 (lv_at hl 5 rfl) ?_
                              refine nx_if_le (a := p9) (tgt := 208) hx hb (by omega) de_M_entry_165 (by decide) (fun c_8067 => ?_) (fun c_8067 => ?_)
                              · refine lv_aload_n hx hb de_M_entry_208 rfl (lv_at hl 0 rfl) ?_
                                refine dk_get (a := h) (v := .ref D.od) (C := kn_M) (T := kt_M) (N := 22) hx hb hts ki_M hown hK hP hh_8052 rfl 14 (by decide) (hts _ wi_728) (fun _ h9 => h9) rfl de_M_entry_209 ?_
                                refine lv_iload hx hb de_M_entry_212 (lv_at hl 5 rfl) ?_
                                refine lv_iload hx hb de_M_entry_214 (lv_at hl 6 rfl) ?_
                                refine dk_iast (a := D.od) (x := (nI i)) hx hb hK hP hS ha_8059 p9 rfl (by omega) (by omega) de_M_entry_216 (fun H locs w_8068 hw_8069 hP hS => ?_)
                                rw [up_nI] at hw_8069
                                have h_8070 : w_8068 D.od = some (107, dk_ci G 700 (fun i9 => nI ((va_up g2 p9 i) i9))) := dk_here hw_8069
                                have h_8071 : w_8068 h = some (100, .inr (cx_M, [.int (nI 0), .int (nI μ.n), .int (nI μ.sq), .int (nI μ.sf), .int (nI μ.rs), .int (rI μ.ba), .int (nI μ.pr), .int (nI μ.mi), .ref D.kf, .ref D.nf, .ref D.rf, .ref D.lf, .ref D.sv, .ref D.bk, .ref D.od, .ref D.vf, .ref D.bv, .ref D.df, .ref D.ss, .ref D.bd, .ref D.ks, .ref D.bt])) := dk_keep hw_8069 ha_8059 hh_8052 (by decide)
                                have h_8072 : w_8068 D.kf = some (101, dk_ci G 700 (fun i9 => nI (μ.kf i9))) := dk_keep hw_8069 ha_8059 ha_8053 (by decide)
                                have h_8073 : w_8068 D.nf = some (102, dk_ci G 700 (fun i9 => nI (μ.nf i9))) := dk_keep hw_8069 ha_8059 ha_8054 (by decide)
                                have h_8074 : w_8068 D.rf = some (103, dk_ci G 700 (fun i9 => rI (μ.rf i9))) := dk_keep hw_8069 ha_8059 ha_8055 (by decide)
                                have h_8075 : w_8068 D.lf = some (104, dk_ci G 5000 (fun i9 => rI (μ.lf i9))) := dk_keep hw_8069 ha_8059 ha_8056 (by decide)
                                have h_8076 : w_8068 D.sv = some (105, dk_ci G 6 (fun i9 => nI (μ.sv i9))) := dk_keep hw_8069 ha_8059 ha_8057 (by decide)
                                have h_8077 : w_8068 D.bk = some (106, dk_ci G 16 (fun i9 => nI (μ.bk i9))) := dk_keep hw_8069 ha_8059 ha_8058 (by decide)
                                have h_8078 : w_8068 D.vf = some (108, dk_cl G 700 (fun i9 => μ.vf i9)) := dk_keep hw_8069 ha_8059 ha_8060 (by decide)
                                have h_8079 : w_8068 D.bv = some (109, dk_cl G 16 (fun i9 => μ.bv i9)) := dk_keep hw_8069 ha_8059 ha_8061 (by decide)
                                have h_8080 : w_8068 D.df = some (110, dk_cz G 700 (fun i9 => bo_i (μ.df i9))) := dk_keep hw_8069 ha_8059 ha_8062 (by decide)
                                have h_8081 : w_8068 D.ss = some (111, dk_cz G 6 (fun i9 => bo_i (μ.ss i9))) := dk_keep hw_8069 ha_8059 ha_8063 (by decide)
                                have h_8082 : w_8068 D.bd = some (112, dk_cz G 16 (fun i9 => bo_i (μ.bd i9))) := dk_keep hw_8069 ha_8059 ha_8064 (by decide)
                                have h_8083 : w_8068 D.ks = some (113, dk_cz G 700 (fun i9 => bo_i (μ.ks i9))) := dk_keep hw_8069 ha_8059 ha_8065 (by decide)
                                have h_8084 : w_8068 D.bt = some (114, dk_cz G 6000 (fun i9 => bo_i (μ.bt i9))) := dk_keep hw_8069 ha_8059 ha_8066 (by decide)
                                refine lv_iinc (v := nI (i + 1)) (lv' := [(8, .int (nI (i + 1))), (0, .ref h), (3, .int (nI k)), (4, .int (nI 1)), (5, .int (nI d0)), (6, .int (nI (mm + 1))), (7, .int (nI p9))]) hx hb de_M_entry_217 hl (k := 6) rfl (nx_inc i) (by decide) rfl (fun ls hl => ?_)
                                refine lv_goto (tgt := 132) hx hb de_M_entry_220 (by decide) ?_
                                have hm_8085 : md_at G w_8068 h D (((μ.er' 0).od' g2).od' (va_up g2 p9 i)) := ⟨h_8071, h_8072, h_8073, h_8074, h_8075, h_8076, h_8077, h_8070, h_8078, h_8079, h_8080, h_8081, h_8082, h_8083, h_8084⟩
                                have hso : so_n (me_e μ i) (so_st (en_r μ d0 i)) = p9 := so_n_of _ _ p9 (by rw [hlen]; exact hp9) hal (fun y h0 => absurd h0 (by omega))
                                have hra2 := os_done hlen hs2 hso (c_8050)
                                replace hl : lv_has ls 9 [(8, .int (nI (i + 1))), (0, .ref h), (3, .int (nI k)), (4, .int (nI 1)), (5, .int (nI d0)), (6, .int (nI (ct_f (fun k9 => decide (μ.rf k9 = some d0)) (i + 1)))), (7, .int (nI p9))] := by rw [ct_y (p := fun k9 => decide (μ.rf k9 = some d0)) (decide_eq_true e7), ← hmm]; exact hl
                                exact ih2 (i + 1) (va_up g2 p9 i) (by omega) (by omega) (by rw [en_ry e7, so_snoc]; exact hra2) _ _ _ hm_8085 (hg3.tr ((dk_fr.rf).tr ((dk_fr.up (T := md_T) ha_8059 (by unfold md_T; omega)).eq hw_8069))) hP hS _ (lv_sub hl [1, 2, 3, 4, 5, 0] rfl)
                              · obtain ⟨p8, hp8⟩ : ∃ p8, p9 = p8 + 1 := ⟨p9 - 1, by omega⟩
                                obtain ⟨y8, hy8⟩ := ge_at (L := so_st (en_r μ d0 i)) (i := p8) (by omega)
                                obtain ⟨a8, ha8, hb8⟩ := hs2.1 p8 y8 (by omega) hy8
                                have hga : g2 (p9 - 1) = a8 := by rw [hp8, Nat.add_sub_cancel]; exact Option.some.inj ha8
                                obtain ⟨ha7, hy7⟩ := fw_i hmo (so_r_ok hmo hy8) hb8
                                refine lv_aload_n hx hb de_M_entry_168 rfl (lv_at hl 0 rfl) ?_
                                refine lv_iload hx hb de_M_entry_169 (lv_at hl 6 rfl) ?_
                                refine lv_aload_n hx hb de_M_entry_171 rfl (lv_at hl 0 rfl) ?_
                                refine dk_get (a := h) (v := .ref D.od) (C := kn_M) (T := kt_M) (N := 22) hx hb hts ki_M hown hK hP hh_8052 rfl 14 (by decide) (hts _ wi_728) (fun _ h9 => h9) rfl de_M_entry_172 ?_
                                refine lv_iload hx hb de_M_entry_175 (lv_at hl 5 rfl) ?_
                                refine lv_iconst (v := nI 1) hx hb de_M_entry_177 (by decide) ?_
                                refine nx_isub (a := p9) (b := 1) hx hb (by omega) de_M_entry_178 ?_
                                refine dk_iald (a := D.od) hx hb hK hP ha_8059 (p9 - 1) rfl (by omega) (by omega) de_M_entry_179 ?_
                                rw [hga]
                                refine dk_calli (va_runV (As := [.int (nI i), .int (nI a8)]) (rest := []) ⟨hx, hb, hml, hown, hts⟩ (c_M_comesBefore l G v3 h D ((μ.er' 0).od' g2) hmv3 hmo3 i a8 (by omega) (by omega)) (cwV 2 hts (wd_gV (C := "RunKeeperModel") wi_910 wi_907 wi_909 (wd_p (q := (⟨"RunKeeperModel", "comesBefore", "(II)Z"⟩, 22)) (by decide +kernel) (by decide +kernel)) wi_8) rfl rfl rfl (by decide +kernel) ⟨Nat.le_of_ble_eq_true rfl, Nat.le_of_ble_eq_true rfl⟩) (dk_preV (kn_M, kt_M, 22) hE hP hS hh_8052 rfl) rfl rfl hl.1 rfl (lv_room (Nat.le_of_ble_eq_true rfl)) de_M_entry_180 ⟨(by first | exact Nat.le_of_ble_eq_true rfl | (simp only [Nat.zero_add]; omega) | omega), (by first | exact Nat.le_of_ble_eq_true rfl | (simp only [Nat.zero_add]; omega) | omega)⟩) hS (fun r_8088 w_8086 H locs hq_8087 hP hS => ?_)
                                obtain ⟨hr_8089, he_8090⟩ := hq_8087
                                subst hr_8089
                                rw [he_8090] at hP
                                refine bo_if_eq (b := (en_b (me_e μ i) (me_e μ a8))) (tgt := 208) hx hb de_M_entry_183 (by decide) (fun c_8091 => ?_) (fun c_8091 => ?_)
                                · have e5 : en_b (me_e μ i) y8 = false := by rw [← hy7]; exact c_8091
                                  refine lv_aload_n hx hb de_M_entry_208 rfl (lv_at hl 0 rfl) ?_
                                  refine dk_get (a := h) (v := .ref D.od) (C := kn_M) (T := kt_M) (N := 22) hx hb hts ki_M hown hK hP hh_8052 rfl 14 (by decide) (hts _ wi_728) (fun _ h9 => h9) rfl de_M_entry_209 ?_
                                  refine lv_iload hx hb de_M_entry_212 (lv_at hl 5 rfl) ?_
                                  refine lv_iload hx hb de_M_entry_214 (lv_at hl 6 rfl) ?_
                                  refine dk_iast (a := D.od) (x := (nI i)) hx hb hK hP hS ha_8059 p9 rfl (by omega) (by omega) de_M_entry_216 (fun H locs w_8092 hw_8093 hP hS => ?_)
                                  rw [up_nI] at hw_8093
                                  have h_8094 : w_8092 D.od = some (107, dk_ci G 700 (fun i9 => nI ((va_up g2 p9 i) i9))) := dk_here hw_8093
                                  have h_8095 : w_8092 h = some (100, .inr (cx_M, [.int (nI 0), .int (nI μ.n), .int (nI μ.sq), .int (nI μ.sf), .int (nI μ.rs), .int (rI μ.ba), .int (nI μ.pr), .int (nI μ.mi), .ref D.kf, .ref D.nf, .ref D.rf, .ref D.lf, .ref D.sv, .ref D.bk, .ref D.od, .ref D.vf, .ref D.bv, .ref D.df, .ref D.ss, .ref D.bd, .ref D.ks, .ref D.bt])) := dk_keep hw_8093 ha_8059 hh_8052 (by decide)
                                  have h_8096 : w_8092 D.kf = some (101, dk_ci G 700 (fun i9 => nI (μ.kf i9))) := dk_keep hw_8093 ha_8059 ha_8053 (by decide)
                                  have h_8097 : w_8092 D.nf = some (102, dk_ci G 700 (fun i9 => nI (μ.nf i9))) := dk_keep hw_8093 ha_8059 ha_8054 (by decide)
                                  have h_8098 : w_8092 D.rf = some (103, dk_ci G 700 (fun i9 => rI (μ.rf i9))) := dk_keep hw_8093 ha_8059 ha_8055 (by decide)
                                  have h_8099 : w_8092 D.lf = some (104, dk_ci G 5000 (fun i9 => rI (μ.lf i9))) := dk_keep hw_8093 ha_8059 ha_8056 (by decide)
                                  have h_8100 : w_8092 D.sv = some (105, dk_ci G 6 (fun i9 => nI (μ.sv i9))) := dk_keep hw_8093 ha_8059 ha_8057 (by decide)
                                  have h_8101 : w_8092 D.bk = some (106, dk_ci G 16 (fun i9 => nI (μ.bk i9))) := dk_keep hw_8093 ha_8059 ha_8058 (by decide)
                                  have h_8102 : w_8092 D.vf = some (108, dk_cl G 700 (fun i9 => μ.vf i9)) := dk_keep hw_8093 ha_8059 ha_8060 (by decide)
                                  have h_8103 : w_8092 D.bv = some (109, dk_cl G 16 (fun i9 => μ.bv i9)) := dk_keep hw_8093 ha_8059 ha_8061 (by decide)
                                  have h_8104 : w_8092 D.df = some (110, dk_cz G 700 (fun i9 => bo_i (μ.df i9))) := dk_keep hw_8093 ha_8059 ha_8062 (by decide)
                                  have h_8105 : w_8092 D.ss = some (111, dk_cz G 6 (fun i9 => bo_i (μ.ss i9))) := dk_keep hw_8093 ha_8059 ha_8063 (by decide)
                                  have h_8106 : w_8092 D.bd = some (112, dk_cz G 16 (fun i9 => bo_i (μ.bd i9))) := dk_keep hw_8093 ha_8059 ha_8064 (by decide)
                                  have h_8107 : w_8092 D.ks = some (113, dk_cz G 700 (fun i9 => bo_i (μ.ks i9))) := dk_keep hw_8093 ha_8059 ha_8065 (by decide)
                                  have h_8108 : w_8092 D.bt = some (114, dk_cz G 6000 (fun i9 => bo_i (μ.bt i9))) := dk_keep hw_8093 ha_8059 ha_8066 (by decide)
                                  refine lv_iinc (v := nI (i + 1)) (lv' := [(8, .int (nI (i + 1))), (0, .ref h), (3, .int (nI k)), (4, .int (nI 1)), (5, .int (nI d0)), (6, .int (nI (mm + 1))), (7, .int (nI p9))]) hx hb de_M_entry_217 hl (k := 6) rfl (nx_inc i) (by decide) rfl (fun ls hl => ?_)
                                  refine lv_goto (tgt := 132) hx hb de_M_entry_220 (by decide) ?_
                                  have hm_8109 : md_at G w_8092 h D (((μ.er' 0).od' g2).od' (va_up g2 p9 i)) := ⟨h_8095, h_8096, h_8097, h_8098, h_8099, h_8100, h_8101, h_8094, h_8102, h_8103, h_8104, h_8105, h_8106, h_8107, h_8108⟩
                                  have hso : so_n (me_e μ i) (so_st (en_r μ d0 i)) = p9 := so_n_of _ _ p9 (by rw [hlen]; exact hp9) hal (fun y h0 hy => by rw [hp8, Nat.add_sub_cancel, hy8] at hy; cases hy; exact e5)
                                  have hra2 := os_done hlen hs2 hso (c_8050)
                                  replace hl : lv_has ls 9 [(8, .int (nI (i + 1))), (0, .ref h), (3, .int (nI k)), (4, .int (nI 1)), (5, .int (nI d0)), (6, .int (nI (ct_f (fun k9 => decide (μ.rf k9 = some d0)) (i + 1)))), (7, .int (nI p9))] := by rw [ct_y (p := fun k9 => decide (μ.rf k9 = some d0)) (decide_eq_true e7), ← hmm]; exact hl
                                  exact ih2 (i + 1) (va_up g2 p9 i) (by omega) (by omega) (by rw [en_ry e7, so_snoc]; exact hra2) _ _ _ hm_8109 (hg3.tr ((dk_fr.rf).tr ((dk_fr.up (T := md_T) ha_8059 (by unfold md_T; omega)).eq hw_8093))) hP hS _ (lv_sub hl [1, 2, 3, 4, 5, 0] rfl)
                                · have e5 : en_b (me_e μ i) y8 = true := by rw [← hy7]; exact c_8091
                                  refine lv_aload_n hx hb de_M_entry_186 rfl (lv_at hl 0 rfl) ?_
                                  refine dk_get (a := h) (v := .ref D.od) (C := kn_M) (T := kt_M) (N := 22) hx hb hts ki_M hown hK hP hh_8052 rfl 14 (by decide) (hts _ wi_728) (fun _ h9 => h9) rfl de_M_entry_187 ?_
                                  refine lv_iload hx hb de_M_entry_190 (lv_at hl 5 rfl) ?_
                                  refine lv_aload_n hx hb de_M_entry_192 rfl (lv_at hl 0 rfl) ?_
                                  refine dk_get (a := h) (v := .ref D.od) (C := kn_M) (T := kt_M) (N := 22) hx hb hts ki_M hown hK hP hh_8052 rfl 14 (by decide) (hts _ wi_728) (fun _ h9 => h9) rfl de_M_entry_193 ?_
                                  refine lv_iload hx hb de_M_entry_196 (lv_at hl 5 rfl) ?_
                                  refine lv_iconst (v := nI 1) hx hb de_M_entry_198 (by decide) ?_
                                  refine nx_isub (a := p9) (b := 1) hx hb (by omega) de_M_entry_199 ?_
                                  refine dk_iald (a := D.od) hx hb hK hP ha_8059 (p9 - 1) rfl (by omega) (by omega) de_M_entry_200 ?_
                                  rw [hga]
                                  refine dk_iast (a := D.od) (x := (nI a8)) hx hb hK hP hS ha_8059 p9 rfl (by omega) (by omega) de_M_entry_201 (fun H locs w_8110 hw_8111 hP hS => ?_)
                                  rw [up_nI] at hw_8111
                                  have h_8112 : w_8110 D.od = some (107, dk_ci G 700 (fun i9 => nI ((va_up g2 p9 a8) i9))) := dk_here hw_8111
                                  have h_8113 : w_8110 h = some (100, .inr (cx_M, [.int (nI 0), .int (nI μ.n), .int (nI μ.sq), .int (nI μ.sf), .int (nI μ.rs), .int (rI μ.ba), .int (nI μ.pr), .int (nI μ.mi), .ref D.kf, .ref D.nf, .ref D.rf, .ref D.lf, .ref D.sv, .ref D.bk, .ref D.od, .ref D.vf, .ref D.bv, .ref D.df, .ref D.ss, .ref D.bd, .ref D.ks, .ref D.bt])) := dk_keep hw_8111 ha_8059 hh_8052 (by decide)
                                  have h_8114 : w_8110 D.kf = some (101, dk_ci G 700 (fun i9 => nI (μ.kf i9))) := dk_keep hw_8111 ha_8059 ha_8053 (by decide)
                                  have h_8115 : w_8110 D.nf = some (102, dk_ci G 700 (fun i9 => nI (μ.nf i9))) := dk_keep hw_8111 ha_8059 ha_8054 (by decide)
                                  have h_8116 : w_8110 D.rf = some (103, dk_ci G 700 (fun i9 => rI (μ.rf i9))) := dk_keep hw_8111 ha_8059 ha_8055 (by decide)
                                  have h_8117 : w_8110 D.lf = some (104, dk_ci G 5000 (fun i9 => rI (μ.lf i9))) := dk_keep hw_8111 ha_8059 ha_8056 (by decide)
                                  have h_8118 : w_8110 D.sv = some (105, dk_ci G 6 (fun i9 => nI (μ.sv i9))) := dk_keep hw_8111 ha_8059 ha_8057 (by decide)
                                  have h_8119 : w_8110 D.bk = some (106, dk_ci G 16 (fun i9 => nI (μ.bk i9))) := dk_keep hw_8111 ha_8059 ha_8058 (by decide)
                                  have h_8120 : w_8110 D.vf = some (108, dk_cl G 700 (fun i9 => μ.vf i9)) := dk_keep hw_8111 ha_8059 ha_8060 (by decide)
                                  have h_8121 : w_8110 D.bv = some (109, dk_cl G 16 (fun i9 => μ.bv i9)) := dk_keep hw_8111 ha_8059 ha_8061 (by decide)
                                  have h_8122 : w_8110 D.df = some (110, dk_cz G 700 (fun i9 => bo_i (μ.df i9))) := dk_keep hw_8111 ha_8059 ha_8062 (by decide)
                                  have h_8123 : w_8110 D.ss = some (111, dk_cz G 6 (fun i9 => bo_i (μ.ss i9))) := dk_keep hw_8111 ha_8059 ha_8063 (by decide)
                                  have h_8124 : w_8110 D.bd = some (112, dk_cz G 16 (fun i9 => bo_i (μ.bd i9))) := dk_keep hw_8111 ha_8059 ha_8064 (by decide)
                                  have h_8125 : w_8110 D.ks = some (113, dk_cz G 700 (fun i9 => bo_i (μ.ks i9))) := dk_keep hw_8111 ha_8059 ha_8065 (by decide)
                                  have h_8126 : w_8110 D.bt = some (114, dk_cz G 6000 (fun i9 => bo_i (μ.bt i9))) := dk_keep hw_8111 ha_8059 ha_8066 (by decide)
                                  have hm_8127 : md_at G w_8110 h D (((μ.er' 0).od' g2).od' (va_up g2 p9 a8)) := ⟨h_8113, h_8114, h_8115, h_8116, h_8117, h_8118, h_8119, h_8112, h_8120, h_8121, h_8122, h_8123, h_8124, h_8125, h_8126⟩
                                  refine lv_iinc (v := nI (p9 - 1)) (lv' := [(7, .int (nI (p9 - 1))), (0, .ref h), (3, .int (nI k)), (4, .int (nI 1)), (5, .int (nI d0)), (6, .int (nI (mm + 1))), (8, .int (nI i))]) hx hb de_M_entry_202 hl (k := 5) rfl (nx_dec (by omega)) (by decide) rfl (fun ls hl => ?_)
                                  refine lv_goto (tgt := 163) hx hb de_M_entry_205 (by decide) ?_
                                  exact ih3 (p9 - 1) (va_up g2 p9 a8) (by omega) (by omega) (os_al hp8 hal hy8 e5) (os_st hp8 hs2 hga) _ _ _ hm_8127 (hg3.tr ((dk_fr.rf).tr ((dk_fr.up (T := md_T) ha_8059 (by unfold md_T; omega)).eq hw_8111))) hP hS _ (lv_sub hl [1, 2, 3, 4, 5, 0, 6] rfl)
                          exact lp3 (mm + 1) mm g (by omega) (Nat.le_refl _) (fun j z hj hz => absurd (List.getElem?_eq_some_iff.mp hz).1 (by omega)) hsh _ _ _ hmv hg hP hS _ (lv_sub hl [2, 3, 4, 5, 1, 0, 6] rfl)
                        · have e7 : ¬ μ.rf i = some d0 := fun z => c_8051 (hreq.mpr z)
                          refine lv_goto (tgt := 217) hx hb de_M_entry_153 (by decide) ?_
                          refine lv_iinc (v := nI (i + 1)) (lv' := [(8, .int (nI (i + 1))), (0, .ref h), (3, .int (nI k)), (4, .int (nI 1)), (5, .int (nI d0)), (6, .int (nI (ct_f (fun k9 => decide (μ.rf k9 = some d0)) i)))]) hx hb de_M_entry_217 hl (k := 5) rfl (nx_inc i) (by decide) rfl (fun ls hl => ?_)
                          refine lv_goto (tgt := 132) hx hb de_M_entry_220 (by decide) ?_
                          replace hl : lv_has ls 9 [(8, .int (nI (i + 1))), (0, .ref h), (3, .int (nI k)), (4, .int (nI 1)), (5, .int (nI d0)), (6, .int (nI (ct_f (fun k9 => decide (μ.rf k9 = some d0)) (i + 1))))] := by rw [ct_n (p := fun k9 => decide (μ.rf k9 = some d0)) (decide_eq_false e7)]; exact hl
                          exact ih2 (i + 1) g (by omega) (by omega) (by rw [en_rn e7]; exact hra) _ _ _ hmv hg hP hS _ (lv_sub hl [1, 2, 3, 4, 5, 0] rfl)
                  exact lp2 (μ.n + 1) 0 μ.od (by omega) (Nat.zero_le _) ra_ok.nil _ _ _ hm_8018 ((((dk_fr.rf).tr ((dk_fr.up (T := md_T) hh_7928 (by unfold md_T; omega)).eq hw_7930)).tr (hf_7979)).tr (hf_8017)) hP hS _ (lv_sub hl [2, 5, 6, 7, 1, 0] rfl)
                · exact absurd c_8034 (by decide)
              · exact absurd c_8011 (by decide)
            · refine lv_aload_n hx hb de_M_entry_60 rfl (lv_at hl 0 rfl) ?_
              refine dk_get (a := h) (v := .ref D.lf) (C := kn_M) (T := kt_M) (N := 22) hx hb hts ki_M hown hK hP hh_7981 rfl 11 (by decide) (hts _ wi_725) (fun _ h9 => h9) rfl de_M_entry_61 ?_
              refine lv_iload hx hb de_M_entry_64 (lv_at hl 8 rfl) ?_
              refine dk_iald (a := D.lf) hx hb hK hP ha_7985 j rfl (by omega) (by omega) de_M_entry_66 ?_
              refine lv_iload_n hx hb de_M_entry_67 rfl (lv_at hl 1 rfl) ?_
              refine lv_icmp_ne (tgt := 84) hx hb de_M_entry_68 (by decide) (fun c_7998 => ?_) (fun c_7998 => ?_)
              · refine lv_iinc (v := nI (j + 1)) (lv' := [(8, .int (nI (j + 1))), (0, .ref h), (1, .int (nI l9)), (2, .int r9), (3, .int (nI k)), (4, .int (nI 1)), (5, .int (rI o)), (6, .int (nI m9)), (7, .int (nI 0))]) hx hb de_M_entry_84 hl (k := 8) rfl (nx_inc j) (by decide) rfl (fun ls hl => ?_)
                refine lv_goto (tgt := 51) hx hb de_M_entry_87 (by decide) ?_
                exact ih (j + 1) o m9 (by omega) (by omega) (by rw [id_n hid (fun z => c_7998 (hleq.mpr z))]) (by omega) _ (lv_sub hl [1, 2, 3, 4, 5, 6, 7, 8, 0] rfl)
              · refine lv_iload hx hb de_M_entry_71 (lv_at hl 6 rfl) ?_
                refine lv_iinc (v := nI (m9 + 1)) (lv' := [(6, .int (nI (m9 + 1))), (0, .ref h), (1, .int (nI l9)), (2, .int r9), (3, .int (nI k)), (4, .int (nI 1)), (5, .int (rI o)), (7, .int (nI 0)), (8, .int (nI j))]) hx hb de_M_entry_73 hl (k := 6) rfl (nx_inc m9) (by decide) rfl (fun ls hl => ?_)
                refine lv_iload_n hx hb de_M_entry_76 rfl (lv_at hl 3 rfl) ?_
                refine lv_icmp_ne (tgt := 84) hx hb de_M_entry_77 (by decide) (fun c_7999 => ?_) (fun c_7999 => ?_)
                · refine lv_iinc (v := nI (j + 1)) (lv' := [(8, .int (nI (j + 1))), (6, .int (nI (m9 + 1))), (0, .ref h), (1, .int (nI l9)), (2, .int r9), (3, .int (nI k)), (4, .int (nI 1)), (5, .int (rI o)), (7, .int (nI 0))]) hx hb de_M_entry_84 hl (k := 8) rfl (nx_inc j) (by decide) rfl (fun ls hl => ?_)
                  refine lv_goto (tgt := 51) hx hb de_M_entry_87 (by decide) ?_
                  exact ih (j + 1) o (m9 + 1) (by omega) (by omega) (by rw [id_o hid (hleq.mp c_7998) c_7999]) (by omega) _ (lv_sub hl [2, 3, 4, 5, 6, 7, 1, 8, 0] rfl)
                · refine lv_iload hx hb de_M_entry_80 (lv_at hl 8 rfl) ?_
                  refine lv_istore (lv' := [(5, .int (nI j)), (6, .int (nI (m9 + 1))), (0, .ref h), (1, .int (nI l9)), (2, .int r9), (3, .int (nI k)), (4, .int (nI 1)), (7, .int (nI 0)), (8, .int (nI j))]) hx hb de_M_entry_82 hl (by decide) rfl (fun ls hl => ?_)
                  refine lv_iinc (v := nI (j + 1)) (lv' := [(8, .int (nI (j + 1))), (5, .int (nI j)), (6, .int (nI (m9 + 1))), (0, .ref h), (1, .int (nI l9)), (2, .int r9), (3, .int (nI k)), (4, .int (nI 1)), (7, .int (nI 0))]) hx hb de_M_entry_84 hl (k := 8) rfl (nx_inc j) (by decide) rfl (fun ls hl => ?_)
                  refine lv_goto (tgt := 51) hx hb de_M_entry_87 (by decide) ?_
                  exact ih (j + 1) (some j) (m9 + 1) (by omega) (by omega) (by rw [id_y hid (hleq.mp c_7998) c_7999]) (by omega) _ (lv_sub hl [3, 4, 5, 6, 7, 1, 2, 8, 0] rfl)
        exact lp (μ.rs + 1) 0 none 0 (by omega) (Nat.zero_le _) rfl (by omega) _ (lv_sub hl [4, 5, 6, 7, 8, 3, 2, 1, 0] rfl)
      · exact absurd c_7996 (by decide)
    · exact absurd c_7973 (by decide)
set_option maxHeartbeats 4000000 in
set_option maxRecDepth 100000 in
theorem c_M_entryS2 (l : Launch) (G : dk_G) (w : dk_H) (h : Nat) (D : md_D) (μ : md_S) (hm : md_at G w h D μ) (hmo : md_ok μ) (l9 k : Nat) (r9 : Int32) (hl9 : l9 < 6) (d0 : Nat) (hn : (id_f μ l9 r9 μ.rs).1 = some d0) (hd0 : d0 < 5000) (x9 : en_T) (hx9 : (so_st (en_r μ d0 μ.n))[k]? = some x9) : dk_Mi l my_M_entry (wd_c my_M_entry mb_M_entry 9 (some .int)) rm_M_entry G w [.ref h, .int (nI l9), .int r9, .int (nI k), .int (nI 2)] (fun r w1 => r = bo_i x9.2.2.2 ∧ (∃ g, md_at G w1 h D ((μ.er' 0).od' g)) ∧ dk_fr md_T w w1) 0 0 := by
  obtain ⟨ok1, ok2, ok3, ok4, ok5, ok6, ok7, ok8, ok9, ok10, ok11⟩ := id hmo
  have hkl : k < (ct_f (fun k9 => decide (μ.rf k9 = some d0)) μ.n) := by have := (List.getElem?_eq_some_iff.mp hx9).1; rw [so_st_len, en_r_len] at this; exact this
  have hcl := ct_le (fun k9 => decide (μ.rf k9 = some d0)) μ.n
  refine dk_enter (lv := [(0, .ref h), (1, .int (nI l9)), (2, .int r9), (3, .int (nI k)), (4, .int (nI 2))]) (by decide) (Nat.le_of_ble_eq_true rfl) rfl (fun p e s m args below meth c ls Q hQ C hP hS hl => ?_)
  obtain ⟨hx, hb, hr, hml, hlocks, hown, hnm, hts, hE⟩ := C
  have hK := hE.1
  have hN := hE.2.1
  have hh_8130 : w h = some (100, .inr (cx_M, [.int (nI μ.er), .int (nI μ.n), .int (nI μ.sq), .int (nI μ.sf), .int (nI μ.rs), .int (rI μ.ba), .int (nI μ.pr), .int (nI μ.mi), .ref D.kf, .ref D.nf, .ref D.rf, .ref D.lf, .ref D.sv, .ref D.bk, .ref D.od, .ref D.vf, .ref D.bv, .ref D.df, .ref D.ss, .ref D.bd, .ref D.ks, .ref D.bt])) := hm.o
  refine lv_aload_n hx hb de_M_entry_0 rfl (lv_at hl 0 rfl) ?_
  refine lv_iconst (v := nI 0) hx hb de_M_entry_1 (by decide) ?_
  refine dk_put (a := h) (v := .int (nI 0)) (ty := .int) (C := kn_M) (T := kt_M) (N := 22) hx hb hts ki_M ky_M kk_M kd_M hown hK hP hS hh_8130 rfl 0 (by decide) (hts _ wi_714) (fun _ h9 => h9) rfl (by decide +kernel) rfl rfl (Nat.le_of_ble_eq_true rfl) de_M_entry_2 (fun H locs w_8131 hw_8132 hP hS => ?_)
  have h_8133 : w_8131 h = some (100, .inr (cx_M, [.int (nI 0), .int (nI μ.n), .int (nI μ.sq), .int (nI μ.sf), .int (nI μ.rs), .int (rI μ.ba), .int (nI μ.pr), .int (nI μ.mi), .ref D.kf, .ref D.nf, .ref D.rf, .ref D.lf, .ref D.sv, .ref D.bk, .ref D.od, .ref D.vf, .ref D.bv, .ref D.df, .ref D.ss, .ref D.bd, .ref D.ks, .ref D.bt])) := dk_here hw_8132
  have h_8134 : w_8131 D.kf = some (101, dk_ci G 700 (fun i9 => nI (μ.kf i9))) := dk_keep hw_8132 hh_8130 hm.kf (by decide)
  have h_8135 : w_8131 D.nf = some (102, dk_ci G 700 (fun i9 => nI (μ.nf i9))) := dk_keep hw_8132 hh_8130 hm.nf (by decide)
  have h_8136 : w_8131 D.rf = some (103, dk_ci G 700 (fun i9 => rI (μ.rf i9))) := dk_keep hw_8132 hh_8130 hm.rf (by decide)
  have h_8137 : w_8131 D.lf = some (104, dk_ci G 5000 (fun i9 => rI (μ.lf i9))) := dk_keep hw_8132 hh_8130 hm.lf (by decide)
  have h_8138 : w_8131 D.sv = some (105, dk_ci G 6 (fun i9 => nI (μ.sv i9))) := dk_keep hw_8132 hh_8130 hm.sv (by decide)
  have h_8139 : w_8131 D.bk = some (106, dk_ci G 16 (fun i9 => nI (μ.bk i9))) := dk_keep hw_8132 hh_8130 hm.bk (by decide)
  have h_8140 : w_8131 D.od = some (107, dk_ci G 700 (fun i9 => nI (μ.od i9))) := dk_keep hw_8132 hh_8130 hm.od (by decide)
  have h_8141 : w_8131 D.vf = some (108, dk_cl G 700 (fun i9 => μ.vf i9)) := dk_keep hw_8132 hh_8130 hm.vf (by decide)
  have h_8142 : w_8131 D.bv = some (109, dk_cl G 16 (fun i9 => μ.bv i9)) := dk_keep hw_8132 hh_8130 hm.bv (by decide)
  have h_8143 : w_8131 D.df = some (110, dk_cz G 700 (fun i9 => bo_i (μ.df i9))) := dk_keep hw_8132 hh_8130 hm.df (by decide)
  have h_8144 : w_8131 D.ss = some (111, dk_cz G 6 (fun i9 => bo_i (μ.ss i9))) := dk_keep hw_8132 hh_8130 hm.ss (by decide)
  have h_8145 : w_8131 D.bd = some (112, dk_cz G 16 (fun i9 => bo_i (μ.bd i9))) := dk_keep hw_8132 hh_8130 hm.bd (by decide)
  have h_8146 : w_8131 D.ks = some (113, dk_cz G 700 (fun i9 => bo_i (μ.ks i9))) := dk_keep hw_8132 hh_8130 hm.ks (by decide)
  have h_8147 : w_8131 D.bt = some (114, dk_cz G 6000 (fun i9 => bo_i (μ.bt i9))) := dk_keep hw_8132 hh_8130 hm.bt (by decide)
  have hm_8148 : md_at G w_8131 h D (μ.er' 0) := ⟨h_8133, h_8134, h_8135, h_8136, h_8137, h_8138, h_8139, h_8140, h_8141, h_8142, h_8143, h_8144, h_8145, h_8146, h_8147⟩
  have hh_8149 : w_8131 h = some (100, .inr (cx_M, [.int (nI 0), .int (nI μ.n), .int (nI μ.sq), .int (nI μ.sf), .int (nI μ.rs), .int (rI μ.ba), .int (nI μ.pr), .int (nI μ.mi), .ref D.kf, .ref D.nf, .ref D.rf, .ref D.lf, .ref D.sv, .ref D.bk, .ref D.od, .ref D.vf, .ref D.bv, .ref D.df, .ref D.ss, .ref D.bd, .ref D.ks, .ref D.bt])) := hm_8148.o
  have ha_8150 : w_8131 D.kf = some (101, dk_ci G 700 (fun i9 => nI (μ.kf i9))) := hm_8148.kf
  have ha_8151 : w_8131 D.nf = some (102, dk_ci G 700 (fun i9 => nI (μ.nf i9))) := hm_8148.nf
  have ha_8152 : w_8131 D.rf = some (103, dk_ci G 700 (fun i9 => rI (μ.rf i9))) := hm_8148.rf
  have ha_8153 : w_8131 D.lf = some (104, dk_ci G 5000 (fun i9 => rI (μ.lf i9))) := hm_8148.lf
  have ha_8154 : w_8131 D.sv = some (105, dk_ci G 6 (fun i9 => nI (μ.sv i9))) := hm_8148.sv
  have ha_8155 : w_8131 D.bk = some (106, dk_ci G 16 (fun i9 => nI (μ.bk i9))) := hm_8148.bk
  have ha_8156 : w_8131 D.od = some (107, dk_ci G 700 (fun i9 => nI (μ.od i9))) := hm_8148.od
  have ha_8157 : w_8131 D.vf = some (108, dk_cl G 700 (fun i9 => μ.vf i9)) := hm_8148.vf
  have ha_8158 : w_8131 D.bv = some (109, dk_cl G 16 (fun i9 => μ.bv i9)) := hm_8148.bv
  have ha_8159 : w_8131 D.df = some (110, dk_cz G 700 (fun i9 => bo_i (μ.df i9))) := hm_8148.df
  have ha_8160 : w_8131 D.ss = some (111, dk_cz G 6 (fun i9 => bo_i (μ.ss i9))) := hm_8148.ss
  have ha_8161 : w_8131 D.bd = some (112, dk_cz G 16 (fun i9 => bo_i (μ.bd i9))) := hm_8148.bd
  have ha_8162 : w_8131 D.ks = some (113, dk_cz G 700 (fun i9 => bo_i (μ.ks i9))) := hm_8148.ks
  have ha_8163 : w_8131 D.bt = some (114, dk_cz G 6000 (fun i9 => bo_i (μ.bt i9))) := hm_8148.bt
  refine lv_aload_n hx hb de_M_entry_5 rfl (lv_at hl 0 rfl) ?_
  refine lv_iload_n hx hb de_M_entry_6 rfl (lv_at hl 1 rfl) ?_
  refine lv_iconst (v := nI 0) hx hb de_M_entry_7 (by decide) ?_
  refine lv_iconst (v := nI 5) hx hb de_M_entry_8 (by decide) ?_
  refine dk_calli (va_runS (As := [.int (nI l9), .int (nI 0), .int (nI 5)]) (rest := [.ref h]) ⟨hx, hb, hml, hown, hts⟩ (c_M_in l G w_8131 (nI l9) (nI 0) (nI 5)) (va_cwS 3 hts (wd_gS wi_795 wi_793 wi_794 wi_8) rfl rfl rfl (by decide +kernel) ⟨Nat.le_of_ble_eq_true rfl, Nat.le_of_ble_eq_true rfl⟩) (dk_preS hE hP hS) rfl rfl hl.1 rfl (lv_room (Nat.le_of_ble_eq_true rfl)) de_M_entry_9 ⟨(by first | exact Nat.le_of_ble_eq_true rfl | (simp only [Nat.zero_add]; omega) | omega), (by first | exact Nat.le_of_ble_eq_true rfl | (simp only [Nat.zero_add]; omega) | omega)⟩) hS (fun r_8166 w_8164 H locs hq_8165 hP hS => ?_)
  rw [im_y (by decide) (by omega)] at hq_8165
  obtain ⟨hr_8167, he_8168⟩ := hq_8165
  subst hr_8167
  rw [he_8168] at hP
  refine bo_if_eq (b := true) (tgt := 25) hx hb de_M_entry_12 (by decide) (fun c_8169 => ?_) (fun c_8169 => ?_)
  · exact absurd c_8169 (by decide)
  · refine lv_iload hx hb de_M_entry_15 (lv_at hl 4 rfl) ?_
    refine lv_iconst (v := nI 0) hx hb de_M_entry_17 (by decide) ?_
    refine lv_iconst (v := nI 2) hx hb de_M_entry_18 (by decide) ?_
    refine dk_calli (va_runS (As := [.int (nI 2), .int (nI 0), .int (nI 2)]) (rest := [.ref h]) ⟨hx, hb, hml, hown, hts⟩ (c_M_in l G w_8131 (nI 2) (nI 0) (nI 2)) (va_cwS 3 hts (wd_gS wi_795 wi_793 wi_794 wi_8) rfl rfl rfl (by decide +kernel) ⟨Nat.le_of_ble_eq_true rfl, Nat.le_of_ble_eq_true rfl⟩) (dk_preS hE hP hS) rfl rfl hl.1 rfl (lv_room (Nat.le_of_ble_eq_true rfl)) de_M_entry_19 ⟨(by first | exact Nat.le_of_ble_eq_true rfl | (simp only [Nat.zero_add]; omega) | omega), (by first | exact Nat.le_of_ble_eq_true rfl | (simp only [Nat.zero_add]; omega) | omega)⟩) hS (fun r_8172 w_8170 H locs hq_8171 hP hS => ?_)
    rw [im_y (by decide) (by omega)] at hq_8171
    obtain ⟨hr_8173, he_8174⟩ := hq_8171
    subst hr_8173
    rw [he_8174] at hP
    refine bo_if_ne (b := true) (tgt := 29) hx hb de_M_entry_22 (by decide) (fun c_8175 => ?_) (fun c_8175 => ?_)
    · refine lv_iconst (v := nI 0) hx hb de_M_entry_29 (by decide) ?_
      refine lv_iconst (v := nI 1) hx hb de_M_entry_30 (by decide) ?_
      rw [show (nI 0) = bo_i false from (by decide)]
      refine dk_calli (va_runV (As := [.int (bo_i false), .int (nI 1)]) (rest := []) ⟨hx, hb, hml, hown, hts⟩ (c_M_fails l G w_8131 h D (μ.er' 0) hm_8148 false 1 (by decide) (by decide) (show (0 : Nat) < 3 by decide)) (cwV 2 hts (wd_gV (C := "RunKeeperModel") wi_799 wi_796 wi_798 (wd_p (q := (⟨"RunKeeperModel", "fails", "(ZI)Z"⟩, 22)) (by decide +kernel) (by decide +kernel)) wi_8) rfl rfl rfl (by decide +kernel) ⟨Nat.le_of_ble_eq_true rfl, Nat.le_of_ble_eq_true rfl⟩) (dk_preV (kn_M, kt_M, 22) hE hP hS hh_8149 rfl) rfl rfl hl.1 rfl (lv_room (Nat.le_of_ble_eq_true rfl)) de_M_entry_31 ⟨(by first | exact Nat.le_of_ble_eq_true rfl | (simp only [Nat.zero_add]; omega) | omega), (by first | exact Nat.le_of_ble_eq_true rfl | (simp only [Nat.zero_add]; omega) | omega)⟩) hS (fun r_8178 w_8176 H locs hq_8177 hP hS => ?_)
      obtain ⟨hr_8179, hq_8180, hf_8181⟩ := hq_8177
      subst hr_8179
      have hm_8182 : md_at G w_8176 h D ((μ.er' 0).er' 0) := hq_8180
      have hh_8183 : w_8176 h = some (100, .inr (cx_M, [.int (nI 0), .int (nI μ.n), .int (nI μ.sq), .int (nI μ.sf), .int (nI μ.rs), .int (rI μ.ba), .int (nI μ.pr), .int (nI μ.mi), .ref D.kf, .ref D.nf, .ref D.rf, .ref D.lf, .ref D.sv, .ref D.bk, .ref D.od, .ref D.vf, .ref D.bv, .ref D.df, .ref D.ss, .ref D.bd, .ref D.ks, .ref D.bt])) := hm_8182.o
      have ha_8184 : w_8176 D.kf = some (101, dk_ci G 700 (fun i9 => nI (μ.kf i9))) := hm_8182.kf
      have ha_8185 : w_8176 D.nf = some (102, dk_ci G 700 (fun i9 => nI (μ.nf i9))) := hm_8182.nf
      have ha_8186 : w_8176 D.rf = some (103, dk_ci G 700 (fun i9 => rI (μ.rf i9))) := hm_8182.rf
      have ha_8187 : w_8176 D.lf = some (104, dk_ci G 5000 (fun i9 => rI (μ.lf i9))) := hm_8182.lf
      have ha_8188 : w_8176 D.sv = some (105, dk_ci G 6 (fun i9 => nI (μ.sv i9))) := hm_8182.sv
      have ha_8189 : w_8176 D.bk = some (106, dk_ci G 16 (fun i9 => nI (μ.bk i9))) := hm_8182.bk
      have ha_8190 : w_8176 D.od = some (107, dk_ci G 700 (fun i9 => nI (μ.od i9))) := hm_8182.od
      have ha_8191 : w_8176 D.vf = some (108, dk_cl G 700 (fun i9 => μ.vf i9)) := hm_8182.vf
      have ha_8192 : w_8176 D.bv = some (109, dk_cl G 16 (fun i9 => μ.bv i9)) := hm_8182.bv
      have ha_8193 : w_8176 D.df = some (110, dk_cz G 700 (fun i9 => bo_i (μ.df i9))) := hm_8182.df
      have ha_8194 : w_8176 D.ss = some (111, dk_cz G 6 (fun i9 => bo_i (μ.ss i9))) := hm_8182.ss
      have ha_8195 : w_8176 D.bd = some (112, dk_cz G 16 (fun i9 => bo_i (μ.bd i9))) := hm_8182.bd
      have ha_8196 : w_8176 D.ks = some (113, dk_cz G 700 (fun i9 => bo_i (μ.ks i9))) := hm_8182.ks
      have ha_8197 : w_8176 D.bt = some (114, dk_cz G 6000 (fun i9 => bo_i (μ.bt i9))) := hm_8182.bt
      refine bo_if_eq (b := false) (tgt := 39) hx hb de_M_entry_34 (by decide) (fun c_8198 => ?_) (fun c_8198 => ?_)
      · refine lv_iconst (v := (-1)) hx hb de_M_entry_39 (by decide) ?_
        refine lv_istore (lv' := [(5, .int (-1)), (0, .ref h), (1, .int (nI l9)), (2, .int r9), (3, .int (nI k)), (4, .int (nI 2))]) hx hb de_M_entry_40 hl (by decide) rfl (fun ls hl => ?_)
        refine lv_iconst (v := nI 0) hx hb de_M_entry_42 (by decide) ?_
        refine lv_istore (lv' := [(6, .int (nI 0)), (5, .int (-1)), (0, .ref h), (1, .int (nI l9)), (2, .int r9), (3, .int (nI k)), (4, .int (nI 2))]) hx hb de_M_entry_43 hl (by decide) rfl (fun ls hl => ?_)
        refine lv_iconst (v := nI 0) hx hb de_M_entry_45 (by decide) ?_
        refine lv_istore (lv' := [(7, .int (nI 0)), (6, .int (nI 0)), (5, .int (-1)), (0, .ref h), (1, .int (nI l9)), (2, .int r9), (3, .int (nI k)), (4, .int (nI 2))]) hx hb de_M_entry_46 hl (by decide) rfl (fun ls hl => ?_)
        refine lv_iconst (v := nI 0) hx hb de_M_entry_48 (by decide) ?_
        refine lv_istore (lv' := [(8, .int (nI 0)), (7, .int (nI 0)), (6, .int (nI 0)), (5, .int (-1)), (0, .ref h), (1, .int (nI l9)), (2, .int r9), (3, .int (nI k)), (4, .int (nI 2))]) hx hb de_M_entry_49 hl (by decide) rfl (fun ls hl => ?_)
        replace hl : lv_has ls 9 [(8, .int (nI 0)), (7, .int (nI 0)), (6, .int (nI 0)), (5, .int (rI none)), (0, .ref h), (1, .int (nI l9)), (2, .int r9), (3, .int (nI k)), (4, .int (nI 2))] := hl
        have lp : ∀ (zk : Nat) (j : Nat) (o : Option Nat) (m9 : Nat), μ.rs - j < zk → (j ≤ μ.rs) → (id_f μ l9 r9 j = (o, m9)) → (m9 ≤ j) → ∀ (ls : Array Slot), lv_has ls 9 [(0, .ref h), (1, .int (nI l9)), (2, .int r9), (3, .int (nI k)), (4, .int (nI 2)), (5, .int (rI o)), (6, .int (nI m9)), (7, .int (nI 0)), (8, .int (nI j))] → W p l e rm_M_entry s m args below meth c H locs (0 + 0 + 0 + 0) (0 + 0 + 0 + 0) Q (F0 m 51 ls []) := by
          intro zk
          induction zk with
          | zero =>
            intro j o m9 hk
            exact absurd hk (by omega)
          | succ zk ih =>
            intro j o m9 hk hj hid hm9
            intro ls hl
            have hleq := rI_eq (a := μ.lf j) (b := some l9) (fun r hr => by have := ok4 j r hr; omega) (fun r hr => by cases hr; omega)
            refine lv_iload hx hb de_M_entry_51 (lv_at hl 8 rfl) ?_
            refine lv_aload_n hx hb de_M_entry_53 rfl (lv_at hl 0 rfl) ?_
            refine dk_get (a := h) (v := .int (nI μ.rs)) (C := kn_M) (T := kt_M) (N := 22) hx hb hts ki_M hown hK hP hh_8183 rfl 4 (by decide) (hts _ wi_718) (fun _ h9 => h9) rfl de_M_entry_54 ?_
            refine nx_icmp_ge (a := j) (b := μ.rs) (tgt := 90) hx hb (by omega) (by omega) de_M_entry_57 (by decide) (fun c_8199 => ?_) (fun c_8199 => ?_)
            · have e9 : j = μ.rs := by omega
              have hio : id_f μ l9 r9 μ.rs = (o, m9) := by rw [← e9]; exact hid
              have e8 : o = some d0 := by rw [hio] at hn; exact hn
              subst e8
              replace hl : lv_has ls 9 [(0, .ref h), (1, .int (nI l9)), (2, .int r9), (3, .int (nI k)), (4, .int (nI 2)), (5, .int (nI d0)), (6, .int (nI m9)), (7, .int (nI 0)), (8, .int (nI j))] := hl
              refine lv_aload_n hx hb de_M_entry_90 rfl (lv_at hl 0 rfl) ?_
              refine lv_iload hx hb de_M_entry_91 (lv_at hl 5 rfl) ?_
              refine nx_if_lt (a := d0) (tgt := 112) hx hb (by omega) de_M_entry_93 (by decide) ?_
              have hmo2 : md_ok ((μ.er' 0).er' 0) := ⟨ok1, ok2, ok3, ok4, ok5, ok6, ok7, ok8, ok9, ok10, show (0 : Nat) < 3 by decide⟩
              refine lv_iload_n hx hb de_M_entry_96 rfl (lv_at hl 3 rfl) ?_
              refine lv_iconst (v := nI 0) hx hb de_M_entry_97 (by decide) ?_
              refine lv_aload_n hx hb de_M_entry_98 rfl (lv_at hl 0 rfl) ?_
              refine lv_iload hx hb de_M_entry_99 (lv_at hl 5 rfl) ?_
              refine dk_calli (va_runV (As := [.int (nI d0)]) (rest := [.int (nI 0), .int (nI k), .ref h]) ⟨hx, hb, hml, hown, hts⟩ (c_M_inRun l G w_8176 h D ((μ.er' 0).er' 0) hm_8182 hmo2 (some d0) (fun r hr => by cases hr; omega)) (cwV 1 hts (wd_gV (C := "RunKeeperModel") wi_807 wi_804 wi_806 (wd_p (q := (⟨"RunKeeperModel", "inRun", "(I)I"⟩, 22)) (by decide +kernel) (by decide +kernel)) wi_8) rfl rfl rfl (by decide +kernel) ⟨Nat.le_of_ble_eq_true rfl, Nat.le_of_ble_eq_true rfl⟩) (dk_preV (kn_M, kt_M, 22) hE hP hS hh_8183 rfl) rfl rfl hl.1 rfl (lv_room (Nat.le_of_ble_eq_true rfl)) de_M_entry_101 ⟨(by first | exact Nat.le_of_ble_eq_true rfl | (simp only [Nat.zero_add]; omega) | omega), (by first | exact Nat.le_of_ble_eq_true rfl | (simp only [Nat.zero_add]; omega) | omega)⟩) hS (fun r_8205 w_8203 H locs hq_8204 hP hS => ?_)
              obtain ⟨hr_8206, he_8207⟩ := hq_8204
              subst hr_8206
              rw [he_8207] at hP
              refine lv_iconst (v := nI 1) hx hb de_M_entry_104 (by decide) ?_
              refine lv_isub hx hb de_M_entry_105 ?_
              refine dk_calli (va_runS (As := [.int (nI k), .int (nI 0), .int (mI (ct_f (fun k9 => decide (μ.rf k9 = some d0)) μ.n))]) (rest := [.ref h]) ⟨hx, hb, hml, hown, hts⟩ (c_M_in l G w_8176 (nI k) (nI 0) (mI (ct_f (fun k9 => decide (μ.rf k9 = some d0)) μ.n))) (va_cwS 3 hts (wd_gS wi_795 wi_793 wi_794 wi_8) rfl rfl rfl (by decide +kernel) ⟨Nat.le_of_ble_eq_true rfl, Nat.le_of_ble_eq_true rfl⟩) (dk_preS hE hP hS) rfl rfl hl.1 rfl (lv_room (Nat.le_of_ble_eq_true rfl)) de_M_entry_106 ⟨(by first | exact Nat.le_of_ble_eq_true rfl | (simp only [Nat.zero_add]; omega) | omega), (by first | exact Nat.le_of_ble_eq_true rfl | (simp only [Nat.zero_add]; omega) | omega)⟩) hS (fun r_8210 w_8208 H locs hq_8209 hP hS => ?_)
              rw [im_mI (by omega) hkl] at hq_8209
              obtain ⟨hr_8211, he_8212⟩ := hq_8209
              subst hr_8211
              rw [he_8212] at hP
              refine bo_if_ne (b := true) (tgt := 116) hx hb de_M_entry_109 (by decide) (fun c_8213 => ?_) (fun c_8213 => ?_)
              · refine lv_iconst (v := nI 0) hx hb de_M_entry_116 (by decide) ?_
                refine lv_iconst (v := nI 2) hx hb de_M_entry_117 (by decide) ?_
                rw [show (nI 0) = bo_i false from (by decide)]
                refine dk_calli (va_runV (As := [.int (bo_i false), .int (nI 2)]) (rest := []) ⟨hx, hb, hml, hown, hts⟩ (c_M_fails l G w_8176 h D ((μ.er' 0).er' 0) hm_8182 false 2 (by decide) (by decide) (show (0 : Nat) < 3 by decide)) (cwV 2 hts (wd_gV (C := "RunKeeperModel") wi_799 wi_796 wi_798 (wd_p (q := (⟨"RunKeeperModel", "fails", "(ZI)Z"⟩, 22)) (by decide +kernel) (by decide +kernel)) wi_8) rfl rfl rfl (by decide +kernel) ⟨Nat.le_of_ble_eq_true rfl, Nat.le_of_ble_eq_true rfl⟩) (dk_preV (kn_M, kt_M, 22) hE hP hS hh_8183 rfl) rfl rfl hl.1 rfl (lv_room (Nat.le_of_ble_eq_true rfl)) de_M_entry_118 ⟨(by first | exact Nat.le_of_ble_eq_true rfl | (simp only [Nat.zero_add]; omega) | omega), (by first | exact Nat.le_of_ble_eq_true rfl | (simp only [Nat.zero_add]; omega) | omega)⟩) hS (fun r_8216 w_8214 H locs hq_8215 hP hS => ?_)
                obtain ⟨hr_8217, hq_8218, hf_8219⟩ := hq_8215
                subst hr_8217
                have hm_8220 : md_at G w_8214 h D (((μ.er' 0).er' 0).er' 0) := hq_8218
                have hh_8221 : w_8214 h = some (100, .inr (cx_M, [.int (nI 0), .int (nI μ.n), .int (nI μ.sq), .int (nI μ.sf), .int (nI μ.rs), .int (rI μ.ba), .int (nI μ.pr), .int (nI μ.mi), .ref D.kf, .ref D.nf, .ref D.rf, .ref D.lf, .ref D.sv, .ref D.bk, .ref D.od, .ref D.vf, .ref D.bv, .ref D.df, .ref D.ss, .ref D.bd, .ref D.ks, .ref D.bt])) := hm_8220.o
                have ha_8222 : w_8214 D.kf = some (101, dk_ci G 700 (fun i9 => nI (μ.kf i9))) := hm_8220.kf
                have ha_8223 : w_8214 D.nf = some (102, dk_ci G 700 (fun i9 => nI (μ.nf i9))) := hm_8220.nf
                have ha_8224 : w_8214 D.rf = some (103, dk_ci G 700 (fun i9 => rI (μ.rf i9))) := hm_8220.rf
                have ha_8225 : w_8214 D.lf = some (104, dk_ci G 5000 (fun i9 => rI (μ.lf i9))) := hm_8220.lf
                have ha_8226 : w_8214 D.sv = some (105, dk_ci G 6 (fun i9 => nI (μ.sv i9))) := hm_8220.sv
                have ha_8227 : w_8214 D.bk = some (106, dk_ci G 16 (fun i9 => nI (μ.bk i9))) := hm_8220.bk
                have ha_8228 : w_8214 D.od = some (107, dk_ci G 700 (fun i9 => nI (μ.od i9))) := hm_8220.od
                have ha_8229 : w_8214 D.vf = some (108, dk_cl G 700 (fun i9 => μ.vf i9)) := hm_8220.vf
                have ha_8230 : w_8214 D.bv = some (109, dk_cl G 16 (fun i9 => μ.bv i9)) := hm_8220.bv
                have ha_8231 : w_8214 D.df = some (110, dk_cz G 700 (fun i9 => bo_i (μ.df i9))) := hm_8220.df
                have ha_8232 : w_8214 D.ss = some (111, dk_cz G 6 (fun i9 => bo_i (μ.ss i9))) := hm_8220.ss
                have ha_8233 : w_8214 D.bd = some (112, dk_cz G 16 (fun i9 => bo_i (μ.bd i9))) := hm_8220.bd
                have ha_8234 : w_8214 D.ks = some (113, dk_cz G 700 (fun i9 => bo_i (μ.ks i9))) := hm_8220.ks
                have ha_8235 : w_8214 D.bt = some (114, dk_cz G 6000 (fun i9 => bo_i (μ.bt i9))) := hm_8220.bt
                refine bo_if_eq (b := false) (tgt := 126) hx hb de_M_entry_121 (by decide) (fun c_8236 => ?_) (fun c_8236 => ?_)
                · refine lv_iconst (v := nI 0) hx hb de_M_entry_126 (by decide) ?_
                  refine lv_istore (lv' := [(6, .int (nI 0)), (0, .ref h), (1, .int (nI l9)), (2, .int r9), (3, .int (nI k)), (4, .int (nI 2)), (5, .int (nI d0)), (7, .int (nI 0)), (8, .int (nI j))]) hx hb de_M_entry_127 hl (by decide) rfl (fun ls hl => ?_)
                  refine lv_iconst (v := nI 0) hx hb de_M_entry_129 (by decide) ?_
                  refine lv_istore (lv' := [(8, .int (nI 0)), (6, .int (nI 0)), (0, .ref h), (1, .int (nI l9)), (2, .int r9), (3, .int (nI k)), (4, .int (nI 2)), (5, .int (nI d0)), (7, .int (nI 0))]) hx hb de_M_entry_130 hl (by decide) rfl (fun ls hl => ?_)
                  have lp2 : ∀ (zk2 : Nat) (i : Nat) (g : Nat → Nat), μ.n - i < zk2 → (i ≤ μ.n) → (ra_ok (fw_d μ) (fun q => some (g q)) (so_st (en_r μ d0 i))) → ∀ (H : Heap) (locs : List Loc) (v : dk_H), (md_at G v h D ((μ.er' 0).od' g)) → (dk_fr md_T w v) → dk_P G v H → dk_S G s.heap H locs → ∀ (ls : Array Slot), lv_has ls 9 [(0, .ref h), (3, .int (nI k)), (4, .int (nI 2)), (5, .int (nI d0)), (6, .int (nI (ct_f (fun k9 => decide (μ.rf k9 = some d0)) i))), (8, .int (nI i))] → W p l e rm_M_entry s m args below meth c H locs (0 + 0 + 0 + 0 + 0 + 0 + 0) (0 + 0 + 0 + 0 + 0 + 0 + 0) Q (F0 m 132 ls []) := by
                    intro zk2
                    induction zk2 with
                    | zero =>
                      intro i g hk
                      exact absurd hk (by omega)
                    | succ zk2 ih2 =>
                      intro i g hk hi hra
                      intro H locs v hmv hg hP hS
                      intro ls hl
                      have hh_8237 : v h = some (100, .inr (cx_M, [.int (nI 0), .int (nI μ.n), .int (nI μ.sq), .int (nI μ.sf), .int (nI μ.rs), .int (rI μ.ba), .int (nI μ.pr), .int (nI μ.mi), .ref D.kf, .ref D.nf, .ref D.rf, .ref D.lf, .ref D.sv, .ref D.bk, .ref D.od, .ref D.vf, .ref D.bv, .ref D.df, .ref D.ss, .ref D.bd, .ref D.ks, .ref D.bt])) := hmv.o
                      have ha_8238 : v D.kf = some (101, dk_ci G 700 (fun i9 => nI (μ.kf i9))) := hmv.kf
                      have ha_8239 : v D.nf = some (102, dk_ci G 700 (fun i9 => nI (μ.nf i9))) := hmv.nf
                      have ha_8240 : v D.rf = some (103, dk_ci G 700 (fun i9 => rI (μ.rf i9))) := hmv.rf
                      have ha_8241 : v D.lf = some (104, dk_ci G 5000 (fun i9 => rI (μ.lf i9))) := hmv.lf
                      have ha_8242 : v D.sv = some (105, dk_ci G 6 (fun i9 => nI (μ.sv i9))) := hmv.sv
                      have ha_8243 : v D.bk = some (106, dk_ci G 16 (fun i9 => nI (μ.bk i9))) := hmv.bk
                      have ha_8244 : v D.od = some (107, dk_ci G 700 (fun i9 => nI (g i9))) := hmv.od
                      have ha_8245 : v D.vf = some (108, dk_cl G 700 (fun i9 => μ.vf i9)) := hmv.vf
                      have ha_8246 : v D.bv = some (109, dk_cl G 16 (fun i9 => μ.bv i9)) := hmv.bv
                      have ha_8247 : v D.df = some (110, dk_cz G 700 (fun i9 => bo_i (μ.df i9))) := hmv.df
                      have ha_8248 : v D.ss = some (111, dk_cz G 6 (fun i9 => bo_i (μ.ss i9))) := hmv.ss
                      have ha_8249 : v D.bd = some (112, dk_cz G 16 (fun i9 => bo_i (μ.bd i9))) := hmv.bd
                      have ha_8250 : v D.ks = some (113, dk_cz G 700 (fun i9 => bo_i (μ.ks i9))) := hmv.ks
                      have ha_8251 : v D.bt = some (114, dk_cz G 6000 (fun i9 => bo_i (μ.bt i9))) := hmv.bt
                      have hreq := rI_eq (a := μ.rf i) (b := some d0) (fun r hr => by have := ok3 i r hr; omega) (fun r hr => by cases hr; omega)
                      have hcti := ct_le (fun k9 => decide (μ.rf k9 = some d0)) i
                      have hlen : (so_st (en_r μ d0 i)).length = ct_f (fun k9 => decide (μ.rf k9 = some d0)) i := by rw [so_st_len, en_r_len]
                      refine lv_iload hx hb de_M_entry_132 (lv_at hl 5 rfl) ?_
                      refine lv_aload_n hx hb de_M_entry_134 rfl (lv_at hl 0 rfl) ?_
                      refine dk_get (a := h) (v := .int (nI μ.n)) (C := kn_M) (T := kt_M) (N := 22) hx hb hts ki_M hown hK hP hh_8237 rfl 1 (by decide) (hts _ wi_715) (fun _ h9 => h9) rfl de_M_entry_135 ?_
                      refine nx_icmp_ge (a := i) (b := μ.n) (tgt := 223) hx hb (by omega) (by omega) de_M_entry_138 (by decide) (fun c_8252 => ?_) (fun c_8252 => ?_)
                      · have e6 : i = μ.n := by omega
                        rw [e6] at hra
                        obtain ⟨a1, ha1, hb1⟩ := hra k x9 hx9
                        obtain ⟨ha2, hx2⟩ := fw_i hmo (so_r_ok hmo hx9) hb1
                        have hgk : g k = a1 := Option.some.inj ha1
                        refine lv_aload_n hx hb de_M_entry_223 rfl (lv_at hl 0 rfl) ?_
                        refine dk_get (a := h) (v := .ref D.od) (C := kn_M) (T := kt_M) (N := 22) hx hb hts ki_M hown hK hP hh_8237 rfl 14 (by decide) (hts _ wi_728) (fun _ h9 => h9) rfl de_M_entry_224 ?_
                        refine lv_iload_n hx hb de_M_entry_227 rfl (lv_at hl 1 rfl) ?_
                        refine dk_iald (a := D.od) hx hb hK hP ha_8244 k rfl (by omega) (by omega) de_M_entry_228 ?_
                        rw [hgk]
                        refine lv_istore (lv' := [(8, .int (nI a1)), (0, .ref h), (3, .int (nI k)), (4, .int (nI 2)), (5, .int (nI d0)), (6, .int (nI (ct_f (fun k9 => decide (μ.rf k9 = some d0)) i)))]) hx hb de_M_entry_229 hl (by decide) rfl (fun ls hl => ?_)
                        refine lv_iload hx hb de_M_entry_231 (lv_at hl 3 rfl) ?_
                        subst hx2
                        refine nx_if_ne (a := 2) (tgt := 246) hx hb (by omega) de_M_entry_233 (by decide) (fun c_8330 => ?_) (fun c_8330 => ?_)
                        · refine lv_iload hx hb de_M_entry_246 (lv_at hl 3 rfl) ?_
                          refine lv_iconst (v := nI 1) hx hb de_M_entry_248 (by decide) ?_
                          refine nx_icmp_ne (a := 2) (b := 1) (tgt := 262) hx hb (by omega) (by omega) de_M_entry_249 (by decide) (fun c_8331 => ?_) (fun c_8331 => ?_)
                          · refine lv_aload_n hx hb de_M_entry_262 rfl (lv_at hl 1 rfl) ?_
                            refine dk_get (a := h) (v := .ref D.df) (C := kn_M) (T := kt_M) (N := 22) hx hb hts ki_M hown hK hP hh_8237 rfl 17 (by decide) (hts _ wi_731) (fun _ h9 => h9) rfl de_M_entry_263 ?_
                            refine lv_iload hx hb de_M_entry_266 (lv_at hl 0 rfl) ?_
                            refine dk_zald (a := D.df) hx hb hK hP ha_8247 a1 rfl (by omega) (by omega) de_M_entry_268 ?_
                            refine bo_if_eq (b := (μ.df a1)) (tgt := 276) hx hb de_M_entry_269 (by decide) (fun c_8332 => ?_) (fun c_8332 => ?_)
                            · refine lv_iconst (v := nI 0) hx hb de_M_entry_276 (by decide) ?_
                              exact dk_iret hQ hx hb hr hlocks hP hS (Nat.le_refl _) (Nat.le_refl _) (⟨bo_of0 c_8332, ⟨g, hmv⟩, hg⟩) de_M_entry_277
                            · refine lv_iconst (v := nI 1) hx hb de_M_entry_272 (by decide) ?_
                              refine lv_goto (tgt := 277) hx hb de_M_entry_273 (by decide) ?_
                              exact dk_iret hQ hx hb hr hlocks hP hS (Nat.le_refl _) (Nat.le_refl _) (⟨bo_of1 c_8332, ⟨g, hmv⟩, hg⟩) de_M_entry_277
                          · exact absurd c_8331 (by omega)
                        · exact absurd c_8330 (by omega)
                      · refine lv_aload_n hx hb de_M_entry_141 rfl (lv_at hl 0 rfl) ?_
                        refine dk_get (a := h) (v := .ref D.rf) (C := kn_M) (T := kt_M) (N := 22) hx hb hts ki_M hown hK hP hh_8237 rfl 10 (by decide) (hts _ wi_724) (fun _ h9 => h9) rfl de_M_entry_142 ?_
                        refine lv_iload hx hb de_M_entry_145 (lv_at hl 5 rfl) ?_
                        refine dk_iald (a := D.rf) hx hb hK hP ha_8240 i rfl (by omega) (by omega) de_M_entry_147 ?_
                        refine lv_iload hx hb de_M_entry_148 (lv_at hl 3 rfl) ?_
                        refine lv_icmp_eq (tgt := 156) hx hb de_M_entry_150 (by decide) (fun c_8253 => ?_) (fun c_8253 => ?_)
                        · have e7 : μ.rf i = some d0 := hreq.mp c_8253
                          obtain ⟨mm, hmm⟩ : ∃ mm, mm = ct_f (fun k9 => decide (μ.rf k9 = some d0)) i := ⟨_, rfl⟩
                          rw [← hmm] at hl hlen hcti
                          have hsh := sh_ok.init (R := []) (by rw [List.append_nil]; exact hra)
                          rw [hlen] at hsh
                          refine lv_iload hx hb de_M_entry_156 (lv_at hl 4 rfl) ?_
                          refine lv_iinc (v := nI (mm + 1)) (lv' := [(6, .int (nI (mm + 1))), (0, .ref h), (3, .int (nI k)), (4, .int (nI 2)), (5, .int (nI d0)), (8, .int (nI i))]) hx hb de_M_entry_158 hl (k := 4) rfl (nx_inc mm) (by decide) rfl (fun ls hl => ?_)
                          refine lv_istore (lv' := [(7, .int (nI mm)), (6, .int (nI (mm + 1))), (0, .ref h), (3, .int (nI k)), (4, .int (nI 2)), (5, .int (nI d0)), (8, .int (nI i))]) hx hb de_M_entry_161 hl (by decide) rfl (fun ls hl => ?_)
                          have lp3 : ∀ (zk3 : Nat) (p9 : Nat) (g2 : Nat → Nat), p9 < zk3 → (p9 ≤ mm) → (∀ (j : Nat) (y : en_T), p9 ≤ j → (so_st (en_r μ d0 i))[j]? = some y → en_b (me_e μ i) y = true) → (sh_ok (fw_d μ) (fun q => some (g2 q)) (so_st (en_r μ d0 i)) p9) → ∀ (H : Heap) (locs : List Loc) (v3 : dk_H), (md_at G v3 h D ((μ.er' 0).od' g2)) → (dk_fr md_T w v3) → dk_P G v3 H → dk_S G s.heap H locs → ∀ (ls : Array Slot), lv_has ls 9 [(0, .ref h), (3, .int (nI k)), (4, .int (nI 2)), (5, .int (nI d0)), (6, .int (nI (mm + 1))), (7, .int (nI p9)), (8, .int (nI i))] → W p l e rm_M_entry s m args below meth c H locs (0 + 0 + 0 + 0 + 0 + 0 + 0) (0 + 0 + 0 + 0 + 0 + 0 + 0) Q (F0 m 163 ls []) := by
                            intro zk3
                            induction zk3 with
                            | zero =>
                              intro p9 g2 hk
                              exact absurd hk (by omega)
                            | succ zk3 ih3 =>
                              intro p9 g2 hk hp9 hal hs2
                              intro H locs v3 hmv3 hg3 hP hS
                              intro ls hl
                              have hh_8254 : v3 h = some (100, .inr (cx_M, [.int (nI 0), .int (nI μ.n), .int (nI μ.sq), .int (nI μ.sf), .int (nI μ.rs), .int (rI μ.ba), .int (nI μ.pr), .int (nI μ.mi), .ref D.kf, .ref D.nf, .ref D.rf, .ref D.lf, .ref D.sv, .ref D.bk, .ref D.od, .ref D.vf, .ref D.bv, .ref D.df, .ref D.ss, .ref D.bd, .ref D.ks, .ref D.bt])) := hmv3.o
                              have ha_8255 : v3 D.kf = some (101, dk_ci G 700 (fun i9 => nI (μ.kf i9))) := hmv3.kf
                              have ha_8256 : v3 D.nf = some (102, dk_ci G 700 (fun i9 => nI (μ.nf i9))) := hmv3.nf
                              have ha_8257 : v3 D.rf = some (103, dk_ci G 700 (fun i9 => rI (μ.rf i9))) := hmv3.rf
                              have ha_8258 : v3 D.lf = some (104, dk_ci G 5000 (fun i9 => rI (μ.lf i9))) := hmv3.lf
                              have ha_8259 : v3 D.sv = some (105, dk_ci G 6 (fun i9 => nI (μ.sv i9))) := hmv3.sv
                              have ha_8260 : v3 D.bk = some (106, dk_ci G 16 (fun i9 => nI (μ.bk i9))) := hmv3.bk
                              have ha_8261 : v3 D.od = some (107, dk_ci G 700 (fun i9 => nI (g2 i9))) := hmv3.od
                              have ha_8262 : v3 D.vf = some (108, dk_cl G 700 (fun i9 => μ.vf i9)) := hmv3.vf
                              have ha_8263 : v3 D.bv = some (109, dk_cl G 16 (fun i9 => μ.bv i9)) := hmv3.bv
                              have ha_8264 : v3 D.df = some (110, dk_cz G 700 (fun i9 => bo_i (μ.df i9))) := hmv3.df
                              have ha_8265 : v3 D.ss = some (111, dk_cz G 6 (fun i9 => bo_i (μ.ss i9))) := hmv3.ss
                              have ha_8266 : v3 D.bd = some (112, dk_cz G 16 (fun i9 => bo_i (μ.bd i9))) := hmv3.bd
                              have ha_8267 : v3 D.ks = some (113, dk_cz G 700 (fun i9 => bo_i (μ.ks i9))) := hmv3.ks
                              have ha_8268 : v3 D.bt = some (114, dk_cz G 6000 (fun i9 => bo_i (μ.bt i9))) := hmv3.bt
                              have hmo3 : md_ok ((μ.er' 0).od' g2) := ⟨ok1, ok2, ok3, ok4, ok5, ok6, ok7, ok8, ok9, ok10, show (0 : Nat) < 3 by decide⟩
                              refine lv_iload hx hb de_M_entry_163 (lv_at hl 5 rfl) ?_
                              refine nx_if_le (a := p9) (tgt := 208) hx hb (by omega) de_M_entry_165 (by decide) (fun c_8269 => ?_) (fun c_8269 => ?_)
                              · refine lv_aload_n hx hb de_M_entry_208 rfl (lv_at hl 0 rfl) ?_
                                refine dk_get (a := h) (v := .ref D.od) (C := kn_M) (T := kt_M) (N := 22) hx hb hts ki_M hown hK hP hh_8254 rfl 14 (by decide) (hts _ wi_728) (fun _ h9 => h9) rfl de_M_entry_209 ?_
                                refine lv_iload hx hb de_M_entry_212 (lv_at hl 5 rfl) ?_
                                refine lv_iload hx hb de_M_entry_214 (lv_at hl 6 rfl) ?_
                                refine dk_iast (a := D.od) (x := (nI i)) hx hb hK hP hS ha_8261 p9 rfl (by omega) (by omega) de_M_entry_216 (fun H locs w_8270 hw_8271 hP hS => ?_)
                                rw [up_nI] at hw_8271
                                have h_8272 : w_8270 D.od = some (107, dk_ci G 700 (fun i9 => nI ((va_up g2 p9 i) i9))) := dk_here hw_8271
                                have h_8273 : w_8270 h = some (100, .inr (cx_M, [.int (nI 0), .int (nI μ.n), .int (nI μ.sq), .int (nI μ.sf), .int (nI μ.rs), .int (rI μ.ba), .int (nI μ.pr), .int (nI μ.mi), .ref D.kf, .ref D.nf, .ref D.rf, .ref D.lf, .ref D.sv, .ref D.bk, .ref D.od, .ref D.vf, .ref D.bv, .ref D.df, .ref D.ss, .ref D.bd, .ref D.ks, .ref D.bt])) := dk_keep hw_8271 ha_8261 hh_8254 (by decide)
                                have h_8274 : w_8270 D.kf = some (101, dk_ci G 700 (fun i9 => nI (μ.kf i9))) := dk_keep hw_8271 ha_8261 ha_8255 (by decide)
                                have h_8275 : w_8270 D.nf = some (102, dk_ci G 700 (fun i9 => nI (μ.nf i9))) := dk_keep hw_8271 ha_8261 ha_8256 (by decide)
                                have h_8276 : w_8270 D.rf = some (103, dk_ci G 700 (fun i9 => rI (μ.rf i9))) := dk_keep hw_8271 ha_8261 ha_8257 (by decide)
                                have h_8277 : w_8270 D.lf = some (104, dk_ci G 5000 (fun i9 => rI (μ.lf i9))) := dk_keep hw_8271 ha_8261 ha_8258 (by decide)
                                have h_8278 : w_8270 D.sv = some (105, dk_ci G 6 (fun i9 => nI (μ.sv i9))) := dk_keep hw_8271 ha_8261 ha_8259 (by decide)
                                have h_8279 : w_8270 D.bk = some (106, dk_ci G 16 (fun i9 => nI (μ.bk i9))) := dk_keep hw_8271 ha_8261 ha_8260 (by decide)
                                have h_8280 : w_8270 D.vf = some (108, dk_cl G 700 (fun i9 => μ.vf i9)) := dk_keep hw_8271 ha_8261 ha_8262 (by decide)
                                have h_8281 : w_8270 D.bv = some (109, dk_cl G 16 (fun i9 => μ.bv i9)) := dk_keep hw_8271 ha_8261 ha_8263 (by decide)
                                have h_8282 : w_8270 D.df = some (110, dk_cz G 700 (fun i9 => bo_i (μ.df i9))) := dk_keep hw_8271 ha_8261 ha_8264 (by decide)
                                have h_8283 : w_8270 D.ss = some (111, dk_cz G 6 (fun i9 => bo_i (μ.ss i9))) := dk_keep hw_8271 ha_8261 ha_8265 (by decide)
                                have h_8284 : w_8270 D.bd = some (112, dk_cz G 16 (fun i9 => bo_i (μ.bd i9))) := dk_keep hw_8271 ha_8261 ha_8266 (by decide)
                                have h_8285 : w_8270 D.ks = some (113, dk_cz G 700 (fun i9 => bo_i (μ.ks i9))) := dk_keep hw_8271 ha_8261 ha_8267 (by decide)
                                have h_8286 : w_8270 D.bt = some (114, dk_cz G 6000 (fun i9 => bo_i (μ.bt i9))) := dk_keep hw_8271 ha_8261 ha_8268 (by decide)
                                refine lv_iinc (v := nI (i + 1)) (lv' := [(8, .int (nI (i + 1))), (0, .ref h), (3, .int (nI k)), (4, .int (nI 2)), (5, .int (nI d0)), (6, .int (nI (mm + 1))), (7, .int (nI p9))]) hx hb de_M_entry_217 hl (k := 6) rfl (nx_inc i) (by decide) rfl (fun ls hl => ?_)
                                refine lv_goto (tgt := 132) hx hb de_M_entry_220 (by decide) ?_
                                have hm_8287 : md_at G w_8270 h D (((μ.er' 0).od' g2).od' (va_up g2 p9 i)) := ⟨h_8273, h_8274, h_8275, h_8276, h_8277, h_8278, h_8279, h_8272, h_8280, h_8281, h_8282, h_8283, h_8284, h_8285, h_8286⟩
                                have hso : so_n (me_e μ i) (so_st (en_r μ d0 i)) = p9 := so_n_of _ _ p9 (by rw [hlen]; exact hp9) hal (fun y h0 => absurd h0 (by omega))
                                have hra2 := os_done hlen hs2 hso (c_8252)
                                replace hl : lv_has ls 9 [(8, .int (nI (i + 1))), (0, .ref h), (3, .int (nI k)), (4, .int (nI 2)), (5, .int (nI d0)), (6, .int (nI (ct_f (fun k9 => decide (μ.rf k9 = some d0)) (i + 1)))), (7, .int (nI p9))] := by rw [ct_y (p := fun k9 => decide (μ.rf k9 = some d0)) (decide_eq_true e7), ← hmm]; exact hl
                                exact ih2 (i + 1) (va_up g2 p9 i) (by omega) (by omega) (by rw [en_ry e7, so_snoc]; exact hra2) _ _ _ hm_8287 (hg3.tr ((dk_fr.rf).tr ((dk_fr.up (T := md_T) ha_8261 (by unfold md_T; omega)).eq hw_8271))) hP hS _ (lv_sub hl [1, 2, 3, 4, 5, 0] rfl)
                              · obtain ⟨p8, hp8⟩ : ∃ p8, p9 = p8 + 1 := ⟨p9 - 1, by omega⟩
                                obtain ⟨y8, hy8⟩ := ge_at (L := so_st (en_r μ d0 i)) (i := p8) (by omega)
                                obtain ⟨a8, ha8, hb8⟩ := hs2.1 p8 y8 (by omega) hy8
                                have hga : g2 (p9 - 1) = a8 := by rw [hp8, Nat.add_sub_cancel]; exact Option.some.inj ha8
                                obtain ⟨ha7, hy7⟩ := fw_i hmo (so_r_ok hmo hy8) hb8
                                refine lv_aload_n hx hb de_M_entry_168 rfl (lv_at hl 0 rfl) ?_
                                refine lv_iload hx hb de_M_entry_169 (lv_at hl 6 rfl) ?_
                                refine lv_aload_n hx hb de_M_entry_171 rfl (lv_at hl 0 rfl) ?_
                                refine dk_get (a := h) (v := .ref D.od) (C := kn_M) (T := kt_M) (N := 22) hx hb hts ki_M hown hK hP hh_8254 rfl 14 (by decide) (hts _ wi_728) (fun _ h9 => h9) rfl de_M_entry_172 ?_
                                refine lv_iload hx hb de_M_entry_175 (lv_at hl 5 rfl) ?_
                                refine lv_iconst (v := nI 1) hx hb de_M_entry_177 (by decide) ?_
                                refine nx_isub (a := p9) (b := 1) hx hb (by omega) de_M_entry_178 ?_
                                refine dk_iald (a := D.od) hx hb hK hP ha_8261 (p9 - 1) rfl (by omega) (by omega) de_M_entry_179 ?_
                                rw [hga]
                                refine dk_calli (va_runV (As := [.int (nI i), .int (nI a8)]) (rest := []) ⟨hx, hb, hml, hown, hts⟩ (c_M_comesBefore l G v3 h D ((μ.er' 0).od' g2) hmv3 hmo3 i a8 (by omega) (by omega)) (cwV 2 hts (wd_gV (C := "RunKeeperModel") wi_910 wi_907 wi_909 (wd_p (q := (⟨"RunKeeperModel", "comesBefore", "(II)Z"⟩, 22)) (by decide +kernel) (by decide +kernel)) wi_8) rfl rfl rfl (by decide +kernel) ⟨Nat.le_of_ble_eq_true rfl, Nat.le_of_ble_eq_true rfl⟩) (dk_preV (kn_M, kt_M, 22) hE hP hS hh_8254 rfl) rfl rfl hl.1 rfl (lv_room (Nat.le_of_ble_eq_true rfl)) de_M_entry_180 ⟨(by first | exact Nat.le_of_ble_eq_true rfl | (simp only [Nat.zero_add]; omega) | omega), (by first | exact Nat.le_of_ble_eq_true rfl | (simp only [Nat.zero_add]; omega) | omega)⟩) hS (fun r_8290 w_8288 H locs hq_8289 hP hS => ?_)
                                obtain ⟨hr_8291, he_8292⟩ := hq_8289
                                subst hr_8291
                                rw [he_8292] at hP
                                refine bo_if_eq (b := (en_b (me_e μ i) (me_e μ a8))) (tgt := 208) hx hb de_M_entry_183 (by decide) (fun c_8293 => ?_) (fun c_8293 => ?_)
                                · have e5 : en_b (me_e μ i) y8 = false := by rw [← hy7]; exact c_8293
                                  refine lv_aload_n hx hb de_M_entry_208 rfl (lv_at hl 0 rfl) ?_
                                  refine dk_get (a := h) (v := .ref D.od) (C := kn_M) (T := kt_M) (N := 22) hx hb hts ki_M hown hK hP hh_8254 rfl 14 (by decide) (hts _ wi_728) (fun _ h9 => h9) rfl de_M_entry_209 ?_
                                  refine lv_iload hx hb de_M_entry_212 (lv_at hl 5 rfl) ?_
                                  refine lv_iload hx hb de_M_entry_214 (lv_at hl 6 rfl) ?_
                                  refine dk_iast (a := D.od) (x := (nI i)) hx hb hK hP hS ha_8261 p9 rfl (by omega) (by omega) de_M_entry_216 (fun H locs w_8294 hw_8295 hP hS => ?_)
                                  rw [up_nI] at hw_8295
                                  have h_8296 : w_8294 D.od = some (107, dk_ci G 700 (fun i9 => nI ((va_up g2 p9 i) i9))) := dk_here hw_8295
                                  have h_8297 : w_8294 h = some (100, .inr (cx_M, [.int (nI 0), .int (nI μ.n), .int (nI μ.sq), .int (nI μ.sf), .int (nI μ.rs), .int (rI μ.ba), .int (nI μ.pr), .int (nI μ.mi), .ref D.kf, .ref D.nf, .ref D.rf, .ref D.lf, .ref D.sv, .ref D.bk, .ref D.od, .ref D.vf, .ref D.bv, .ref D.df, .ref D.ss, .ref D.bd, .ref D.ks, .ref D.bt])) := dk_keep hw_8295 ha_8261 hh_8254 (by decide)
                                  have h_8298 : w_8294 D.kf = some (101, dk_ci G 700 (fun i9 => nI (μ.kf i9))) := dk_keep hw_8295 ha_8261 ha_8255 (by decide)
                                  have h_8299 : w_8294 D.nf = some (102, dk_ci G 700 (fun i9 => nI (μ.nf i9))) := dk_keep hw_8295 ha_8261 ha_8256 (by decide)
                                  have h_8300 : w_8294 D.rf = some (103, dk_ci G 700 (fun i9 => rI (μ.rf i9))) := dk_keep hw_8295 ha_8261 ha_8257 (by decide)
                                  have h_8301 : w_8294 D.lf = some (104, dk_ci G 5000 (fun i9 => rI (μ.lf i9))) := dk_keep hw_8295 ha_8261 ha_8258 (by decide)
                                  have h_8302 : w_8294 D.sv = some (105, dk_ci G 6 (fun i9 => nI (μ.sv i9))) := dk_keep hw_8295 ha_8261 ha_8259 (by decide)
                                  have h_8303 : w_8294 D.bk = some (106, dk_ci G 16 (fun i9 => nI (μ.bk i9))) := dk_keep hw_8295 ha_8261 ha_8260 (by decide)
                                  have h_8304 : w_8294 D.vf = some (108, dk_cl G 700 (fun i9 => μ.vf i9)) := dk_keep hw_8295 ha_8261 ha_8262 (by decide)
                                  have h_8305 : w_8294 D.bv = some (109, dk_cl G 16 (fun i9 => μ.bv i9)) := dk_keep hw_8295 ha_8261 ha_8263 (by decide)
                                  have h_8306 : w_8294 D.df = some (110, dk_cz G 700 (fun i9 => bo_i (μ.df i9))) := dk_keep hw_8295 ha_8261 ha_8264 (by decide)
                                  have h_8307 : w_8294 D.ss = some (111, dk_cz G 6 (fun i9 => bo_i (μ.ss i9))) := dk_keep hw_8295 ha_8261 ha_8265 (by decide)
                                  have h_8308 : w_8294 D.bd = some (112, dk_cz G 16 (fun i9 => bo_i (μ.bd i9))) := dk_keep hw_8295 ha_8261 ha_8266 (by decide)
                                  have h_8309 : w_8294 D.ks = some (113, dk_cz G 700 (fun i9 => bo_i (μ.ks i9))) := dk_keep hw_8295 ha_8261 ha_8267 (by decide)
                                  have h_8310 : w_8294 D.bt = some (114, dk_cz G 6000 (fun i9 => bo_i (μ.bt i9))) := dk_keep hw_8295 ha_8261 ha_8268 (by decide)
                                  refine lv_iinc (v := nI (i + 1)) (lv' := [(8, .int (nI (i + 1))), (0, .ref h), (3, .int (nI k)), (4, .int (nI 2)), (5, .int (nI d0)), (6, .int (nI (mm + 1))), (7, .int (nI p9))]) hx hb de_M_entry_217 hl (k := 6) rfl (nx_inc i) (by decide) rfl (fun ls hl => ?_)
                                  refine lv_goto (tgt := 132) hx hb de_M_entry_220 (by decide) ?_
                                  have hm_8311 : md_at G w_8294 h D (((μ.er' 0).od' g2).od' (va_up g2 p9 i)) := ⟨h_8297, h_8298, h_8299, h_8300, h_8301, h_8302, h_8303, h_8296, h_8304, h_8305, h_8306, h_8307, h_8308, h_8309, h_8310⟩
                                  have hso : so_n (me_e μ i) (so_st (en_r μ d0 i)) = p9 := so_n_of _ _ p9 (by rw [hlen]; exact hp9) hal (fun y h0 hy => by rw [hp8, Nat.add_sub_cancel, hy8] at hy; cases hy; exact e5)
                                  have hra2 := os_done hlen hs2 hso (c_8252)
                                  replace hl : lv_has ls 9 [(8, .int (nI (i + 1))), (0, .ref h), (3, .int (nI k)), (4, .int (nI 2)), (5, .int (nI d0)), (6, .int (nI (ct_f (fun k9 => decide (μ.rf k9 = some d0)) (i + 1)))), (7, .int (nI p9))] := by rw [ct_y (p := fun k9 => decide (μ.rf k9 = some d0)) (decide_eq_true e7), ← hmm]; exact hl
                                  exact ih2 (i + 1) (va_up g2 p9 i) (by omega) (by omega) (by rw [en_ry e7, so_snoc]; exact hra2) _ _ _ hm_8311 (hg3.tr ((dk_fr.rf).tr ((dk_fr.up (T := md_T) ha_8261 (by unfold md_T; omega)).eq hw_8295))) hP hS _ (lv_sub hl [1, 2, 3, 4, 5, 0] rfl)
                                · have e5 : en_b (me_e μ i) y8 = true := by rw [← hy7]; exact c_8293
                                  refine lv_aload_n hx hb de_M_entry_186 rfl (lv_at hl 0 rfl) ?_
                                  refine dk_get (a := h) (v := .ref D.od) (C := kn_M) (T := kt_M) (N := 22) hx hb hts ki_M hown hK hP hh_8254 rfl 14 (by decide) (hts _ wi_728) (fun _ h9 => h9) rfl de_M_entry_187 ?_
                                  refine lv_iload hx hb de_M_entry_190 (lv_at hl 5 rfl) ?_
                                  refine lv_aload_n hx hb de_M_entry_192 rfl (lv_at hl 0 rfl) ?_
                                  refine dk_get (a := h) (v := .ref D.od) (C := kn_M) (T := kt_M) (N := 22) hx hb hts ki_M hown hK hP hh_8254 rfl 14 (by decide) (hts _ wi_728) (fun _ h9 => h9) rfl de_M_entry_193 ?_
                                  refine lv_iload hx hb de_M_entry_196 (lv_at hl 5 rfl) ?_
                                  refine lv_iconst (v := nI 1) hx hb de_M_entry_198 (by decide) ?_
                                  refine nx_isub (a := p9) (b := 1) hx hb (by omega) de_M_entry_199 ?_
                                  refine dk_iald (a := D.od) hx hb hK hP ha_8261 (p9 - 1) rfl (by omega) (by omega) de_M_entry_200 ?_
                                  rw [hga]
                                  refine dk_iast (a := D.od) (x := (nI a8)) hx hb hK hP hS ha_8261 p9 rfl (by omega) (by omega) de_M_entry_201 (fun H locs w_8312 hw_8313 hP hS => ?_)
                                  rw [up_nI] at hw_8313
                                  have h_8314 : w_8312 D.od = some (107, dk_ci G 700 (fun i9 => nI ((va_up g2 p9 a8) i9))) := dk_here hw_8313
                                  have h_8315 : w_8312 h = some (100, .inr (cx_M, [.int (nI 0), .int (nI μ.n), .int (nI μ.sq), .int (nI μ.sf), .int (nI μ.rs), .int (rI μ.ba), .int (nI μ.pr), .int (nI μ.mi), .ref D.kf, .ref D.nf, .ref D.rf, .ref D.lf, .ref D.sv, .ref D.bk, .ref D.od, .ref D.vf, .ref D.bv, .ref D.df, .ref D.ss, .ref D.bd, .ref D.ks, .ref D.bt])) := dk_keep hw_8313 ha_8261 hh_8254 (by decide)
                                  have h_8316 : w_8312 D.kf = some (101, dk_ci G 700 (fun i9 => nI (μ.kf i9))) := dk_keep hw_8313 ha_8261 ha_8255 (by decide)
                                  have h_8317 : w_8312 D.nf = some (102, dk_ci G 700 (fun i9 => nI (μ.nf i9))) := dk_keep hw_8313 ha_8261 ha_8256 (by decide)
                                  have h_8318 : w_8312 D.rf = some (103, dk_ci G 700 (fun i9 => rI (μ.rf i9))) := dk_keep hw_8313 ha_8261 ha_8257 (by decide)
                                  have h_8319 : w_8312 D.lf = some (104, dk_ci G 5000 (fun i9 => rI (μ.lf i9))) := dk_keep hw_8313 ha_8261 ha_8258 (by decide)
                                  have h_8320 : w_8312 D.sv = some (105, dk_ci G 6 (fun i9 => nI (μ.sv i9))) := dk_keep hw_8313 ha_8261 ha_8259 (by decide)
                                  have h_8321 : w_8312 D.bk = some (106, dk_ci G 16 (fun i9 => nI (μ.bk i9))) := dk_keep hw_8313 ha_8261 ha_8260 (by decide)
                                  have h_8322 : w_8312 D.vf = some (108, dk_cl G 700 (fun i9 => μ.vf i9)) := dk_keep hw_8313 ha_8261 ha_8262 (by decide)
                                  have h_8323 : w_8312 D.bv = some (109, dk_cl G 16 (fun i9 => μ.bv i9)) := dk_keep hw_8313 ha_8261 ha_8263 (by decide)
                                  have h_8324 : w_8312 D.df = some (110, dk_cz G 700 (fun i9 => bo_i (μ.df i9))) := dk_keep hw_8313 ha_8261 ha_8264 (by decide)
                                  have h_8325 : w_8312 D.ss = some (111, dk_cz G 6 (fun i9 => bo_i (μ.ss i9))) := dk_keep hw_8313 ha_8261 ha_8265 (by decide)
                                  have h_8326 : w_8312 D.bd = some (112, dk_cz G 16 (fun i9 => bo_i (μ.bd i9))) := dk_keep hw_8313 ha_8261 ha_8266 (by decide)
                                  have h_8327 : w_8312 D.ks = some (113, dk_cz G 700 (fun i9 => bo_i (μ.ks i9))) := dk_keep hw_8313 ha_8261 ha_8267 (by decide)
                                  have h_8328 : w_8312 D.bt = some (114, dk_cz G 6000 (fun i9 => bo_i (μ.bt i9))) := dk_keep hw_8313 ha_8261 ha_8268 (by decide)
                                  have hm_8329 : md_at G w_8312 h D (((μ.er' 0).od' g2).od' (va_up g2 p9 a8)) := ⟨h_8315, h_8316, h_8317, h_8318, h_8319, h_8320, h_8321, h_8314, h_8322, h_8323, h_8324, h_8325, h_8326, h_8327, h_8328⟩
                                  refine lv_iinc (v := nI (p9 - 1)) (lv' := [(7, .int (nI (p9 - 1))), (0, .ref h), (3, .int (nI k)), (4, .int (nI 2)), (5, .int (nI d0)), (6, .int (nI (mm + 1))), (8, .int (nI i))]) hx hb de_M_entry_202 hl (k := 5) rfl (nx_dec (by omega)) (by decide) rfl (fun ls hl => ?_)
                                  refine lv_goto (tgt := 163) hx hb de_M_entry_205 (by decide) ?_
                                  exact ih3 (p9 - 1) (va_up g2 p9 a8) (by omega) (by omega) (os_al hp8 hal hy8 e5) (os_st hp8 hs2 hga) _ _ _ hm_8329 (hg3.tr ((dk_fr.rf).tr ((dk_fr.up (T := md_T) ha_8261 (by unfold md_T; omega)).eq hw_8313))) hP hS _ (lv_sub hl [1, 2, 3, 4, 5, 0, 6] rfl)
                          exact lp3 (mm + 1) mm g (by omega) (Nat.le_refl _) (fun j z hj hz => absurd (List.getElem?_eq_some_iff.mp hz).1 (by omega)) hsh _ _ _ hmv hg hP hS _ (lv_sub hl [2, 3, 4, 5, 1, 0, 6] rfl)
                        · have e7 : ¬ μ.rf i = some d0 := fun z => c_8253 (hreq.mpr z)
                          refine lv_goto (tgt := 217) hx hb de_M_entry_153 (by decide) ?_
                          refine lv_iinc (v := nI (i + 1)) (lv' := [(8, .int (nI (i + 1))), (0, .ref h), (3, .int (nI k)), (4, .int (nI 2)), (5, .int (nI d0)), (6, .int (nI (ct_f (fun k9 => decide (μ.rf k9 = some d0)) i)))]) hx hb de_M_entry_217 hl (k := 5) rfl (nx_inc i) (by decide) rfl (fun ls hl => ?_)
                          refine lv_goto (tgt := 132) hx hb de_M_entry_220 (by decide) ?_
                          replace hl : lv_has ls 9 [(8, .int (nI (i + 1))), (0, .ref h), (3, .int (nI k)), (4, .int (nI 2)), (5, .int (nI d0)), (6, .int (nI (ct_f (fun k9 => decide (μ.rf k9 = some d0)) (i + 1))))] := by rw [ct_n (p := fun k9 => decide (μ.rf k9 = some d0)) (decide_eq_false e7)]; exact hl
                          exact ih2 (i + 1) g (by omega) (by omega) (by rw [en_rn e7]; exact hra) _ _ _ hmv hg hP hS _ (lv_sub hl [1, 2, 3, 4, 5, 0] rfl)
                  exact lp2 (μ.n + 1) 0 μ.od (by omega) (Nat.zero_le _) ra_ok.nil _ _ _ hm_8220 ((((dk_fr.rf).tr ((dk_fr.up (T := md_T) hh_8130 (by unfold md_T; omega)).eq hw_8132)).tr (hf_8181)).tr (hf_8219)) hP hS _ (lv_sub hl [2, 5, 6, 7, 1, 0] rfl)
                · exact absurd c_8236 (by decide)
              · exact absurd c_8213 (by decide)
            · refine lv_aload_n hx hb de_M_entry_60 rfl (lv_at hl 0 rfl) ?_
              refine dk_get (a := h) (v := .ref D.lf) (C := kn_M) (T := kt_M) (N := 22) hx hb hts ki_M hown hK hP hh_8183 rfl 11 (by decide) (hts _ wi_725) (fun _ h9 => h9) rfl de_M_entry_61 ?_
              refine lv_iload hx hb de_M_entry_64 (lv_at hl 8 rfl) ?_
              refine dk_iald (a := D.lf) hx hb hK hP ha_8187 j rfl (by omega) (by omega) de_M_entry_66 ?_
              refine lv_iload_n hx hb de_M_entry_67 rfl (lv_at hl 1 rfl) ?_
              refine lv_icmp_ne (tgt := 84) hx hb de_M_entry_68 (by decide) (fun c_8200 => ?_) (fun c_8200 => ?_)
              · refine lv_iinc (v := nI (j + 1)) (lv' := [(8, .int (nI (j + 1))), (0, .ref h), (1, .int (nI l9)), (2, .int r9), (3, .int (nI k)), (4, .int (nI 2)), (5, .int (rI o)), (6, .int (nI m9)), (7, .int (nI 0))]) hx hb de_M_entry_84 hl (k := 8) rfl (nx_inc j) (by decide) rfl (fun ls hl => ?_)
                refine lv_goto (tgt := 51) hx hb de_M_entry_87 (by decide) ?_
                exact ih (j + 1) o m9 (by omega) (by omega) (by rw [id_n hid (fun z => c_8200 (hleq.mpr z))]) (by omega) _ (lv_sub hl [1, 2, 3, 4, 5, 6, 7, 8, 0] rfl)
              · refine lv_iload hx hb de_M_entry_71 (lv_at hl 6 rfl) ?_
                refine lv_iinc (v := nI (m9 + 1)) (lv' := [(6, .int (nI (m9 + 1))), (0, .ref h), (1, .int (nI l9)), (2, .int r9), (3, .int (nI k)), (4, .int (nI 2)), (5, .int (rI o)), (7, .int (nI 0)), (8, .int (nI j))]) hx hb de_M_entry_73 hl (k := 6) rfl (nx_inc m9) (by decide) rfl (fun ls hl => ?_)
                refine lv_iload_n hx hb de_M_entry_76 rfl (lv_at hl 3 rfl) ?_
                refine lv_icmp_ne (tgt := 84) hx hb de_M_entry_77 (by decide) (fun c_8201 => ?_) (fun c_8201 => ?_)
                · refine lv_iinc (v := nI (j + 1)) (lv' := [(8, .int (nI (j + 1))), (6, .int (nI (m9 + 1))), (0, .ref h), (1, .int (nI l9)), (2, .int r9), (3, .int (nI k)), (4, .int (nI 2)), (5, .int (rI o)), (7, .int (nI 0))]) hx hb de_M_entry_84 hl (k := 8) rfl (nx_inc j) (by decide) rfl (fun ls hl => ?_)
                  refine lv_goto (tgt := 51) hx hb de_M_entry_87 (by decide) ?_
                  exact ih (j + 1) o (m9 + 1) (by omega) (by omega) (by rw [id_o hid (hleq.mp c_8200) c_8201]) (by omega) _ (lv_sub hl [2, 3, 4, 5, 6, 7, 1, 8, 0] rfl)
                · refine lv_iload hx hb de_M_entry_80 (lv_at hl 8 rfl) ?_
                  refine lv_istore (lv' := [(5, .int (nI j)), (6, .int (nI (m9 + 1))), (0, .ref h), (1, .int (nI l9)), (2, .int r9), (3, .int (nI k)), (4, .int (nI 2)), (7, .int (nI 0)), (8, .int (nI j))]) hx hb de_M_entry_82 hl (by decide) rfl (fun ls hl => ?_)
                  refine lv_iinc (v := nI (j + 1)) (lv' := [(8, .int (nI (j + 1))), (5, .int (nI j)), (6, .int (nI (m9 + 1))), (0, .ref h), (1, .int (nI l9)), (2, .int r9), (3, .int (nI k)), (4, .int (nI 2)), (7, .int (nI 0))]) hx hb de_M_entry_84 hl (k := 8) rfl (nx_inc j) (by decide) rfl (fun ls hl => ?_)
                  refine lv_goto (tgt := 51) hx hb de_M_entry_87 (by decide) ?_
                  exact ih (j + 1) (some j) (m9 + 1) (by omega) (by omega) (by rw [id_y hid (hleq.mp c_8200) c_8201]) (by omega) _ (lv_sub hl [3, 4, 5, 6, 7, 1, 2, 8, 0] rfl)
        exact lp (μ.rs + 1) 0 none 0 (by omega) (Nat.zero_le _) rfl (by omega) _ (lv_sub hl [4, 5, 6, 7, 8, 3, 2, 1, 0] rfl)
      · exact absurd c_8198 (by decide)
    · exact absurd c_8175 (by decide)
