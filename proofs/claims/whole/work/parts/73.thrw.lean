/-! RunKeeper where it throws (printed by gen/c_thr.py) -/
theorem th_im {k a b : Int32} (h1 : ¬ k < a) (h2 : k ≤ b) : im_b k a b = true := by
  unfold im_b
  rw [decide_eq_false h1, decide_eq_false (Int32.not_lt.mpr h2)]; rfl
theorem th_im2 {k a b : Int32} (h1 : ¬ k < a) (h2 : ¬ b < k) : im_b k a b = true := by
  unfold im_b
  rw [decide_eq_false h1, decide_eq_false h2]; rfl
theorem sn_lfn {sn : Nat → Option Nat} {r : Int32} (ha : ∀ i, i < 6 → (sn i).isSome = true) (h : (∃ j, j < 6 ∧ r = nI j ∧ sn j = none ∧ ∀ i, i < j → (sn i).isSome = true) ∨ (r = -1 ∧ ∀ i, i < 6 → (sn i).isSome = true)) : r = -1 := by
  rcases h with ⟨i, a1, a2, a3, a4⟩ | ⟨a1, a2⟩
  · have := ha i a1; rw [a3] at this; cases this
  · exact a1
theorem rn_no {G : dk_G} {w : dk_H} {Rs : List (List en_T)} {r : Option Nat} {k : Int32} (h : rn_q G w Rs k r) (hn : ∀ j : Nat, k = nI j → j < 2 ^ 31 → Rs.length ≤ j) (hl : Rs.length < 2 ^ 31 := by omega) : r = none := by
  rcases h with ⟨h, -⟩ | ⟨j, R, a, h1, h2, h3, h4⟩
  · exact h
  · have hj := (List.getElem?_eq_some_iff.mp h2).1
    exact absurd (hn j h1 (by omega)) (by omega)
theorem at_no {w : dk_H} {r : Option Nat} {L : List en_T} {k : Int32} (h : (r = none ∧ ∀ i, k = nI i → i < 2 ^ 31 → L.length ≤ i) ∨ ∃ i y, k = nI i ∧ L[i]? = some y ∧ en_q w r (some y)) (hn : ∀ j : Nat, k = nI j → j < 2 ^ 31 → L.length ≤ j) (hl : L.length < 2 ^ 31) : r = none := by
  rcases h with ⟨h, -⟩ | ⟨i, y, h1, h2, -⟩
  · exact h
  · have hj := (List.getElem?_eq_some_iff.mp h2).1
    exact absurd (hn i h1 (by omega)) (by omega)
def th_c (q : Cond × Nat) : Bool := (decide (tables_1[q.2]? = some q.1) && (goodWord q.1 || dk_nk q.1)) || decide (q.1 = .laysStatic Bundle.tN "UNASSIGNED_STACK" Bundle.steD) || decide (q.1 = .laysStatic Bundle.tN "SUPPRESSED_SENTINEL" Bundle.listD) || decide (q.1 = .isRef (.static Bundle.tN "UNASSIGNED_STACK" Bundle.steD)) || decide (q.1 = .isRef (.static Bundle.tN "SUPPRESSED_SENTINEL" Bundle.listD))
theorem th_of {L : List Cond} {is : List Nat} (h1 : L.length = is.length) (h2 : (L.zip is).all th_c = true) : ∀ a ∈ L, th_w a := by
  intro a ha
  rw [← List.map_fst_zip (l₁ := L) (l₂ := is) (by omega)] at ha
  obtain ⟨⟨b, i⟩, hb, rfl⟩ := List.mem_map.mp ha
  have h := List.all_eq_true.mp h2 _ hb
  unfold th_c at h
  simp only [Bool.or_eq_true, Bool.and_eq_true, decide_eq_true_eq] at h
  rcases h with (((h | h) | h) | h) | h
  · rcases h.2 with hg | hg
    · exact Or.inl (wd_m i h.1 hg)
    · exact Or.inr (Or.inl (dn_m i h.1 hg))
  · exact Or.inr (Or.inr (Or.inl h))
  · exact Or.inr (Or.inr (Or.inr (Or.inl h)))
  · exact Or.inr (Or.inr (Or.inr (Or.inr (Or.inl h))))
  · exact Or.inr (Or.inr (Or.inr (Or.inr (Or.inr h))))
theorem ow_A : th_ow 107 "java/lang/IllegalArgumentException" := th_of (is := [9, 364, 373, 378, 381, 383, 365, 366, 30, 31, 367, 372, 379, 399, 354, 400, 356, 401, 358, 368, 369, 370, 371, 360, 395, 396, 398, 360, 386, 387, 388, 389, 346, 389, 390, 391, 392, 348, 392, 393, 394, 395, 350, 385, 343, 344, 351, 352, 353, 355, 357, 359, 0, 0, 363, 362, 361]) (by decide +kernel) (by decide +kernel)
theorem ow_B : th_ow 88 "java/lang/IndexOutOfBoundsException" := th_of (is := [9, 364, 373, 378, 381, 383, 365, 366, 30, 31, 367, 372, 379, 399, 354, 400, 356, 401, 358, 368, 369, 370, 371, 360, 395, 396, 398, 360, 434, 435, 436, 389, 346, 389, 390, 391, 392, 348, 392, 393, 394, 395, 350, 433, 424, 425, 426, 376, 427, 428, 429, 430, 0, 0, 363, 362, 431]) (by decide +kernel) (by decide +kernel)
theorem ow_S : th_ow 72 "java/lang/IllegalStateException" := th_of (is := [9, 364, 373, 378, 381, 383, 365, 366, 30, 31, 367, 372, 379, 399, 354, 400, 356, 401, 358, 368, 369, 370, 371, 360, 395, 396, 398, 360, 502, 503, 504, 389, 346, 389, 390, 391, 392, 348, 392, 393, 394, 395, 350, 501, 492, 493, 494, 375, 495, 496, 497, 498, 0, 0, 363, 362, 499]) (by decide +kernel) (by decide +kernel)
theorem ow_U : th_ow 160 "java/lang/UnsupportedOperationException" := th_of (is := [9, 364, 373, 378, 381, 383, 365, 366, 30, 31, 367, 372, 379, 399, 354, 400, 356, 401, 358, 368, 369, 370, 371, 360, 395, 396, 398, 360, 667, 668, 669, 389, 346, 389, 390, 391, 392, 348, 392, 393, 394, 395, 350, 666, 657, 658, 659, 377, 660, 661, 662, 663, 0, 0, 363, 362, 664]) (by decide +kernel) (by decide +kernel)
abbrev rt_K_write : Room := { frames := 6, cells := 1, slots := 6, locals := 82 }
set_option maxHeartbeats 4000000 in
set_option maxRecDepth 100000 in
theorem t_K_writeK (l : Launch) (hlt : l.stackTraces = false) (G : dk_G) (w : dk_H) (h : Nat) (D : kp_D) (σ : kp_S) (hkp : kp_at G w h D σ) (k : Int32) (z : Int64) (b : Bool) (hk0 : in_r 1024 k = false) : dk_Mt l my_K_write (wd_c my_K_write mb_K_write 6 (some .int)) rt_K_write G w [.ref h, .int k, .long z, .int (bo_i b)] "java/lang/IllegalArgumentException" (fun w1 => w1 = w) 1 6 := by
  refine dk_enterT (lv := [(0, .ref h), (1, .int k), (2, .long z), (4, .int (bo_i b))]) (by decide) (Nat.le_of_ble_eq_true rfl) rfl (fun p e s m args below meth c ls Q hQ C hno hP hS hl => ?_)
  obtain ⟨hx, hb, hr, hml, hlocks, hown, hnm, hts, hE⟩ := C
  have hK := hE.1
  have hN := hE.2.1
  have hh_1635 : w h = some (1, .inr (cx_K, [.ref D.t, .ref D.a, .ref D.lv, .ref D.sn, .ref D.g, .ref D.k, .ref D.ne, .int (nI σ.sf), .int (bo_i σ.ib), .int (nI σ.sq), .int (nI σ.pr), .int (nI σ.mi)])) := hkp.o
  refine lv_iload_n hx hb de_K_write_0 rfl (lv_at hl 1 rfl) ?_
  refine dk_calli (va_runS (As := [.int k]) (rest := []) ⟨hx, hb, hml, hown, hts⟩ (c_K_isKey l G w k) (va_cwS 1 hts (wd_gS wi_341 wi_339 wi_340 wi_1) rfl rfl rfl (by decide +kernel) ⟨Nat.le_of_ble_eq_true rfl, Nat.le_of_ble_eq_true rfl⟩) (dk_preS hE hP hS) rfl rfl hl.1 rfl (lv_room (Nat.le_of_ble_eq_true rfl)) de_K_write_1 ⟨(by first | exact Nat.le_of_ble_eq_true rfl | (simp only [Nat.zero_add]; omega) | omega), (by first | exact Nat.le_of_ble_eq_true rfl | (simp only [Nat.zero_add]; omega) | omega)⟩) hS (fun r_1638 w_1636 H locs hq_1637 hP hS => ?_)
  rw [hk0] at hq_1637
  obtain ⟨hr_1639, he_1640⟩ := hq_1637
  subst hr_1639
  rw [he_1640] at hP
  refine bo_if_ne (b := false) (tgt := 17) hx hb de_K_write_4 (by decide) (fun c_1641 => ?_) (fun c_1641 => ?_)
  · exact absurd c_1641 (by decide)
  · exact dk_thr hQ hno hlt hx hb (hml.trans hl.1.symm) hlocks hown hts hE hP hS (rfl) (by first | exact Nat.le_of_ble_eq_true rfl | omega) (by first | exact Nat.le_of_ble_eq_true rfl | omega) (by first | exact Nat.le_of_ble_eq_true rfl | omega) (by first | exact Nat.le_of_ble_eq_true rfl | omega) (by first | exact Nat.le_of_ble_eq_true rfl | omega) (by first | exact Nat.le_of_ble_eq_true rfl | omega) (by decide +kernel) (List.mem_of_getElem? (i := 0) rfl) wi_342 wi_12 ow_A de_K_write_7 de_K_write_10 de_K_write_11 de_K_write_13 de_K_write_16
set_option maxHeartbeats 4000000 in
set_option maxRecDepth 100000 in
theorem t_K_writeF (l : Launch) (hlt : l.stackTraces = false) (G : dk_G) (w : dk_H) (h : Nat) (D : kp_D) (σ : kp_S) (hkp : kp_at G w h D σ) (k : Nat) (z : Int64) (b : Bool) (hk0 : k < 1024) (hib : σ.ib = true) (hfull : 16 ≤ σ.ad.length) : dk_Mt l my_K_write (wd_c my_K_write mb_K_write 6 (some .int)) rt_K_write G w [.ref h, .int (nI k), .long z, .int (bo_i b)] "java/lang/IndexOutOfBoundsException" (fun w1 => w1 = w) 1 6 := by
  refine dk_enterT (lv := [(0, .ref h), (1, .int (nI k)), (2, .long z), (4, .int (bo_i b))]) (by decide) (Nat.le_of_ble_eq_true rfl) rfl (fun p e s m args below meth c ls Q hQ C hno hP hS hl => ?_)
  obtain ⟨hx, hb, hr, hml, hlocks, hown, hnm, hts, hE⟩ := C
  have hK := hE.1
  have hN := hE.2.1
  have hh_1642 : w h = some (1, .inr (cx_K, [.ref D.t, .ref D.a, .ref D.lv, .ref D.sn, .ref D.g, .ref D.k, .ref D.ne, .int (nI σ.sf), .int (bo_i σ.ib), .int (nI σ.sq), .int (nI σ.pr), .int (nI σ.mi)])) := hkp.o
  refine lv_iload_n hx hb de_K_write_0 rfl (lv_at hl 1 rfl) ?_
  refine dk_calli (va_runS (As := [.int (nI k)]) (rest := []) ⟨hx, hb, hml, hown, hts⟩ (c_K_isKey l G w (nI k)) (va_cwS 1 hts (wd_gS wi_341 wi_339 wi_340 wi_1) rfl rfl rfl (by decide +kernel) ⟨Nat.le_of_ble_eq_true rfl, Nat.le_of_ble_eq_true rfl⟩) (dk_preS hE hP hS) rfl rfl hl.1 rfl (lv_room (Nat.le_of_ble_eq_true rfl)) de_K_write_1 ⟨(by first | exact Nat.le_of_ble_eq_true rfl | (simp only [Nat.zero_add]; omega) | omega), (by first | exact Nat.le_of_ble_eq_true rfl | (simp only [Nat.zero_add]; omega) | omega)⟩) hS (fun r_1645 w_1643 H locs hq_1644 hP hS => ?_)
  rw [in_nat (by omega) (by decide)] at hq_1644
  obtain ⟨hr_1646, he_1647⟩ := hq_1644
  subst hr_1646
  rw [he_1647] at hP
  refine bo_if_ne (b := (decide (k < 1024))) (tgt := 17) hx hb de_K_write_4 (by decide) (fun c_1648 => ?_) (fun c_1648 => ?_)
  · refine lv_aload_n hx hb de_K_write_17 rfl (lv_at hl 0 rfl) ?_
    refine dk_get (a := h) (v := .int (bo_i σ.ib)) (C := kn_K) (T := kt_K) (N := 12) hx hb hts ki_K hown hK hP hh_1642 rfl 8 (by decide) (hts _ wi_111) (fun _ h9 => h9) rfl de_K_write_18 ?_
    refine bo_if_eq (b := σ.ib) (tgt := 37) hx hb de_K_write_21 (by decide) (fun c_1649 => ?_) (fun c_1649 => ?_)
    · exact absurd (hib.symm.trans c_1649) (by decide)
    · refine lv_aload_n hx hb de_K_write_24 rfl (lv_at hl 0 rfl) ?_
      refine dk_get (a := h) (v := .ref D.a) (C := kn_K) (T := kt_K) (N := 12) hx hb hts ki_K hown hK hP hh_1642 rfl 1 (by decide) (hts _ wi_104) (fun _ h9 => h9) rfl de_K_write_25 ?_
      obtain ⟨sl_1650, _, hc_1651, -⟩ := id hkp.a
      refine dk_calli (va_runV (As := []) (rest := []) ⟨hx, hb, hml, hown, hts⟩ (c_R_isFull l G w D.a 4 5 16 σ.ad hkp.a) (cwV 0 hts (wd_gV (C := "RunKeeper$Row") wi_414 wi_411 wi_412 wi_413 wi_2) rfl rfl rfl (by decide +kernel) ⟨Nat.le_of_ble_eq_true rfl, Nat.le_of_ble_eq_true rfl⟩) (dk_preV (kn_R, kt_R, 2) hE hP hS hc_1651 rfl) rfl rfl hl.1 rfl (lv_room (Nat.le_of_ble_eq_true rfl)) de_K_write_28 ⟨(by first | exact Nat.le_of_ble_eq_true rfl | (simp only [Nat.zero_add]; omega) | omega), (by first | exact Nat.le_of_ble_eq_true rfl | (simp only [Nat.zero_add]; omega) | omega)⟩) hS (fun r_1654 w_1652 H locs hq_1653 hP hS => ?_)
      obtain ⟨hr_1655, he_1656⟩ := hq_1653
      subst hr_1655
      rw [he_1656] at hP
      refine bo_if_eq (b := (decide (16 ≤ σ.ad.length))) (tgt := 57) hx hb de_K_write_31 (by decide) (fun c_1657 => ?_) (fun c_1657 => ?_)
      · exact absurd hfull (of_decide_eq_false c_1657)
      · refine lv_goto (tgt := 47) hx hb de_K_write_34 (by decide) ?_
        exact dk_thr hQ hno hlt hx hb (hml.trans hl.1.symm) hlocks hown hts hE hP hS (rfl) (by first | exact Nat.le_of_ble_eq_true rfl | omega) (by first | exact Nat.le_of_ble_eq_true rfl | omega) (by first | exact Nat.le_of_ble_eq_true rfl | omega) (by first | exact Nat.le_of_ble_eq_true rfl | omega) (by first | exact Nat.le_of_ble_eq_true rfl | omega) (by first | exact Nat.le_of_ble_eq_true rfl | omega) (by decide +kernel) (List.mem_of_getElem? (i := 1) rfl) wi_423 wi_13 ow_B de_K_write_47 de_K_write_50 de_K_write_51 de_K_write_53 de_K_write_56
  · exact absurd c_1648 (by simp [hk0])
set_option maxHeartbeats 4000000 in
set_option maxRecDepth 100000 in
theorem t_K_writeG (l : Launch) (hlt : l.stackTraces = false) (G : dk_G) (w : dk_H) (h : Nat) (D : kp_D) (σ : kp_S) (hkp : kp_at G w h D σ) (k : Nat) (z : Int64) (b : Bool) (hk0 : k < 1024) (hib : σ.ib = false) (hc6 : 600 ≤ kp_n σ) (hc7 : kp_n σ ≤ 600) : dk_Mt l my_K_write (wd_c my_K_write mb_K_write 6 (some .int)) rt_K_write G w [.ref h, .int (nI k), .long z, .int (bo_i b)] "java/lang/IndexOutOfBoundsException" (fun w1 => w1 = w) 1 6 := by
  refine dk_enterT (lv := [(0, .ref h), (1, .int (nI k)), (2, .long z), (4, .int (bo_i b))]) (by decide) (Nat.le_of_ble_eq_true rfl) rfl (fun p e s m args below meth c ls Q hQ C hno hP hS hl => ?_)
  obtain ⟨hx, hb, hr, hml, hlocks, hown, hnm, hts, hE⟩ := C
  have hK := hE.1
  have hN := hE.2.1
  have hh_1658 : w h = some (1, .inr (cx_K, [.ref D.t, .ref D.a, .ref D.lv, .ref D.sn, .ref D.g, .ref D.k, .ref D.ne, .int (nI σ.sf), .int (bo_i σ.ib), .int (nI σ.sq), .int (nI σ.pr), .int (nI σ.mi)])) := hkp.o
  refine lv_iload_n hx hb de_K_write_0 rfl (lv_at hl 1 rfl) ?_
  refine dk_calli (va_runS (As := [.int (nI k)]) (rest := []) ⟨hx, hb, hml, hown, hts⟩ (c_K_isKey l G w (nI k)) (va_cwS 1 hts (wd_gS wi_341 wi_339 wi_340 wi_1) rfl rfl rfl (by decide +kernel) ⟨Nat.le_of_ble_eq_true rfl, Nat.le_of_ble_eq_true rfl⟩) (dk_preS hE hP hS) rfl rfl hl.1 rfl (lv_room (Nat.le_of_ble_eq_true rfl)) de_K_write_1 ⟨(by first | exact Nat.le_of_ble_eq_true rfl | (simp only [Nat.zero_add]; omega) | omega), (by first | exact Nat.le_of_ble_eq_true rfl | (simp only [Nat.zero_add]; omega) | omega)⟩) hS (fun r_1661 w_1659 H locs hq_1660 hP hS => ?_)
  rw [in_nat (by omega) (by decide)] at hq_1660
  obtain ⟨hr_1662, he_1663⟩ := hq_1660
  subst hr_1662
  rw [he_1663] at hP
  refine bo_if_ne (b := (decide (k < 1024))) (tgt := 17) hx hb de_K_write_4 (by decide) (fun c_1664 => ?_) (fun c_1664 => ?_)
  · refine lv_aload_n hx hb de_K_write_17 rfl (lv_at hl 0 rfl) ?_
    refine dk_get (a := h) (v := .int (bo_i σ.ib)) (C := kn_K) (T := kt_K) (N := 12) hx hb hts ki_K hown hK hP hh_1658 rfl 8 (by decide) (hts _ wi_111) (fun _ h9 => h9) rfl de_K_write_18 ?_
    refine bo_if_eq (b := σ.ib) (tgt := 37) hx hb de_K_write_21 (by decide) (fun c_1665 => ?_) (fun c_1665 => ?_)
    · refine lv_aload_n hx hb de_K_write_37 rfl (lv_at hl 0 rfl) ?_
      refine dk_calli (va_runV (As := []) (rest := []) ⟨hx, hb, hml, hown, hts⟩ (c_K_entriesInAll l G w h D σ hkp) (cwV 0 hts (wd_gV (C := "RunKeeper") wi_418 wi_415 wi_417 (wd_p (q := (⟨"RunKeeper", "entriesInAll", "()I"⟩, 12)) (by decide +kernel) (by decide +kernel)) wi_1) rfl rfl rfl (by decide +kernel) ⟨Nat.le_of_ble_eq_true rfl, Nat.le_of_ble_eq_true rfl⟩) (dk_preV (kn_K, kt_K, 12) hE hP hS hh_1658 rfl) rfl rfl hl.1 rfl (lv_room (Nat.le_of_ble_eq_true rfl)) de_K_write_38 ⟨(by first | exact Nat.le_of_ble_eq_true rfl | (simp only [Nat.zero_add]; omega) | omega), (by first | exact Nat.le_of_ble_eq_true rfl | (simp only [Nat.zero_add]; omega) | omega)⟩) hS (fun r_1668 w_1666 H locs hq_1667 hP hS => ?_)
      obtain ⟨hr_1669, he_1670⟩ := hq_1667
      subst hr_1669
      rw [he_1670] at hP
      refine lv_sipush (v := nI 600) hx hb de_K_write_41 (by decide) ?_
      refine nx_icmp_lt (a := kp_n σ) (b := 600) (tgt := 57) hx hb (by omega) (by omega) de_K_write_44 (by decide) (fun c_1671 => ?_) (fun c_1671 => ?_)
      · exact absurd c_1671 (by omega)
      · exact dk_thr hQ hno hlt hx hb (hml.trans hl.1.symm) hlocks hown hts hE hP hS (rfl) (by first | exact Nat.le_of_ble_eq_true rfl | omega) (by first | exact Nat.le_of_ble_eq_true rfl | omega) (by first | exact Nat.le_of_ble_eq_true rfl | omega) (by first | exact Nat.le_of_ble_eq_true rfl | omega) (by first | exact Nat.le_of_ble_eq_true rfl | omega) (by first | exact Nat.le_of_ble_eq_true rfl | omega) (by decide +kernel) (List.mem_of_getElem? (i := 1) rfl) wi_423 wi_13 ow_B de_K_write_47 de_K_write_50 de_K_write_51 de_K_write_53 de_K_write_56
    · exact absurd (hib.symm.trans c_1665) (by decide)
  · exact absurd c_1664 (by simp [hk0])
abbrev rt_K_put : Room := { frames := 7, cells := 1, slots := 6, locals := 107 }
set_option maxHeartbeats 4000000 in
set_option maxRecDepth 100000 in
theorem t_K_putK (l : Launch) (hlt : l.stackTraces = false) (G : dk_G) (w : dk_H) (h : Nat) (D : kp_D) (σ : kp_S) (hkp : kp_at G w h D σ) (k : Int32) (z : Int64) (hk0 : in_r 1024 k = false) : dk_Mt l my_K_put (wd_c my_K_put mb_K_put 4 (some .int)) rt_K_put G w [.ref h, .int k, .long z] "java/lang/IllegalArgumentException" (fun w1 => w1 = w) 1 6 := by
  refine dk_enterT (lv := [(0, .ref h), (1, .int k), (2, .long z)]) (by decide) (Nat.le_of_ble_eq_true rfl) rfl (fun p e s m args below meth c ls Q hQ C hno hP hS hl => ?_)
  obtain ⟨hx, hb, hr, hml, hlocks, hown, hnm, hts, hE⟩ := C
  have hK := hE.1
  have hN := hE.2.1
  have hh_1672 : w h = some (1, .inr (cx_K, [.ref D.t, .ref D.a, .ref D.lv, .ref D.sn, .ref D.g, .ref D.k, .ref D.ne, .int (nI σ.sf), .int (bo_i σ.ib), .int (nI σ.sq), .int (nI σ.pr), .int (nI σ.mi)])) := hkp.o
  refine lv_aload_n hx hb de_K_put_0 rfl (lv_at hl 0 rfl) ?_
  refine lv_iload_n hx hb de_K_put_1 rfl (lv_at hl 1 rfl) ?_
  refine lv_lload_n hx hb de_K_put_2 rfl (lv_at hl 2 rfl) ?_
  refine lv_iconst (v := nI 0) hx hb de_K_put_3 (by decide) ?_
  rw [show nI 0 = bo_i false by decide]
  exact dk_thrV hQ (dk_runT (As := [.int k, .long z, .int (bo_i false)]) (rest := []) ⟨hx, hb, hml, hown, hts⟩ (t_K_writeK l hlt G w h D σ hkp k z false hk0) (cwV 3 hts (wd_gV (C := "RunKeeper") wi_338 wi_335 wi_337 (wd_p (q := (⟨"RunKeeper", "write", "(IJZ)I"⟩, 12)) (by decide +kernel) (by decide +kernel)) wi_1) rfl rfl rfl (by decide +kernel) ⟨Nat.le_of_ble_eq_true rfl, Nat.le_of_ble_eq_true rfl⟩) (dk_preV (kn_K, kt_K, 12) hE hP hS hh_1672 rfl) hS rfl rfl hl.1 rfl (lv_room (Nat.le_of_ble_eq_true rfl)) de_K_put_4 ⟨(by first | exact Nat.le_of_ble_eq_true rfl | (simp only [Nat.zero_add]; omega) | omega), (by first | exact Nat.le_of_ble_eq_true rfl | (simp only [Nat.zero_add]; omega) | omega)⟩) hno hlocks (by first | exact Nat.le_of_ble_eq_true rfl | omega) (by first | exact Nat.le_of_ble_eq_true rfl | omega) (fun _ h9 => h9)
set_option maxHeartbeats 4000000 in
set_option maxRecDepth 100000 in
theorem t_K_putF (l : Launch) (hlt : l.stackTraces = false) (G : dk_G) (w : dk_H) (h : Nat) (D : kp_D) (σ : kp_S) (hkp : kp_at G w h D σ) (k : Nat) (z : Int64) (hk0 : k < 1024) (hib : σ.ib = true) (hfull : 16 ≤ σ.ad.length) : dk_Mt l my_K_put (wd_c my_K_put mb_K_put 4 (some .int)) rt_K_put G w [.ref h, .int (nI k), .long z] "java/lang/IndexOutOfBoundsException" (fun w1 => w1 = w) 1 6 := by
  refine dk_enterT (lv := [(0, .ref h), (1, .int (nI k)), (2, .long z)]) (by decide) (Nat.le_of_ble_eq_true rfl) rfl (fun p e s m args below meth c ls Q hQ C hno hP hS hl => ?_)
  obtain ⟨hx, hb, hr, hml, hlocks, hown, hnm, hts, hE⟩ := C
  have hK := hE.1
  have hN := hE.2.1
  have hh_1673 : w h = some (1, .inr (cx_K, [.ref D.t, .ref D.a, .ref D.lv, .ref D.sn, .ref D.g, .ref D.k, .ref D.ne, .int (nI σ.sf), .int (bo_i σ.ib), .int (nI σ.sq), .int (nI σ.pr), .int (nI σ.mi)])) := hkp.o
  refine lv_aload_n hx hb de_K_put_0 rfl (lv_at hl 0 rfl) ?_
  refine lv_iload_n hx hb de_K_put_1 rfl (lv_at hl 1 rfl) ?_
  refine lv_lload_n hx hb de_K_put_2 rfl (lv_at hl 2 rfl) ?_
  refine lv_iconst (v := nI 0) hx hb de_K_put_3 (by decide) ?_
  rw [show nI 0 = bo_i false by decide]
  exact dk_thrV hQ (dk_runT (As := [.int (nI k), .long z, .int (bo_i false)]) (rest := []) ⟨hx, hb, hml, hown, hts⟩ (t_K_writeF l hlt G w h D σ hkp k z false hk0 hib hfull) (cwV 3 hts (wd_gV (C := "RunKeeper") wi_338 wi_335 wi_337 (wd_p (q := (⟨"RunKeeper", "write", "(IJZ)I"⟩, 12)) (by decide +kernel) (by decide +kernel)) wi_1) rfl rfl rfl (by decide +kernel) ⟨Nat.le_of_ble_eq_true rfl, Nat.le_of_ble_eq_true rfl⟩) (dk_preV (kn_K, kt_K, 12) hE hP hS hh_1673 rfl) hS rfl rfl hl.1 rfl (lv_room (Nat.le_of_ble_eq_true rfl)) de_K_put_4 ⟨(by first | exact Nat.le_of_ble_eq_true rfl | (simp only [Nat.zero_add]; omega) | omega), (by first | exact Nat.le_of_ble_eq_true rfl | (simp only [Nat.zero_add]; omega) | omega)⟩) hno hlocks (by first | exact Nat.le_of_ble_eq_true rfl | omega) (by first | exact Nat.le_of_ble_eq_true rfl | omega) (fun _ h9 => h9)
set_option maxHeartbeats 4000000 in
set_option maxRecDepth 100000 in
theorem t_K_putG (l : Launch) (hlt : l.stackTraces = false) (G : dk_G) (w : dk_H) (h : Nat) (D : kp_D) (σ : kp_S) (hkp : kp_at G w h D σ) (k : Nat) (z : Int64) (hk0 : k < 1024) (hib : σ.ib = false) (hc6 : 600 ≤ kp_n σ) (hc7 : kp_n σ ≤ 600) : dk_Mt l my_K_put (wd_c my_K_put mb_K_put 4 (some .int)) rt_K_put G w [.ref h, .int (nI k), .long z] "java/lang/IndexOutOfBoundsException" (fun w1 => w1 = w) 1 6 := by
  refine dk_enterT (lv := [(0, .ref h), (1, .int (nI k)), (2, .long z)]) (by decide) (Nat.le_of_ble_eq_true rfl) rfl (fun p e s m args below meth c ls Q hQ C hno hP hS hl => ?_)
  obtain ⟨hx, hb, hr, hml, hlocks, hown, hnm, hts, hE⟩ := C
  have hK := hE.1
  have hN := hE.2.1
  have hh_1674 : w h = some (1, .inr (cx_K, [.ref D.t, .ref D.a, .ref D.lv, .ref D.sn, .ref D.g, .ref D.k, .ref D.ne, .int (nI σ.sf), .int (bo_i σ.ib), .int (nI σ.sq), .int (nI σ.pr), .int (nI σ.mi)])) := hkp.o
  refine lv_aload_n hx hb de_K_put_0 rfl (lv_at hl 0 rfl) ?_
  refine lv_iload_n hx hb de_K_put_1 rfl (lv_at hl 1 rfl) ?_
  refine lv_lload_n hx hb de_K_put_2 rfl (lv_at hl 2 rfl) ?_
  refine lv_iconst (v := nI 0) hx hb de_K_put_3 (by decide) ?_
  rw [show nI 0 = bo_i false by decide]
  exact dk_thrV hQ (dk_runT (As := [.int (nI k), .long z, .int (bo_i false)]) (rest := []) ⟨hx, hb, hml, hown, hts⟩ (t_K_writeG l hlt G w h D σ hkp k z false hk0 hib hc6 hc7) (cwV 3 hts (wd_gV (C := "RunKeeper") wi_338 wi_335 wi_337 (wd_p (q := (⟨"RunKeeper", "write", "(IJZ)I"⟩, 12)) (by decide +kernel) (by decide +kernel)) wi_1) rfl rfl rfl (by decide +kernel) ⟨Nat.le_of_ble_eq_true rfl, Nat.le_of_ble_eq_true rfl⟩) (dk_preV (kn_K, kt_K, 12) hE hP hS hh_1674 rfl) hS rfl rfl hl.1 rfl (lv_room (Nat.le_of_ble_eq_true rfl)) de_K_put_4 ⟨(by first | exact Nat.le_of_ble_eq_true rfl | (simp only [Nat.zero_add]; omega) | omega), (by first | exact Nat.le_of_ble_eq_true rfl | (simp only [Nat.zero_add]; omega) | omega)⟩) hno hlocks (by first | exact Nat.le_of_ble_eq_true rfl | omega) (by first | exact Nat.le_of_ble_eq_true rfl | omega) (fun _ h9 => h9)
abbrev rt_K_delete : Room := { frames := 7, cells := 1, slots := 6, locals := 107 }
set_option maxHeartbeats 4000000 in
set_option maxRecDepth 100000 in
theorem t_K_deleteK (l : Launch) (hlt : l.stackTraces = false) (G : dk_G) (w : dk_H) (h : Nat) (D : kp_D) (σ : kp_S) (hkp : kp_at G w h D σ) (k : Int32) (hk0 : in_r 1024 k = false) : dk_Mt l my_K_delete (wd_c my_K_delete mb_K_delete 2 (some .int)) rt_K_delete G w [.ref h, .int k] "java/lang/IllegalArgumentException" (fun w1 => w1 = w) 1 6 := by
  refine dk_enterT (lv := [(0, .ref h), (1, .int k)]) (by decide) (Nat.le_of_ble_eq_true rfl) rfl (fun p e s m args below meth c ls Q hQ C hno hP hS hl => ?_)
  obtain ⟨hx, hb, hr, hml, hlocks, hown, hnm, hts, hE⟩ := C
  have hK := hE.1
  have hN := hE.2.1
  have hh_1675 : w h = some (1, .inr (cx_K, [.ref D.t, .ref D.a, .ref D.lv, .ref D.sn, .ref D.g, .ref D.k, .ref D.ne, .int (nI σ.sf), .int (bo_i σ.ib), .int (nI σ.sq), .int (nI σ.pr), .int (nI σ.mi)])) := hkp.o
  refine lv_aload_n hx hb de_K_delete_0 rfl (lv_at hl 0 rfl) ?_
  refine lv_iload_n hx hb de_K_delete_1 rfl (lv_at hl 1 rfl) ?_
  refine lv_lconst (v := 0) hx hb de_K_delete_2 (by decide) ?_
  refine lv_iconst (v := nI 1) hx hb de_K_delete_3 (by decide) ?_
  rw [show nI 1 = bo_i true by decide]
  exact dk_thrV hQ (dk_runT (As := [.int k, .long 0, .int (bo_i true)]) (rest := []) ⟨hx, hb, hml, hown, hts⟩ (t_K_writeK l hlt G w h D σ hkp k 0 true hk0) (cwV 3 hts (wd_gV (C := "RunKeeper") wi_338 wi_335 wi_337 (wd_p (q := (⟨"RunKeeper", "write", "(IJZ)I"⟩, 12)) (by decide +kernel) (by decide +kernel)) wi_1) rfl rfl rfl (by decide +kernel) ⟨Nat.le_of_ble_eq_true rfl, Nat.le_of_ble_eq_true rfl⟩) (dk_preV (kn_K, kt_K, 12) hE hP hS hh_1675 rfl) hS rfl rfl hl.1 rfl (lv_room (Nat.le_of_ble_eq_true rfl)) de_K_delete_4 ⟨(by first | exact Nat.le_of_ble_eq_true rfl | (simp only [Nat.zero_add]; omega) | omega), (by first | exact Nat.le_of_ble_eq_true rfl | (simp only [Nat.zero_add]; omega) | omega)⟩) hno hlocks (by first | exact Nat.le_of_ble_eq_true rfl | omega) (by first | exact Nat.le_of_ble_eq_true rfl | omega) (fun _ h9 => h9)
set_option maxHeartbeats 4000000 in
set_option maxRecDepth 100000 in
theorem t_K_deleteF (l : Launch) (hlt : l.stackTraces = false) (G : dk_G) (w : dk_H) (h : Nat) (D : kp_D) (σ : kp_S) (hkp : kp_at G w h D σ) (k : Nat) (hk0 : k < 1024) (hib : σ.ib = true) (hfull : 16 ≤ σ.ad.length) : dk_Mt l my_K_delete (wd_c my_K_delete mb_K_delete 2 (some .int)) rt_K_delete G w [.ref h, .int (nI k)] "java/lang/IndexOutOfBoundsException" (fun w1 => w1 = w) 1 6 := by
  refine dk_enterT (lv := [(0, .ref h), (1, .int (nI k))]) (by decide) (Nat.le_of_ble_eq_true rfl) rfl (fun p e s m args below meth c ls Q hQ C hno hP hS hl => ?_)
  obtain ⟨hx, hb, hr, hml, hlocks, hown, hnm, hts, hE⟩ := C
  have hK := hE.1
  have hN := hE.2.1
  have hh_1676 : w h = some (1, .inr (cx_K, [.ref D.t, .ref D.a, .ref D.lv, .ref D.sn, .ref D.g, .ref D.k, .ref D.ne, .int (nI σ.sf), .int (bo_i σ.ib), .int (nI σ.sq), .int (nI σ.pr), .int (nI σ.mi)])) := hkp.o
  refine lv_aload_n hx hb de_K_delete_0 rfl (lv_at hl 0 rfl) ?_
  refine lv_iload_n hx hb de_K_delete_1 rfl (lv_at hl 1 rfl) ?_
  refine lv_lconst (v := 0) hx hb de_K_delete_2 (by decide) ?_
  refine lv_iconst (v := nI 1) hx hb de_K_delete_3 (by decide) ?_
  rw [show nI 1 = bo_i true by decide]
  exact dk_thrV hQ (dk_runT (As := [.int (nI k), .long 0, .int (bo_i true)]) (rest := []) ⟨hx, hb, hml, hown, hts⟩ (t_K_writeF l hlt G w h D σ hkp k 0 true hk0 hib hfull) (cwV 3 hts (wd_gV (C := "RunKeeper") wi_338 wi_335 wi_337 (wd_p (q := (⟨"RunKeeper", "write", "(IJZ)I"⟩, 12)) (by decide +kernel) (by decide +kernel)) wi_1) rfl rfl rfl (by decide +kernel) ⟨Nat.le_of_ble_eq_true rfl, Nat.le_of_ble_eq_true rfl⟩) (dk_preV (kn_K, kt_K, 12) hE hP hS hh_1676 rfl) hS rfl rfl hl.1 rfl (lv_room (Nat.le_of_ble_eq_true rfl)) de_K_delete_4 ⟨(by first | exact Nat.le_of_ble_eq_true rfl | (simp only [Nat.zero_add]; omega) | omega), (by first | exact Nat.le_of_ble_eq_true rfl | (simp only [Nat.zero_add]; omega) | omega)⟩) hno hlocks (by first | exact Nat.le_of_ble_eq_true rfl | omega) (by first | exact Nat.le_of_ble_eq_true rfl | omega) (fun _ h9 => h9)
set_option maxHeartbeats 4000000 in
set_option maxRecDepth 100000 in
theorem t_K_deleteG (l : Launch) (hlt : l.stackTraces = false) (G : dk_G) (w : dk_H) (h : Nat) (D : kp_D) (σ : kp_S) (hkp : kp_at G w h D σ) (k : Nat) (hk0 : k < 1024) (hib : σ.ib = false) (hc6 : 600 ≤ kp_n σ) (hc7 : kp_n σ ≤ 600) : dk_Mt l my_K_delete (wd_c my_K_delete mb_K_delete 2 (some .int)) rt_K_delete G w [.ref h, .int (nI k)] "java/lang/IndexOutOfBoundsException" (fun w1 => w1 = w) 1 6 := by
  refine dk_enterT (lv := [(0, .ref h), (1, .int (nI k))]) (by decide) (Nat.le_of_ble_eq_true rfl) rfl (fun p e s m args below meth c ls Q hQ C hno hP hS hl => ?_)
  obtain ⟨hx, hb, hr, hml, hlocks, hown, hnm, hts, hE⟩ := C
  have hK := hE.1
  have hN := hE.2.1
  have hh_1677 : w h = some (1, .inr (cx_K, [.ref D.t, .ref D.a, .ref D.lv, .ref D.sn, .ref D.g, .ref D.k, .ref D.ne, .int (nI σ.sf), .int (bo_i σ.ib), .int (nI σ.sq), .int (nI σ.pr), .int (nI σ.mi)])) := hkp.o
  refine lv_aload_n hx hb de_K_delete_0 rfl (lv_at hl 0 rfl) ?_
  refine lv_iload_n hx hb de_K_delete_1 rfl (lv_at hl 1 rfl) ?_
  refine lv_lconst (v := 0) hx hb de_K_delete_2 (by decide) ?_
  refine lv_iconst (v := nI 1) hx hb de_K_delete_3 (by decide) ?_
  rw [show nI 1 = bo_i true by decide]
  exact dk_thrV hQ (dk_runT (As := [.int (nI k), .long 0, .int (bo_i true)]) (rest := []) ⟨hx, hb, hml, hown, hts⟩ (t_K_writeG l hlt G w h D σ hkp k 0 true hk0 hib hc6 hc7) (cwV 3 hts (wd_gV (C := "RunKeeper") wi_338 wi_335 wi_337 (wd_p (q := (⟨"RunKeeper", "write", "(IJZ)I"⟩, 12)) (by decide +kernel) (by decide +kernel)) wi_1) rfl rfl rfl (by decide +kernel) ⟨Nat.le_of_ble_eq_true rfl, Nat.le_of_ble_eq_true rfl⟩) (dk_preV (kn_K, kt_K, 12) hE hP hS hh_1677 rfl) hS rfl rfl hl.1 rfl (lv_room (Nat.le_of_ble_eq_true rfl)) de_K_delete_4 ⟨(by first | exact Nat.le_of_ble_eq_true rfl | (simp only [Nat.zero_add]; omega) | omega), (by first | exact Nat.le_of_ble_eq_true rfl | (simp only [Nat.zero_add]; omega) | omega)⟩) hno hlocks (by first | exact Nat.le_of_ble_eq_true rfl | omega) (by first | exact Nat.le_of_ble_eq_true rfl | omega) (fun _ h9 => h9)
abbrev rt_K_batch : Room := { frames := 6, cells := 1, slots := 6, locals := 82 }
set_option maxHeartbeats 4000000 in
set_option maxRecDepth 100000 in
theorem t_K_batch (l : Launch) (hlt : l.stackTraces = false) (G : dk_G) (w : dk_H) (h : Nat) (D : kp_D) (σ : kp_S) (hkp : kp_at G w h D σ) (hb0 : σ.ib = true) : dk_Mt l my_K_batch (wd_c my_K_batch mb_K_batch 1 none) rt_K_batch G w [.ref h] "java/lang/IllegalStateException" (fun w1 => w1 = w) 1 6 := by
  refine dk_enterT (lv := [(0, .ref h)]) (by decide) (Nat.le_of_ble_eq_true rfl) rfl (fun p e s m args below meth c ls Q hQ C hno hP hS hl => ?_)
  obtain ⟨hx, hb, hr, hml, hlocks, hown, hnm, hts, hE⟩ := C
  have hK := hE.1
  have hN := hE.2.1
  have hh_1678 : w h = some (1, .inr (cx_K, [.ref D.t, .ref D.a, .ref D.lv, .ref D.sn, .ref D.g, .ref D.k, .ref D.ne, .int (nI σ.sf), .int (bo_i σ.ib), .int (nI σ.sq), .int (nI σ.pr), .int (nI σ.mi)])) := hkp.o
  refine lv_aload_n hx hb de_K_batch_0 rfl (lv_at hl 0 rfl) ?_
  refine dk_get (a := h) (v := .int (bo_i σ.ib)) (C := kn_K) (T := kt_K) (N := 12) hx hb hts ki_K hown hK hP hh_1678 rfl 8 (by decide) (hts _ wi_111) (fun _ h9 => h9) rfl de_K_batch_1 ?_
  refine bo_if_eq (b := σ.ib) (tgt := 17) hx hb de_K_batch_4 (by decide) (fun c_1679 => ?_) (fun c_1679 => ?_)
  · exact absurd (hb0.symm.trans c_1679) (by decide)
  · exact dk_thr hQ hno hlt hx hb (hml.trans hl.1.symm) hlocks hown hts hE hP hS (rfl) (by first | exact Nat.le_of_ble_eq_true rfl | omega) (by first | exact Nat.le_of_ble_eq_true rfl | omega) (by first | exact Nat.le_of_ble_eq_true rfl | omega) (by first | exact Nat.le_of_ble_eq_true rfl | omega) (by first | exact Nat.le_of_ble_eq_true rfl | omega) (by first | exact Nat.le_of_ble_eq_true rfl | omega) (by decide +kernel) (List.mem_of_getElem? (i := 2) rfl) wi_491 wi_20 ow_S de_K_batch_7 de_K_batch_10 de_K_batch_11 de_K_batch_13 de_K_batch_16
abbrev rt_K_end : Room := { frames := 6, cells := 1, slots := 6, locals := 82 }
set_option maxHeartbeats 4000000 in
set_option maxRecDepth 100000 in
theorem t_K_endN (l : Launch) (hlt : l.stackTraces = false) (G : dk_G) (w : dk_H) (h : Nat) (D : kp_D) (σ : kp_S) (hkp : kp_at G w h D σ) (b : Bool) (hib : σ.ib = false) : dk_Mt l my_K_end (wd_c my_K_end mb_K_end 4 (some .int)) rt_K_end G w [.ref h, .int (bo_i b)] "java/lang/IllegalStateException" (fun w1 => w1 = w) 1 6 := by
  refine dk_enterT (lv := [(0, .ref h), (1, .int (bo_i b))]) (by decide) (Nat.le_of_ble_eq_true rfl) rfl (fun p e s m args below meth c ls Q hQ C hno hP hS hl => ?_)
  obtain ⟨hx, hb, hr, hml, hlocks, hown, hnm, hts, hE⟩ := C
  have hK := hE.1
  have hN := hE.2.1
  have hh_1680 : w h = some (1, .inr (cx_K, [.ref D.t, .ref D.a, .ref D.lv, .ref D.sn, .ref D.g, .ref D.k, .ref D.ne, .int (nI σ.sf), .int (bo_i σ.ib), .int (nI σ.sq), .int (nI σ.pr), .int (nI σ.mi)])) := hkp.o
  refine lv_aload_n hx hb de_K_end_0 rfl (lv_at hl 0 rfl) ?_
  refine dk_get (a := h) (v := .int (bo_i σ.ib)) (C := kn_K) (T := kt_K) (N := 12) hx hb hts ki_K hown hK hP hh_1680 rfl 8 (by decide) (hts _ wi_111) (fun _ h9 => h9) rfl de_K_end_1 ?_
  refine bo_if_ne (b := σ.ib) (tgt := 17) hx hb de_K_end_4 (by decide) (fun c_1681 => ?_) (fun c_1681 => ?_)
  · exact absurd (hib.symm.trans c_1681) (by decide)
  · exact dk_thr hQ hno hlt hx hb (hml.trans hl.1.symm) hlocks hown hts hE hP hS (rfl) (by first | exact Nat.le_of_ble_eq_true rfl | omega) (by first | exact Nat.le_of_ble_eq_true rfl | omega) (by first | exact Nat.le_of_ble_eq_true rfl | omega) (by first | exact Nat.le_of_ble_eq_true rfl | omega) (by first | exact Nat.le_of_ble_eq_true rfl | omega) (by first | exact Nat.le_of_ble_eq_true rfl | omega) (by decide +kernel) (List.mem_of_getElem? (i := 3) rfl) wi_491 wi_20 ow_S de_K_end_7 de_K_end_10 de_K_end_11 de_K_end_13 de_K_end_16
set_option maxHeartbeats 4000000 in
set_option maxRecDepth 100000 in
theorem t_K_endX (l : Launch) (hlt : l.stackTraces = false) (G : dk_G) (w : dk_H) (h : Nat) (D : kp_D) (σ : kp_S) (hkp : kp_at G w h D σ) (hib : σ.ib = true) (hc6 : 600 < kp_n σ + σ.ad.length) (hc7 : kp_n σ ≤ 600) : dk_Mt l my_K_end (wd_c my_K_end mb_K_end 4 (some .int)) rt_K_end G w [.ref h, .int (bo_i true)] "java/lang/IndexOutOfBoundsException" (fun w1 => w1 = w) 1 6 := by
  have ha16 : σ.ad.length ≤ 16 := hkp.a.choose_spec.choose_spec.2.2.1
  refine dk_enterT (lv := [(0, .ref h), (1, .int (bo_i true))]) (by decide) (Nat.le_of_ble_eq_true rfl) rfl (fun p e s m args below meth c ls Q hQ C hno hP hS hl => ?_)
  obtain ⟨hx, hb, hr, hml, hlocks, hown, hnm, hts, hE⟩ := C
  have hK := hE.1
  have hN := hE.2.1
  have hh_1682 : w h = some (1, .inr (cx_K, [.ref D.t, .ref D.a, .ref D.lv, .ref D.sn, .ref D.g, .ref D.k, .ref D.ne, .int (nI σ.sf), .int (bo_i σ.ib), .int (nI σ.sq), .int (nI σ.pr), .int (nI σ.mi)])) := hkp.o
  refine lv_aload_n hx hb de_K_end_0 rfl (lv_at hl 0 rfl) ?_
  refine dk_get (a := h) (v := .int (bo_i σ.ib)) (C := kn_K) (T := kt_K) (N := 12) hx hb hts ki_K hown hK hP hh_1682 rfl 8 (by decide) (hts _ wi_111) (fun _ h9 => h9) rfl de_K_end_1 ?_
  refine bo_if_ne (b := σ.ib) (tgt := 17) hx hb de_K_end_4 (by decide) (fun c_1683 => ?_) (fun c_1683 => ?_)
  · refine lv_iload_n hx hb de_K_end_17 rfl (lv_at hl 1 rfl) ?_
    refine bo_if_eq (b := true) (tgt := 31) hx hb de_K_end_18 (by decide) (fun c_1684 => ?_) (fun c_1684 => ?_)
    · exact absurd c_1684 (by decide)
    · refine lv_aload_n hx hb de_K_end_21 rfl (lv_at hl 0 rfl) ?_
      refine dk_get (a := h) (v := .ref D.a) (C := kn_K) (T := kt_K) (N := 12) hx hb hts ki_K hown hK hP hh_1682 rfl 1 (by decide) (hts _ wi_104) (fun _ h9 => h9) rfl de_K_end_22 ?_
      obtain ⟨sl_1685, _, hc_1686, -⟩ := id hkp.a
      refine dk_calli (va_runV (As := []) (rest := []) ⟨hx, hb, hml, hown, hts⟩ (c_R_size l G w D.a 4 5 16 σ.ad hkp.a) (cwV 0 hts (wd_gV (C := "RunKeeper$Row") wi_147 wi_144 wi_145 wi_146 wi_2) rfl rfl rfl (by decide +kernel) ⟨Nat.le_of_ble_eq_true rfl, Nat.le_of_ble_eq_true rfl⟩) (dk_preV (kn_R, kt_R, 2) hE hP hS hc_1686 rfl) rfl rfl hl.1 rfl (lv_room (Nat.le_of_ble_eq_true rfl)) de_K_end_25 ⟨(by first | exact Nat.le_of_ble_eq_true rfl | (simp only [Nat.zero_add]; omega) | omega), (by first | exact Nat.le_of_ble_eq_true rfl | (simp only [Nat.zero_add]; omega) | omega)⟩) hS (fun r_1689 w_1687 H locs hq_1688 hP hS => ?_)
      obtain ⟨hr_1690, he_1691⟩ := hq_1688
      subst hr_1690
      rw [he_1691] at hP
      refine lv_goto (tgt := 32) hx hb de_K_end_28 (by decide) ?_
      refine lv_istore_n (lv' := [(2, .int (nI σ.ad.length)), (0, .ref h), (1, .int (bo_i true))]) hx hb de_K_end_32 rfl hl (by decide) rfl (fun ls hl => ?_)
      refine lv_aload_n hx hb de_K_end_33 rfl (lv_at hl 1 rfl) ?_
      refine dk_calli (va_runV (As := []) (rest := []) ⟨hx, hb, hml, hown, hts⟩ (c_K_entriesInAll l G w h D σ hkp) (cwV 0 hts (wd_gV (C := "RunKeeper") wi_418 wi_415 wi_417 (wd_p (q := (⟨"RunKeeper", "entriesInAll", "()I"⟩, 12)) (by decide +kernel) (by decide +kernel)) wi_1) rfl rfl rfl (by decide +kernel) ⟨Nat.le_of_ble_eq_true rfl, Nat.le_of_ble_eq_true rfl⟩) (dk_preV (kn_K, kt_K, 12) hE hP hS hh_1682 rfl) rfl rfl hl.1 rfl (lv_room (Nat.le_of_ble_eq_true rfl)) de_K_end_34 ⟨(by first | exact Nat.le_of_ble_eq_true rfl | (simp only [Nat.zero_add]; omega) | omega), (by first | exact Nat.le_of_ble_eq_true rfl | (simp only [Nat.zero_add]; omega) | omega)⟩) hS (fun r_1694 w_1692 H locs hq_1693 hP hS => ?_)
      obtain ⟨hr_1695, he_1696⟩ := hq_1693
      subst hr_1695
      rw [he_1696] at hP
      refine lv_iload_n hx hb de_K_end_37 rfl (lv_at hl 0 rfl) ?_
      refine nx_iadd (a := kp_n σ) (b := σ.ad.length) hx hb de_K_end_38 ?_
      refine lv_sipush (v := nI 600) hx hb de_K_end_39 (by decide) ?_
      refine nx_icmp_le (a := kp_n σ + σ.ad.length) (b := 600) (tgt := 55) hx hb (by omega) (by omega) de_K_end_42 (by decide) (fun c_1697 => ?_) (fun c_1697 => ?_)
      · exact absurd c_1697 (by omega)
      · exact dk_thr hQ hno hlt hx hb (hml.trans hl.1.symm) hlocks hown hts hE hP hS (rfl) (by first | exact Nat.le_of_ble_eq_true rfl | omega) (by first | exact Nat.le_of_ble_eq_true rfl | omega) (by first | exact Nat.le_of_ble_eq_true rfl | omega) (by first | exact Nat.le_of_ble_eq_true rfl | omega) (by first | exact Nat.le_of_ble_eq_true rfl | omega) (by first | exact Nat.le_of_ble_eq_true rfl | omega) (by decide +kernel) (List.mem_of_getElem? (i := 4) rfl) wi_423 wi_13 ow_B de_K_end_45 de_K_end_48 de_K_end_49 de_K_end_51 de_K_end_54
  · exact absurd (hib.symm.trans c_1683) (by decide)
abbrev rt_K_merge : Room := { frames := 6, cells := 1, slots := 6, locals := 82 }
set_option maxHeartbeats 4000000 in
set_option maxRecDepth 100000 in
theorem t_K_merge (l : Launch) (hlt : l.stackTraces = false) (G : dk_G) (w : dk_H) (h : Nat) (D : kp_D) (σ : kp_S) (hkp : kp_at G w h D σ) (k : Int32) (hk0 : im_b k (nI 0) (nI 100) = false) : dk_Mt l my_K_merge (wd_c my_K_merge mb_K_merge 3 (some .int)) rt_K_merge G w [.ref h, .int k] "java/lang/IllegalArgumentException" (fun w1 => w1 = w) 1 6 := by
  refine dk_enterT (lv := [(0, .ref h), (1, .int k)]) (by decide) (Nat.le_of_ble_eq_true rfl) rfl (fun p e s m args below meth c ls Q hQ C hno hP hS hl => ?_)
  obtain ⟨hx, hb, hr, hml, hlocks, hown, hnm, hts, hE⟩ := C
  have hK := hE.1
  have hN := hE.2.1
  have hh_1698 : w h = some (1, .inr (cx_K, [.ref D.t, .ref D.a, .ref D.lv, .ref D.sn, .ref D.g, .ref D.k, .ref D.ne, .int (nI σ.sf), .int (bo_i σ.ib), .int (nI σ.sq), .int (nI σ.pr), .int (nI σ.mi)])) := hkp.o
  refine lv_iload_n hx hb de_K_merge_0 rfl (lv_at hl 1 rfl) ?_
  refine lv_if_lt (tgt := 10) hx hb de_K_merge_1 (by decide) (fun c_1699 => ?_) (fun c_1699 => ?_)
  · exact dk_thr hQ hno hlt hx hb (hml.trans hl.1.symm) hlocks hown hts hE hP hS (rfl) (by first | exact Nat.le_of_ble_eq_true rfl | omega) (by first | exact Nat.le_of_ble_eq_true rfl | omega) (by first | exact Nat.le_of_ble_eq_true rfl | omega) (by first | exact Nat.le_of_ble_eq_true rfl | omega) (by first | exact Nat.le_of_ble_eq_true rfl | omega) (by first | exact Nat.le_of_ble_eq_true rfl | omega) (by decide +kernel) (List.mem_of_getElem? (i := 5) rfl) wi_342 wi_12 ow_A de_K_merge_10 de_K_merge_13 de_K_merge_14 de_K_merge_16 de_K_merge_19
  · refine lv_iload_n hx hb de_K_merge_4 rfl (lv_at hl 1 rfl) ?_
    refine lv_bipush (v := nI 100) hx hb de_K_merge_5 (by decide) ?_
    refine lv_icmp_le (tgt := 20) hx hb de_K_merge_7 (by decide) (fun c_1700 => ?_) (fun c_1700 => ?_)
    · exact absurd hk0 (by rw [th_im (a := nI 0) c_1699 c_1700]; decide)
    · exact dk_thr hQ hno hlt hx hb (hml.trans hl.1.symm) hlocks hown hts hE hP hS (rfl) (by first | exact Nat.le_of_ble_eq_true rfl | omega) (by first | exact Nat.le_of_ble_eq_true rfl | omega) (by first | exact Nat.le_of_ble_eq_true rfl | omega) (by first | exact Nat.le_of_ble_eq_true rfl | omega) (by first | exact Nat.le_of_ble_eq_true rfl | omega) (by first | exact Nat.le_of_ble_eq_true rfl | omega) (by decide +kernel) (List.mem_of_getElem? (i := 5) rfl) wi_342 wi_12 ow_A de_K_merge_10 de_K_merge_13 de_K_merge_14 de_K_merge_16 de_K_merge_19
abbrev rt_K_snapshot : Room := { frames := 6, cells := 1, slots := 6, locals := 82 }
set_option maxHeartbeats 4000000 in
set_option maxRecDepth 100000 in
theorem t_K_snapshot (l : Launch) (hlt : l.stackTraces = false) (G : dk_G) (w : dk_H) (h : Nat) (D : kp_D) (σ : kp_S) (hkp : kp_at G w h D σ) (ha : ∀ i, i < 6 → (σ.sn i).isSome = true) : dk_Mt l my_K_snapshot (wd_c my_K_snapshot mb_K_snapshot 2 (some .int)) rt_K_snapshot G w [.ref h] "java/lang/IndexOutOfBoundsException" (fun w1 => w1 = w) 1 6 := by
  refine dk_enterT (lv := [(0, .ref h)]) (by decide) (Nat.le_of_ble_eq_true rfl) rfl (fun p e s m args below meth c ls Q hQ C hno hP hS hl => ?_)
  obtain ⟨hx, hb, hr, hml, hlocks, hown, hnm, hts, hE⟩ := C
  have hK := hE.1
  have hN := hE.2.1
  have hh_1701 : w h = some (1, .inr (cx_K, [.ref D.t, .ref D.a, .ref D.lv, .ref D.sn, .ref D.g, .ref D.k, .ref D.ne, .int (nI σ.sf), .int (bo_i σ.ib), .int (nI σ.sq), .int (nI σ.pr), .int (nI σ.mi)])) := hkp.o
  obtain ⟨a_1702, a_1703, _, _, hc_1704, -⟩ := id hkp.s
  refine lv_aload_n hx hb de_K_snapshot_0 rfl (lv_at hl 0 rfl) ?_
  refine dk_get (a := h) (v := .ref D.sn) (C := kn_K) (T := kt_K) (N := 12) hx hb hts ki_K hown hK hP hh_1701 rfl 3 (by decide) (hts _ wi_106) (fun _ h9 => h9) rfl de_K_snapshot_1 ?_
  refine dk_calli (va_runV (As := []) (rest := []) ⟨hx, hb, hml, hown, hts⟩ (c_S_leastFree l G w D.sn σ.sn hkp.s) (cwV 0 hts (wd_gV (C := "RunKeeper$Snapshots") wi_579 wi_576 wi_577 wi_578 wi_3) rfl rfl rfl (by decide +kernel) ⟨Nat.le_of_ble_eq_true rfl, Nat.le_of_ble_eq_true rfl⟩) (dk_preV (kn_S, kt_S, 2) hE hP hS hc_1704 rfl) rfl rfl hl.1 rfl (lv_room (Nat.le_of_ble_eq_true rfl)) de_K_snapshot_4 ⟨(by first | exact Nat.le_of_ble_eq_true rfl | (simp only [Nat.zero_add]; omega) | omega), (by first | exact Nat.le_of_ble_eq_true rfl | (simp only [Nat.zero_add]; omega) | omega)⟩) hS (fun r_1707 w_1705 H locs hq_1706 hP hS => ?_)
  obtain ⟨hq1, hq2⟩ := hq_1706
  rw [hq2] at hP
  have hr9 := sn_lfn ha hq1
  subst hr9
  refine lv_istore_n (lv' := [(1, .int (-1)), (0, .ref h)]) hx hb de_K_snapshot_7 rfl hl (by decide) rfl (fun ls hl => ?_)
  refine lv_iload_n hx hb de_K_snapshot_8 rfl (lv_at hl 0 rfl) ?_
  refine lv_if_ge (tgt := 22) hx hb de_K_snapshot_9 (by decide) (fun c_1708 => ?_) (fun c_1708 => ?_)
  · exact absurd c_1708 (by decide)
  · exact dk_thr hQ hno hlt hx hb (hml.trans hl.1.symm) hlocks hown hts hE hP hS (rfl) (by first | exact Nat.le_of_ble_eq_true rfl | omega) (by first | exact Nat.le_of_ble_eq_true rfl | omega) (by first | exact Nat.le_of_ble_eq_true rfl | omega) (by first | exact Nat.le_of_ble_eq_true rfl | omega) (by first | exact Nat.le_of_ble_eq_true rfl | omega) (by first | exact Nat.le_of_ble_eq_true rfl | omega) (by decide +kernel) (List.mem_of_getElem? (i := 6) rfl) wi_423 wi_13 ow_B de_K_snapshot_12 de_K_snapshot_15 de_K_snapshot_16 de_K_snapshot_18 de_K_snapshot_21
abbrev rt_K_release : Room := { frames := 6, cells := 1, slots := 6, locals := 82 }
set_option maxHeartbeats 4000000 in
set_option maxRecDepth 100000 in
theorem t_K_release (l : Launch) (hlt : l.stackTraces = false) (G : dk_G) (w : dk_H) (h : Nat) (D : kp_D) (σ : kp_S) (hkp : kp_at G w h D σ) (k : Int32) (hv : sn_g σ.sn k = none) : dk_Mt l my_K_release (wd_c my_K_release mb_K_release 2 none) rt_K_release G w [.ref h, .int k] "java/lang/IllegalArgumentException" (fun w1 => w1 = w) 1 6 := by
  refine dk_enterT (lv := [(0, .ref h), (1, .int k)]) (by decide) (Nat.le_of_ble_eq_true rfl) rfl (fun p e s m args below meth c ls Q hQ C hno hP hS hl => ?_)
  obtain ⟨hx, hb, hr, hml, hlocks, hown, hnm, hts, hE⟩ := C
  have hK := hE.1
  have hN := hE.2.1
  have hh_1709 : w h = some (1, .inr (cx_K, [.ref D.t, .ref D.a, .ref D.lv, .ref D.sn, .ref D.g, .ref D.k, .ref D.ne, .int (nI σ.sf), .int (bo_i σ.ib), .int (nI σ.sq), .int (nI σ.pr), .int (nI σ.mi)])) := hkp.o
  obtain ⟨a_1710, a_1711, _, _, hc_1712, -⟩ := id hkp.s
  refine lv_aload_n hx hb de_K_release_0 rfl (lv_at hl 0 rfl) ?_
  refine dk_get (a := h) (v := .ref D.sn) (C := kn_K) (T := kt_K) (N := 12) hx hb hts ki_K hown hK hP hh_1709 rfl 3 (by decide) (hts _ wi_106) (fun _ h9 => h9) rfl de_K_release_1 ?_
  refine lv_iload_n hx hb de_K_release_4 rfl (lv_at hl 1 rfl) ?_
  refine dk_calli (va_runV (As := [.int k]) (rest := []) ⟨hx, hb, hml, hown, hts⟩ (c_S_has l G w D.sn σ.sn hkp.s k) (cwV 1 hts (wd_gV (C := "RunKeeper$Snapshots") wi_595 wi_592 wi_593 wi_594 wi_3) rfl rfl rfl (by decide +kernel) ⟨Nat.le_of_ble_eq_true rfl, Nat.le_of_ble_eq_true rfl⟩) (dk_preV (kn_S, kt_S, 2) hE hP hS hc_1712 rfl) rfl rfl hl.1 rfl (lv_room (Nat.le_of_ble_eq_true rfl)) de_K_release_5 ⟨(by first | exact Nat.le_of_ble_eq_true rfl | (simp only [Nat.zero_add]; omega) | omega), (by first | exact Nat.le_of_ble_eq_true rfl | (simp only [Nat.zero_add]; omega) | omega)⟩) hS (fun r_1715 w_1713 H locs hq_1714 hP hS => ?_)
  rw [hv] at hq_1714
  obtain ⟨hr_1716, he_1717⟩ := hq_1714
  subst hr_1716
  rw [he_1717] at hP
  refine bo_if_ne (b := (none : Option Nat).isSome) (tgt := 21) hx hb de_K_release_8 (by decide) (fun c_1718 => ?_) (fun c_1718 => ?_)
  · exact absurd c_1718 (by decide)
  · exact dk_thr hQ hno hlt hx hb (hml.trans hl.1.symm) hlocks hown hts hE hP hS (rfl) (by first | exact Nat.le_of_ble_eq_true rfl | omega) (by first | exact Nat.le_of_ble_eq_true rfl | omega) (by first | exact Nat.le_of_ble_eq_true rfl | omega) (by first | exact Nat.le_of_ble_eq_true rfl | omega) (by first | exact Nat.le_of_ble_eq_true rfl | omega) (by first | exact Nat.le_of_ble_eq_true rfl | omega) (by decide +kernel) (List.mem_of_getElem? (i := 7) rfl) wi_342 wi_12 ow_A de_K_release_11 de_K_release_14 de_K_release_15 de_K_release_17 de_K_release_20
abbrev rt_K_requireKeyAndView : Room := { frames := 6, cells := 1, slots := 6, locals := 82 }
set_option maxHeartbeats 4000000 in
set_option maxRecDepth 100000 in
theorem t_K_requireK (l : Launch) (hlt : l.stackTraces = false) (G : dk_G) (w : dk_H) (h : Nat) (D : kp_D) (σ : kp_S) (hkp : kp_at G w h D σ) (v k : Int32) (hk0 : in_r 1024 k = false) : dk_Mt l my_K_requireKeyAndView (wd_c my_K_requireKeyAndView mb_K_requireKeyAndView 3 none) rt_K_requireKeyAndView G w [.ref h, .int v, .int k] "java/lang/IllegalArgumentException" (fun w1 => w1 = w) 1 6 := by
  refine dk_enterT (lv := [(0, .ref h), (1, .int v), (2, .int k)]) (by decide) (Nat.le_of_ble_eq_true rfl) rfl (fun p e s m args below meth c ls Q hQ C hno hP hS hl => ?_)
  obtain ⟨hx, hb, hr, hml, hlocks, hown, hnm, hts, hE⟩ := C
  have hK := hE.1
  have hN := hE.2.1
  have hh_1719 : w h = some (1, .inr (cx_K, [.ref D.t, .ref D.a, .ref D.lv, .ref D.sn, .ref D.g, .ref D.k, .ref D.ne, .int (nI σ.sf), .int (bo_i σ.ib), .int (nI σ.sq), .int (nI σ.pr), .int (nI σ.mi)])) := hkp.o
  refine lv_iload_n hx hb de_K_requireKeyAndView_0 rfl (lv_at hl 2 rfl) ?_
  refine dk_calli (va_runS (As := [.int k]) (rest := []) ⟨hx, hb, hml, hown, hts⟩ (c_K_isKey l G w k) (va_cwS 1 hts (wd_gS wi_341 wi_339 wi_340 wi_1) rfl rfl rfl (by decide +kernel) ⟨Nat.le_of_ble_eq_true rfl, Nat.le_of_ble_eq_true rfl⟩) (dk_preS hE hP hS) rfl rfl hl.1 rfl (lv_room (Nat.le_of_ble_eq_true rfl)) de_K_requireKeyAndView_1 ⟨(by first | exact Nat.le_of_ble_eq_true rfl | (simp only [Nat.zero_add]; omega) | omega), (by first | exact Nat.le_of_ble_eq_true rfl | (simp only [Nat.zero_add]; omega) | omega)⟩) hS (fun r_1722 w_1720 H locs hq_1721 hP hS => ?_)
  rw [hk0] at hq_1721
  obtain ⟨hr_1723, he_1724⟩ := hq_1721
  subst hr_1723
  rw [he_1724] at hP
  refine bo_if_eq (b := false) (tgt := 23) hx hb de_K_requireKeyAndView_4 (by decide) (fun c_1725 => ?_) (fun c_1725 => ?_)
  · exact dk_thrW hQ hno hlt hx hb (hml.trans hl.1.symm) hlocks hown hts hE hP hS (rfl) (by first | exact Nat.le_of_ble_eq_true rfl | omega) (by first | exact Nat.le_of_ble_eq_true rfl | omega) (by first | exact Nat.le_of_ble_eq_true rfl | omega) (by first | exact Nat.le_of_ble_eq_true rfl | omega) (by first | exact Nat.le_of_ble_eq_true rfl | omega) (by first | exact Nat.le_of_ble_eq_true rfl | omega) (by decide +kernel) (List.mem_of_getElem? (i := 8) rfl) wi_342 wi_12 ow_A de_K_requireKeyAndView_23 de_K_requireKeyAndView_26 de_K_requireKeyAndView_27 de_K_requireKeyAndView_30 de_K_requireKeyAndView_33
  · exact absurd c_1725 (by decide)
set_option maxHeartbeats 4000000 in
set_option maxRecDepth 100000 in
theorem t_K_requireV (l : Launch) (hlt : l.stackTraces = false) (G : dk_G) (w : dk_H) (h : Nat) (D : kp_D) (σ : kp_S) (hkp : kp_at G w h D σ) (v : Int32) (k : Nat) (hk0 : k < 1024) (hv1 : ¬ v = -1) (hv : sn_g σ.sn v = none) : dk_Mt l my_K_requireKeyAndView (wd_c my_K_requireKeyAndView mb_K_requireKeyAndView 3 none) rt_K_requireKeyAndView G w [.ref h, .int v, .int (nI k)] "java/lang/IllegalArgumentException" (fun w1 => w1 = w) 1 6 := by
  refine dk_enterT (lv := [(0, .ref h), (1, .int v), (2, .int (nI k))]) (by decide) (Nat.le_of_ble_eq_true rfl) rfl (fun p e s m args below meth c ls Q hQ C hno hP hS hl => ?_)
  obtain ⟨hx, hb, hr, hml, hlocks, hown, hnm, hts, hE⟩ := C
  have hK := hE.1
  have hN := hE.2.1
  have hh_1726 : w h = some (1, .inr (cx_K, [.ref D.t, .ref D.a, .ref D.lv, .ref D.sn, .ref D.g, .ref D.k, .ref D.ne, .int (nI σ.sf), .int (bo_i σ.ib), .int (nI σ.sq), .int (nI σ.pr), .int (nI σ.mi)])) := hkp.o
  refine lv_iload_n hx hb de_K_requireKeyAndView_0 rfl (lv_at hl 2 rfl) ?_
  refine dk_calli (va_runS (As := [.int (nI k)]) (rest := []) ⟨hx, hb, hml, hown, hts⟩ (c_K_isKey l G w (nI k)) (va_cwS 1 hts (wd_gS wi_341 wi_339 wi_340 wi_1) rfl rfl rfl (by decide +kernel) ⟨Nat.le_of_ble_eq_true rfl, Nat.le_of_ble_eq_true rfl⟩) (dk_preS hE hP hS) rfl rfl hl.1 rfl (lv_room (Nat.le_of_ble_eq_true rfl)) de_K_requireKeyAndView_1 ⟨(by first | exact Nat.le_of_ble_eq_true rfl | (simp only [Nat.zero_add]; omega) | omega), (by first | exact Nat.le_of_ble_eq_true rfl | (simp only [Nat.zero_add]; omega) | omega)⟩) hS (fun r_1729 w_1727 H locs hq_1728 hP hS => ?_)
  rw [in_nat (by omega) (by decide)] at hq_1728
  obtain ⟨hr_1730, he_1731⟩ := hq_1728
  subst hr_1730
  rw [he_1731] at hP
  refine bo_if_eq (b := (decide (k < 1024))) (tgt := 23) hx hb de_K_requireKeyAndView_4 (by decide) (fun c_1732 => ?_) (fun c_1732 => ?_)
  · exact absurd c_1732 (by simp [hk0])
  · refine lv_iload_n hx hb de_K_requireKeyAndView_7 rfl (lv_at hl 1 rfl) ?_
    refine lv_iconst (v := (-1)) hx hb de_K_requireKeyAndView_8 (by decide) ?_
    refine lv_icmp_eq (tgt := 34) hx hb de_K_requireKeyAndView_9 (by decide) (fun c_1733 => ?_) (fun c_1733 => ?_)
    · exact absurd c_1733 hv1
    · obtain ⟨a_1734, a_1735, _, _, hc_1736, -⟩ := id hkp.s
      refine lv_aload_n hx hb de_K_requireKeyAndView_12 rfl (lv_at hl 0 rfl) ?_
      refine dk_get (a := h) (v := .ref D.sn) (C := kn_K) (T := kt_K) (N := 12) hx hb hts ki_K hown hK hP hh_1726 rfl 3 (by decide) (hts _ wi_106) (fun _ h9 => h9) rfl de_K_requireKeyAndView_13 ?_
      refine lv_iload_n hx hb de_K_requireKeyAndView_16 rfl (lv_at hl 1 rfl) ?_
      refine dk_calli (va_runV (As := [.int v]) (rest := []) ⟨hx, hb, hml, hown, hts⟩ (c_S_has l G w D.sn σ.sn hkp.s v) (cwV 1 hts (wd_gV (C := "RunKeeper$Snapshots") wi_595 wi_592 wi_593 wi_594 wi_3) rfl rfl rfl (by decide +kernel) ⟨Nat.le_of_ble_eq_true rfl, Nat.le_of_ble_eq_true rfl⟩) (dk_preV (kn_S, kt_S, 2) hE hP hS hc_1736 rfl) rfl rfl hl.1 rfl (lv_room (Nat.le_of_ble_eq_true rfl)) de_K_requireKeyAndView_17 ⟨(by first | exact Nat.le_of_ble_eq_true rfl | (simp only [Nat.zero_add]; omega) | omega), (by first | exact Nat.le_of_ble_eq_true rfl | (simp only [Nat.zero_add]; omega) | omega)⟩) hS (fun r_1739 w_1737 H locs hq_1738 hP hS => ?_)
      rw [hv] at hq_1738
      obtain ⟨hr_1740, he_1741⟩ := hq_1738
      subst hr_1740
      rw [he_1741] at hP
      refine bo_if_ne (b := (none : Option Nat).isSome) (tgt := 34) hx hb de_K_requireKeyAndView_20 (by decide) (fun c_1742 => ?_) (fun c_1742 => ?_)
      · exact absurd c_1742 (by decide)
      · exact dk_thrW hQ hno hlt hx hb (hml.trans hl.1.symm) hlocks hown hts hE hP hS (rfl) (by first | exact Nat.le_of_ble_eq_true rfl | omega) (by first | exact Nat.le_of_ble_eq_true rfl | omega) (by first | exact Nat.le_of_ble_eq_true rfl | omega) (by first | exact Nat.le_of_ble_eq_true rfl | omega) (by first | exact Nat.le_of_ble_eq_true rfl | omega) (by first | exact Nat.le_of_ble_eq_true rfl | omega) (by decide +kernel) (List.mem_of_getElem? (i := 8) rfl) wi_342 wi_12 ow_A de_K_requireKeyAndView_23 de_K_requireKeyAndView_26 de_K_requireKeyAndView_27 de_K_requireKeyAndView_30 de_K_requireKeyAndView_33
abbrev rt_K_get : Room := { frames := 7, cells := 1, slots := 6, locals := 135 }
set_option maxHeartbeats 4000000 in
set_option maxRecDepth 100000 in
theorem t_K_getK (l : Launch) (hlt : l.stackTraces = false) (G : dk_G) (w : dk_H) (h : Nat) (D : kp_D) (σ : kp_S) (hkp : kp_at G w h D σ) (v k : Int32) (hk0 : in_r 1024 k = false) : dk_Mt l my_K_get (wd_c my_K_get mb_K_get 4 (some .long)) rt_K_get G w [.ref h, .int v, .int k] "java/lang/IllegalArgumentException" (fun w1 => w1 = w) 1 6 := by
  refine dk_enterT (lv := [(0, .ref h), (1, .int v), (2, .int k)]) (by decide) (Nat.le_of_ble_eq_true rfl) rfl (fun p e s m args below meth c ls Q hQ C hno hP hS hl => ?_)
  obtain ⟨hx, hb, hr, hml, hlocks, hown, hnm, hts, hE⟩ := C
  have hK := hE.1
  have hN := hE.2.1
  have hh_1743 : w h = some (1, .inr (cx_K, [.ref D.t, .ref D.a, .ref D.lv, .ref D.sn, .ref D.g, .ref D.k, .ref D.ne, .int (nI σ.sf), .int (bo_i σ.ib), .int (nI σ.sq), .int (nI σ.pr), .int (nI σ.mi)])) := hkp.o
  refine lv_aload_n hx hb de_K_get_0 rfl (lv_at hl 0 rfl) ?_
  refine lv_iload_n hx hb de_K_get_1 rfl (lv_at hl 1 rfl) ?_
  refine lv_iload_n hx hb de_K_get_2 rfl (lv_at hl 2 rfl) ?_
  exact dk_thrV hQ (dk_runT (As := [.int v, .int k]) (rest := []) ⟨hx, hb, hml, hown, hts⟩ (t_K_requireK l hlt G w h D σ hkp v k hk0) (cwV 2 hts (wd_gV (C := "RunKeeper") wi_613 wi_610 wi_612 (wd_p (q := (⟨"RunKeeper", "requireKeyAndView", "(II)V"⟩, 12)) (by decide +kernel) (by decide +kernel)) wi_1) rfl rfl rfl (by decide +kernel) ⟨Nat.le_of_ble_eq_true rfl, Nat.le_of_ble_eq_true rfl⟩) (dk_preV (kn_K, kt_K, 12) hE hP hS hh_1743 rfl) hS rfl rfl hl.1 rfl (lv_room (Nat.le_of_ble_eq_true rfl)) de_K_get_3 ⟨(by first | exact Nat.le_of_ble_eq_true rfl | (simp only [Nat.zero_add]; omega) | omega), (by first | exact Nat.le_of_ble_eq_true rfl | (simp only [Nat.zero_add]; omega) | omega)⟩) hno hlocks (by first | exact Nat.le_of_ble_eq_true rfl | omega) (by first | exact Nat.le_of_ble_eq_true rfl | omega) (fun _ h9 => h9)
set_option maxHeartbeats 4000000 in
set_option maxRecDepth 100000 in
theorem t_K_getV (l : Launch) (hlt : l.stackTraces = false) (G : dk_G) (w : dk_H) (h : Nat) (D : kp_D) (σ : kp_S) (hkp : kp_at G w h D σ) (v : Int32) (k : Nat) (hk0 : k < 1024) (hv1 : ¬ v = -1) (hv : sn_g σ.sn v = none) : dk_Mt l my_K_get (wd_c my_K_get mb_K_get 4 (some .long)) rt_K_get G w [.ref h, .int v, .int (nI k)] "java/lang/IllegalArgumentException" (fun w1 => w1 = w) 1 6 := by
  refine dk_enterT (lv := [(0, .ref h), (1, .int v), (2, .int (nI k))]) (by decide) (Nat.le_of_ble_eq_true rfl) rfl (fun p e s m args below meth c ls Q hQ C hno hP hS hl => ?_)
  obtain ⟨hx, hb, hr, hml, hlocks, hown, hnm, hts, hE⟩ := C
  have hK := hE.1
  have hN := hE.2.1
  have hh_1744 : w h = some (1, .inr (cx_K, [.ref D.t, .ref D.a, .ref D.lv, .ref D.sn, .ref D.g, .ref D.k, .ref D.ne, .int (nI σ.sf), .int (bo_i σ.ib), .int (nI σ.sq), .int (nI σ.pr), .int (nI σ.mi)])) := hkp.o
  refine lv_aload_n hx hb de_K_get_0 rfl (lv_at hl 0 rfl) ?_
  refine lv_iload_n hx hb de_K_get_1 rfl (lv_at hl 1 rfl) ?_
  refine lv_iload_n hx hb de_K_get_2 rfl (lv_at hl 2 rfl) ?_
  exact dk_thrV hQ (dk_runT (As := [.int v, .int (nI k)]) (rest := []) ⟨hx, hb, hml, hown, hts⟩ (t_K_requireV l hlt G w h D σ hkp v k hk0 hv1 hv) (cwV 2 hts (wd_gV (C := "RunKeeper") wi_613 wi_610 wi_612 (wd_p (q := (⟨"RunKeeper", "requireKeyAndView", "(II)V"⟩, 12)) (by decide +kernel) (by decide +kernel)) wi_1) rfl rfl rfl (by decide +kernel) ⟨Nat.le_of_ble_eq_true rfl, Nat.le_of_ble_eq_true rfl⟩) (dk_preV (kn_K, kt_K, 12) hE hP hS hh_1744 rfl) hS rfl rfl hl.1 rfl (lv_room (Nat.le_of_ble_eq_true rfl)) de_K_get_3 ⟨(by first | exact Nat.le_of_ble_eq_true rfl | (simp only [Nat.zero_add]; omega) | omega), (by first | exact Nat.le_of_ble_eq_true rfl | (simp only [Nat.zero_add]; omega) | omega)⟩) hno hlocks (by first | exact Nat.le_of_ble_eq_true rfl | omega) (by first | exact Nat.le_of_ble_eq_true rfl | omega) (fun _ h9 => h9)
abbrev rt_K_next : Room := { frames := 7, cells := 1, slots := 6, locals := 104 }
set_option maxHeartbeats 4000000 in
set_option maxRecDepth 100000 in
theorem t_K_nextK (l : Launch) (hlt : l.stackTraces = false) (G : dk_G) (w : dk_H) (h : Nat) (D : kp_D) (σ : kp_S) (hkp : kp_at G w h D σ) (v k : Int32) (hk0 : in_r 1024 k = false) : dk_Mt l my_K_next (wd_c my_K_next mb_K_next 5 (some .int)) rt_K_next G w [.ref h, .int v, .int k] "java/lang/IllegalArgumentException" (fun w1 => w1 = w) 1 6 := by
  refine dk_enterT (lv := [(0, .ref h), (1, .int v), (2, .int k)]) (by decide) (Nat.le_of_ble_eq_true rfl) rfl (fun p e s m args below meth c ls Q hQ C hno hP hS hl => ?_)
  obtain ⟨hx, hb, hr, hml, hlocks, hown, hnm, hts, hE⟩ := C
  have hK := hE.1
  have hN := hE.2.1
  have hh_1745 : w h = some (1, .inr (cx_K, [.ref D.t, .ref D.a, .ref D.lv, .ref D.sn, .ref D.g, .ref D.k, .ref D.ne, .int (nI σ.sf), .int (bo_i σ.ib), .int (nI σ.sq), .int (nI σ.pr), .int (nI σ.mi)])) := hkp.o
  refine lv_aload_n hx hb de_K_next_0 rfl (lv_at hl 0 rfl) ?_
  refine lv_iload_n hx hb de_K_next_1 rfl (lv_at hl 1 rfl) ?_
  refine lv_iload_n hx hb de_K_next_2 rfl (lv_at hl 2 rfl) ?_
  exact dk_thrV hQ (dk_runT (As := [.int v, .int k]) (rest := []) ⟨hx, hb, hml, hown, hts⟩ (t_K_requireK l hlt G w h D σ hkp v k hk0) (cwV 2 hts (wd_gV (C := "RunKeeper") wi_613 wi_610 wi_612 (wd_p (q := (⟨"RunKeeper", "requireKeyAndView", "(II)V"⟩, 12)) (by decide +kernel) (by decide +kernel)) wi_1) rfl rfl rfl (by decide +kernel) ⟨Nat.le_of_ble_eq_true rfl, Nat.le_of_ble_eq_true rfl⟩) (dk_preV (kn_K, kt_K, 12) hE hP hS hh_1745 rfl) hS rfl rfl hl.1 rfl (lv_room (Nat.le_of_ble_eq_true rfl)) de_K_next_3 ⟨(by first | exact Nat.le_of_ble_eq_true rfl | (simp only [Nat.zero_add]; omega) | omega), (by first | exact Nat.le_of_ble_eq_true rfl | (simp only [Nat.zero_add]; omega) | omega)⟩) hno hlocks (by first | exact Nat.le_of_ble_eq_true rfl | omega) (by first | exact Nat.le_of_ble_eq_true rfl | omega) (fun _ h9 => h9)
set_option maxHeartbeats 4000000 in
set_option maxRecDepth 100000 in
theorem t_K_nextV (l : Launch) (hlt : l.stackTraces = false) (G : dk_G) (w : dk_H) (h : Nat) (D : kp_D) (σ : kp_S) (hkp : kp_at G w h D σ) (v : Int32) (k : Nat) (hk0 : k < 1024) (hv1 : ¬ v = -1) (hv : sn_g σ.sn v = none) : dk_Mt l my_K_next (wd_c my_K_next mb_K_next 5 (some .int)) rt_K_next G w [.ref h, .int v, .int (nI k)] "java/lang/IllegalArgumentException" (fun w1 => w1 = w) 1 6 := by
  refine dk_enterT (lv := [(0, .ref h), (1, .int v), (2, .int (nI k))]) (by decide) (Nat.le_of_ble_eq_true rfl) rfl (fun p e s m args below meth c ls Q hQ C hno hP hS hl => ?_)
  obtain ⟨hx, hb, hr, hml, hlocks, hown, hnm, hts, hE⟩ := C
  have hK := hE.1
  have hN := hE.2.1
  have hh_1746 : w h = some (1, .inr (cx_K, [.ref D.t, .ref D.a, .ref D.lv, .ref D.sn, .ref D.g, .ref D.k, .ref D.ne, .int (nI σ.sf), .int (bo_i σ.ib), .int (nI σ.sq), .int (nI σ.pr), .int (nI σ.mi)])) := hkp.o
  refine lv_aload_n hx hb de_K_next_0 rfl (lv_at hl 0 rfl) ?_
  refine lv_iload_n hx hb de_K_next_1 rfl (lv_at hl 1 rfl) ?_
  refine lv_iload_n hx hb de_K_next_2 rfl (lv_at hl 2 rfl) ?_
  exact dk_thrV hQ (dk_runT (As := [.int v, .int (nI k)]) (rest := []) ⟨hx, hb, hml, hown, hts⟩ (t_K_requireV l hlt G w h D σ hkp v k hk0 hv1 hv) (cwV 2 hts (wd_gV (C := "RunKeeper") wi_613 wi_610 wi_612 (wd_p (q := (⟨"RunKeeper", "requireKeyAndView", "(II)V"⟩, 12)) (by decide +kernel) (by decide +kernel)) wi_1) rfl rfl rfl (by decide +kernel) ⟨Nat.le_of_ble_eq_true rfl, Nat.le_of_ble_eq_true rfl⟩) (dk_preV (kn_K, kt_K, 12) hE hP hS hh_1746 rfl) hS rfl rfl hl.1 rfl (lv_room (Nat.le_of_ble_eq_true rfl)) de_K_next_3 ⟨(by first | exact Nat.le_of_ble_eq_true rfl | (simp only [Nat.zero_add]; omega) | omega), (by first | exact Nat.le_of_ble_eq_true rfl | (simp only [Nat.zero_add]; omega) | omega)⟩) hno hlocks (by first | exact Nat.le_of_ble_eq_true rfl | omega) (by first | exact Nat.le_of_ble_eq_true rfl | omega) (fun _ h9 => h9)
set_option maxHeartbeats 4000000 in
set_option maxRecDepth 100000 in
theorem t_K_getN (l : Launch) (hlt : l.stackTraces = false) (G : dk_G) (w : dk_H) (h : Nat) (D : kp_D) (σ : kp_S) (hkp : kp_at G w h D σ) (v : Int32) (k u : Nat) (hk0 : k < 1024) (hv : vw_u σ v = some u) (hu0 : u < 2 ^ 31) (hx0 : (lk_K σ k u).1 = none) : dk_Mt l my_K_get (wd_c my_K_get mb_K_get 4 (some .long)) rt_K_get G w [.ref h, .int v, .int (nI k)] "java/lang/UnsupportedOperationException" (fun w1 => kp_at G w1 h D ((σ.pr' (lk_K σ k u).2.1).mi' (lk_K σ k u).2.2) ∧ dk_fr kp_T w w1) 1 6 := by
  refine dk_enterT (lv := [(0, .ref h), (1, .int v), (2, .int (nI k))]) (by decide) (Nat.le_of_ble_eq_true rfl) rfl (fun p e s m args below meth c ls Q hQ C hno hP hS hl => ?_)
  obtain ⟨hx, hb, hr, hml, hlocks, hown, hnm, hts, hE⟩ := C
  have hK := hE.1
  have hN := hE.2.1
  have hh_1747 : w h = some (1, .inr (cx_K, [.ref D.t, .ref D.a, .ref D.lv, .ref D.sn, .ref D.g, .ref D.k, .ref D.ne, .int (nI σ.sf), .int (bo_i σ.ib), .int (nI σ.sq), .int (nI σ.pr), .int (nI σ.mi)])) := hkp.o
  refine lv_aload_n hx hb de_K_get_0 rfl (lv_at hl 0 rfl) ?_
  refine lv_iload_n hx hb de_K_get_1 rfl (lv_at hl 1 rfl) ?_
  refine lv_iload_n hx hb de_K_get_2 rfl (lv_at hl 2 rfl) ?_
  refine dk_callv (va_runV (As := [.int v, .int (nI k)]) (rest := []) ⟨hx, hb, hml, hown, hts⟩ (c_K_requireKeyAndView l G w h D σ hkp v k u hk0 hv) (cwV 2 hts (wd_gV (C := "RunKeeper") wi_613 wi_610 wi_612 (wd_p (q := (⟨"RunKeeper", "requireKeyAndView", "(II)V"⟩, 12)) (by decide +kernel) (by decide +kernel)) wi_1) rfl rfl rfl (by decide +kernel) ⟨Nat.le_of_ble_eq_true rfl, Nat.le_of_ble_eq_true rfl⟩) (dk_preV (kn_K, kt_K, 12) hE hP hS hh_1747 rfl) rfl rfl hl.1 rfl (lv_room (Nat.le_of_ble_eq_true rfl)) de_K_get_3 ⟨(by first | exact Nat.le_of_ble_eq_true rfl | (simp only [Nat.zero_add]; omega) | omega), (by first | exact Nat.le_of_ble_eq_true rfl | (simp only [Nat.zero_add]; omega) | omega)⟩) hS (fun w_1748 H locs hq_1749 hP hS => ?_)
  rw [hq_1749] at hP
  refine lv_aload_n hx hb de_K_get_6 rfl (lv_at hl 0 rfl) ?_
  refine lv_iload_n hx hb de_K_get_7 rfl (lv_at hl 2 rfl) ?_
  refine lv_aload_n hx hb de_K_get_8 rfl (lv_at hl 0 rfl) ?_
  refine lv_iload_n hx hb de_K_get_9 rfl (lv_at hl 1 rfl) ?_
  refine dk_calli (va_runV (As := [.int v]) (rest := [.int (nI k), .ref h]) ⟨hx, hb, hml, hown, hts⟩ (c_K_sequenceOf l G w h D σ hkp v u hv) (cwV 1 hts (wd_gV (C := "RunKeeper") wi_618 wi_615 wi_617 (wd_p (q := (⟨"RunKeeper", "sequenceOf", "(I)I"⟩, 12)) (by decide +kernel) (by decide +kernel)) wi_1) rfl rfl rfl (by decide +kernel) ⟨Nat.le_of_ble_eq_true rfl, Nat.le_of_ble_eq_true rfl⟩) (dk_preV (kn_K, kt_K, 12) hE hP hS hh_1747 rfl) rfl rfl hl.1 rfl (lv_room (Nat.le_of_ble_eq_true rfl)) de_K_get_10 ⟨(by first | exact Nat.le_of_ble_eq_true rfl | (simp only [Nat.zero_add]; omega) | omega), (by first | exact Nat.le_of_ble_eq_true rfl | (simp only [Nat.zero_add]; omega) | omega)⟩) hS (fun r_1753 w_1751 H locs hq_1752 hP hS => ?_)
  obtain ⟨hr_1754, he_1755⟩ := hq_1752
  subst hr_1754
  rw [he_1755] at hP
  refine dk_callq (va_runV (As := [.int (nI k), .int (nI u)]) (rest := []) ⟨hx, hb, hml, hown, hts⟩ (c_K_look l G w h D σ hkp k u (by omega) hu0) (cwV 2 hts (wd_gV (C := "RunKeeper") wi_626 wi_623 wi_625 (wd_p (q := (⟨"RunKeeper", "look", "(II)LRunKeeper$Entry;"⟩, 12)) (by decide +kernel) (by decide +kernel)) wi_1) rfl rfl rfl (by decide +kernel) ⟨Nat.le_of_ble_eq_true rfl, Nat.le_of_ble_eq_true rfl⟩) (dk_preV (kn_K, kt_K, 12) hE hP hS hh_1747 rfl) rfl rfl hl.1 rfl (lv_room (Nat.le_of_ble_eq_true rfl)) de_K_get_13 ⟨(by first | exact Nat.le_of_ble_eq_true rfl | (simp only [Nat.zero_add]; omega) | omega), (by first | exact Nat.le_of_ble_eq_true rfl | (simp only [Nat.zero_add]; omega) | omega)⟩) hS (fun r_1758 w_1756 H locs hq_1757 hP hS => ?_)
  obtain ⟨hq1, hq2, hq3⟩ := hq_1757
  rw [hx0] at hq1
  replace hq1 : r_1758 = none := hq1
  subst hq1
  refine lv_astore_nN (lv' := [(3, .null), (0, .ref h), (1, .int v), (2, .int (nI k))]) hx hb de_K_get_16 rfl hl (by decide) rfl (fun ls hl => ?_)
  refine lv_aload_nN hx hb de_K_get_17 rfl (lv_at hl 0 rfl) ?_
  refine lv_ifnullN (tgt := 28) hx hb de_K_get_18 (by decide) ?_
  exact dk_thr hQ hno hlt hx hb (hml.trans hl.1.symm) hlocks hown hts hE hP hS (⟨hq2, hq3⟩) (by first | exact Nat.le_of_ble_eq_true rfl | omega) (by first | exact Nat.le_of_ble_eq_true rfl | omega) (by first | exact Nat.le_of_ble_eq_true rfl | omega) (by first | exact Nat.le_of_ble_eq_true rfl | omega) (by first | exact Nat.le_of_ble_eq_true rfl | omega) (by first | exact Nat.le_of_ble_eq_true rfl | omega) (by decide +kernel) (List.mem_of_getElem? (i := 9) rfl) wi_656 wi_23 ow_U de_K_get_28 de_K_get_31 de_K_get_32 de_K_get_34 de_K_get_37
set_option maxHeartbeats 4000000 in
set_option maxRecDepth 100000 in
theorem t_K_getD (l : Launch) (hlt : l.stackTraces = false) (G : dk_G) (w : dk_H) (h : Nat) (D : kp_D) (σ : kp_S) (hkp : kp_at G w h D σ) (v : Int32) (k u : Nat) (hk0 : k < 1024) (hv : vw_u σ v = some u) (hu0 : u < 2 ^ 31) (x : en_T) (hx0 : (lk_K σ k u).1 = some x) (hx1 : x.2.2.2 = true) : dk_Mt l my_K_get (wd_c my_K_get mb_K_get 4 (some .long)) rt_K_get G w [.ref h, .int v, .int (nI k)] "java/lang/UnsupportedOperationException" (fun w1 => kp_at G w1 h D ((σ.pr' (lk_K σ k u).2.1).mi' (lk_K σ k u).2.2) ∧ dk_fr kp_T w w1) 1 6 := by
  refine dk_enterT (lv := [(0, .ref h), (1, .int v), (2, .int (nI k))]) (by decide) (Nat.le_of_ble_eq_true rfl) rfl (fun p e s m args below meth c ls Q hQ C hno hP hS hl => ?_)
  obtain ⟨hx, hb, hr, hml, hlocks, hown, hnm, hts, hE⟩ := C
  have hK := hE.1
  have hN := hE.2.1
  have hh_1760 : w h = some (1, .inr (cx_K, [.ref D.t, .ref D.a, .ref D.lv, .ref D.sn, .ref D.g, .ref D.k, .ref D.ne, .int (nI σ.sf), .int (bo_i σ.ib), .int (nI σ.sq), .int (nI σ.pr), .int (nI σ.mi)])) := hkp.o
  refine lv_aload_n hx hb de_K_get_0 rfl (lv_at hl 0 rfl) ?_
  refine lv_iload_n hx hb de_K_get_1 rfl (lv_at hl 1 rfl) ?_
  refine lv_iload_n hx hb de_K_get_2 rfl (lv_at hl 2 rfl) ?_
  refine dk_callv (va_runV (As := [.int v, .int (nI k)]) (rest := []) ⟨hx, hb, hml, hown, hts⟩ (c_K_requireKeyAndView l G w h D σ hkp v k u hk0 hv) (cwV 2 hts (wd_gV (C := "RunKeeper") wi_613 wi_610 wi_612 (wd_p (q := (⟨"RunKeeper", "requireKeyAndView", "(II)V"⟩, 12)) (by decide +kernel) (by decide +kernel)) wi_1) rfl rfl rfl (by decide +kernel) ⟨Nat.le_of_ble_eq_true rfl, Nat.le_of_ble_eq_true rfl⟩) (dk_preV (kn_K, kt_K, 12) hE hP hS hh_1760 rfl) rfl rfl hl.1 rfl (lv_room (Nat.le_of_ble_eq_true rfl)) de_K_get_3 ⟨(by first | exact Nat.le_of_ble_eq_true rfl | (simp only [Nat.zero_add]; omega) | omega), (by first | exact Nat.le_of_ble_eq_true rfl | (simp only [Nat.zero_add]; omega) | omega)⟩) hS (fun w_1761 H locs hq_1762 hP hS => ?_)
  rw [hq_1762] at hP
  refine lv_aload_n hx hb de_K_get_6 rfl (lv_at hl 0 rfl) ?_
  refine lv_iload_n hx hb de_K_get_7 rfl (lv_at hl 2 rfl) ?_
  refine lv_aload_n hx hb de_K_get_8 rfl (lv_at hl 0 rfl) ?_
  refine lv_iload_n hx hb de_K_get_9 rfl (lv_at hl 1 rfl) ?_
  refine dk_calli (va_runV (As := [.int v]) (rest := [.int (nI k), .ref h]) ⟨hx, hb, hml, hown, hts⟩ (c_K_sequenceOf l G w h D σ hkp v u hv) (cwV 1 hts (wd_gV (C := "RunKeeper") wi_618 wi_615 wi_617 (wd_p (q := (⟨"RunKeeper", "sequenceOf", "(I)I"⟩, 12)) (by decide +kernel) (by decide +kernel)) wi_1) rfl rfl rfl (by decide +kernel) ⟨Nat.le_of_ble_eq_true rfl, Nat.le_of_ble_eq_true rfl⟩) (dk_preV (kn_K, kt_K, 12) hE hP hS hh_1760 rfl) rfl rfl hl.1 rfl (lv_room (Nat.le_of_ble_eq_true rfl)) de_K_get_10 ⟨(by first | exact Nat.le_of_ble_eq_true rfl | (simp only [Nat.zero_add]; omega) | omega), (by first | exact Nat.le_of_ble_eq_true rfl | (simp only [Nat.zero_add]; omega) | omega)⟩) hS (fun r_1766 w_1764 H locs hq_1765 hP hS => ?_)
  obtain ⟨hr_1767, he_1768⟩ := hq_1765
  subst hr_1767
  rw [he_1768] at hP
  refine dk_callq (va_runV (As := [.int (nI k), .int (nI u)]) (rest := []) ⟨hx, hb, hml, hown, hts⟩ (c_K_look l G w h D σ hkp k u (by omega) hu0) (cwV 2 hts (wd_gV (C := "RunKeeper") wi_626 wi_623 wi_625 (wd_p (q := (⟨"RunKeeper", "look", "(II)LRunKeeper$Entry;"⟩, 12)) (by decide +kernel) (by decide +kernel)) wi_1) rfl rfl rfl (by decide +kernel) ⟨Nat.le_of_ble_eq_true rfl, Nat.le_of_ble_eq_true rfl⟩) (dk_preV (kn_K, kt_K, 12) hE hP hS hh_1760 rfl) rfl rfl hl.1 rfl (lv_room (Nat.le_of_ble_eq_true rfl)) de_K_get_13 ⟨(by first | exact Nat.le_of_ble_eq_true rfl | (simp only [Nat.zero_add]; omega) | omega), (by first | exact Nat.le_of_ble_eq_true rfl | (simp only [Nat.zero_add]; omega) | omega)⟩) hS (fun r_1771 w_1769 H locs hq_1770 hP hS => ?_)
  obtain ⟨hq1, hq2, hq3⟩ := hq_1770
  rw [hx0] at hq1
  obtain ⟨a9, ha9, hae⟩ := hq1
  subst ha9
  refine lv_astore_n (lv' := [(3, .ref a9), (0, .ref h), (1, .int v), (2, .int (nI k))]) hx hb de_K_get_16 rfl hl (by decide) rfl (fun ls hl => ?_)
  refine lv_aload_n hx hb de_K_get_17 rfl (lv_at hl 0 rfl) ?_
  refine lv_ifnull hx hb de_K_get_18 ?_
  refine lv_aload_n hx hb de_K_get_21 rfl (lv_at hl 0 rfl) ?_
  refine dk_getN (a := a9) (v := .int (bo_i x.2.2.2)) (C := kn_E) (T := kt_E) (N := 4) (host := "RunKeeper") hx hb hts ki_E hown hK hP hae rfl 3 (by decide) (hN.use (dn_m 455 (by decide +kernel) rfl)) (fun _ h9 => h9) rfl de_K_get_22 ?_
  refine bo_if_eq (b := x.2.2.2) (tgt := 38) hx hb de_K_get_25 (by decide) (fun c_1773 => ?_) (fun c_1773 => ?_)
  · exact absurd (hx1.symm.trans c_1773) (by decide)
  · exact dk_thr hQ hno hlt hx hb (hml.trans hl.1.symm) hlocks hown hts hE hP hS (⟨hq2, hq3⟩) (by first | exact Nat.le_of_ble_eq_true rfl | omega) (by first | exact Nat.le_of_ble_eq_true rfl | omega) (by first | exact Nat.le_of_ble_eq_true rfl | omega) (by first | exact Nat.le_of_ble_eq_true rfl | omega) (by first | exact Nat.le_of_ble_eq_true rfl | omega) (by first | exact Nat.le_of_ble_eq_true rfl | omega) (by decide +kernel) (List.mem_of_getElem? (i := 9) rfl) wi_656 wi_23 ow_U de_K_get_28 de_K_get_31 de_K_get_32 de_K_get_34 de_K_get_37
abbrev rt_K_entry : Room := { frames := 6, cells := 1, slots := 6, locals := 85 }
set_option maxHeartbeats 4000000 in
set_option maxRecDepth 100000 in
theorem t_K_entryF (l : Launch) (hlt : l.stackTraces = false) (G : dk_G) (w : dk_H) (h : Nat) (D : kp_D) (σ : kp_S) (hkp : kp_at G w h D σ) (l9 r9 k9 q9 : Int32) (hl0 : in_r 6 l9 = false) : dk_Mt l my_K_entry (wd_c my_K_entry mb_K_entry 7 (some .int)) rt_K_entry G w [.ref h, .int l9, .int r9, .int k9, .int q9] "java/lang/IllegalArgumentException" (fun w1 => w1 = w) 1 6 := by
  refine dk_enterT (lv := [(0, .ref h), (1, .int l9), (2, .int r9), (3, .int k9), (4, .int q9)]) (by decide) (Nat.le_of_ble_eq_true rfl) rfl (fun p e s m args below meth c ls Q hQ C hno hP hS hl => ?_)
  obtain ⟨hx, hb, hr, hml, hlocks, hown, hnm, hts, hE⟩ := C
  have hK := hE.1
  have hN := hE.2.1
  have hh_1774 : w h = some (1, .inr (cx_K, [.ref D.t, .ref D.a, .ref D.lv, .ref D.sn, .ref D.g, .ref D.k, .ref D.ne, .int (nI σ.sf), .int (bo_i σ.ib), .int (nI σ.sq), .int (nI σ.pr), .int (nI σ.mi)])) := hkp.o
  refine lv_iload_n hx hb de_K_entry_0 rfl (lv_at hl 1 rfl) ?_
  refine dk_calli (va_runS (As := [.int l9]) (rest := []) ⟨hx, hb, hml, hown, hts⟩ (c_K_isLevel l G w l9) (va_cwS 1 hts (wd_gS wi_170 wi_168 wi_169 wi_1) rfl rfl rfl (by decide +kernel) ⟨Nat.le_of_ble_eq_true rfl, Nat.le_of_ble_eq_true rfl⟩) (dk_preS hE hP hS) rfl rfl hl.1 rfl (lv_room (Nat.le_of_ble_eq_true rfl)) de_K_entry_1 ⟨(by first | exact Nat.le_of_ble_eq_true rfl | (simp only [Nat.zero_add]; omega) | omega), (by first | exact Nat.le_of_ble_eq_true rfl | (simp only [Nat.zero_add]; omega) | omega)⟩) hS (fun r_1777 w_1775 H locs hq_1776 hP hS => ?_)
  rw [hl0] at hq_1776
  obtain ⟨hr_1778, he_1779⟩ := hq_1776
  subst hr_1778
  rw [he_1779] at hP
  refine bo_if_eq (b := false) (tgt := 18) hx hb de_K_entry_4 (by decide) (fun c_1780 => ?_) (fun c_1780 => ?_)
  · exact dk_thr hQ hno hlt hx hb (hml.trans hl.1.symm) hlocks hown hts hE hP hS (rfl) (by first | exact Nat.le_of_ble_eq_true rfl | omega) (by first | exact Nat.le_of_ble_eq_true rfl | omega) (by first | exact Nat.le_of_ble_eq_true rfl | omega) (by first | exact Nat.le_of_ble_eq_true rfl | omega) (by first | exact Nat.le_of_ble_eq_true rfl | omega) (by first | exact Nat.le_of_ble_eq_true rfl | omega) (by decide +kernel) (List.mem_of_getElem? (i := 10) rfl) wi_342 wi_12 ow_A de_K_entry_18 de_K_entry_21 de_K_entry_22 de_K_entry_24 de_K_entry_27
  · exact absurd c_1780 (by decide)
set_option maxHeartbeats 4000000 in
set_option maxRecDepth 100000 in
theorem t_K_entryW (l : Launch) (hlt : l.stackTraces = false) (G : dk_G) (w : dk_H) (h : Nat) (D : kp_D) (σ : kp_S) (hkp : kp_at G w h D σ) (i : Nat) (r9 k9 q9 : Int32) (hi : i < 6) (hq0 : im_b q9 (nI 0) (nI 2) = false) : dk_Mt l my_K_entry (wd_c my_K_entry mb_K_entry 7 (some .int)) rt_K_entry G w [.ref h, .int (nI i), .int r9, .int k9, .int q9] "java/lang/IllegalArgumentException" (fun w1 => w1 = w) 1 6 := by
  refine dk_enterT (lv := [(0, .ref h), (1, .int (nI i)), (2, .int r9), (3, .int k9), (4, .int q9)]) (by decide) (Nat.le_of_ble_eq_true rfl) rfl (fun p e s m args below meth c ls Q hQ C hno hP hS hl => ?_)
  obtain ⟨hx, hb, hr, hml, hlocks, hown, hnm, hts, hE⟩ := C
  have hK := hE.1
  have hN := hE.2.1
  have hh_1781 : w h = some (1, .inr (cx_K, [.ref D.t, .ref D.a, .ref D.lv, .ref D.sn, .ref D.g, .ref D.k, .ref D.ne, .int (nI σ.sf), .int (bo_i σ.ib), .int (nI σ.sq), .int (nI σ.pr), .int (nI σ.mi)])) := hkp.o
  refine lv_iload_n hx hb de_K_entry_0 rfl (lv_at hl 1 rfl) ?_
  refine dk_calli (va_runS (As := [.int (nI i)]) (rest := []) ⟨hx, hb, hml, hown, hts⟩ (c_K_isLevel l G w (nI i)) (va_cwS 1 hts (wd_gS wi_170 wi_168 wi_169 wi_1) rfl rfl rfl (by decide +kernel) ⟨Nat.le_of_ble_eq_true rfl, Nat.le_of_ble_eq_true rfl⟩) (dk_preS hE hP hS) rfl rfl hl.1 rfl (lv_room (Nat.le_of_ble_eq_true rfl)) de_K_entry_1 ⟨(by first | exact Nat.le_of_ble_eq_true rfl | (simp only [Nat.zero_add]; omega) | omega), (by first | exact Nat.le_of_ble_eq_true rfl | (simp only [Nat.zero_add]; omega) | omega)⟩) hS (fun r_1784 w_1782 H locs hq_1783 hP hS => ?_)
  rw [in_nat (by omega) (by decide)] at hq_1783
  obtain ⟨hr_1785, he_1786⟩ := hq_1783
  subst hr_1785
  rw [he_1786] at hP
  refine bo_if_eq (b := (decide (i < 6))) (tgt := 18) hx hb de_K_entry_4 (by decide) (fun c_1787 => ?_) (fun c_1787 => ?_)
  · exact absurd c_1787 (by simp [hi])
  · refine lv_iload hx hb de_K_entry_7 (lv_at hl 4 rfl) ?_
    refine lv_if_lt (tgt := 18) hx hb de_K_entry_9 (by decide) (fun c_1788 => ?_) (fun c_1788 => ?_)
    · exact dk_thr hQ hno hlt hx hb (hml.trans hl.1.symm) hlocks hown hts hE hP hS (rfl) (by first | exact Nat.le_of_ble_eq_true rfl | omega) (by first | exact Nat.le_of_ble_eq_true rfl | omega) (by first | exact Nat.le_of_ble_eq_true rfl | omega) (by first | exact Nat.le_of_ble_eq_true rfl | omega) (by first | exact Nat.le_of_ble_eq_true rfl | omega) (by first | exact Nat.le_of_ble_eq_true rfl | omega) (by decide +kernel) (List.mem_of_getElem? (i := 10) rfl) wi_342 wi_12 ow_A de_K_entry_18 de_K_entry_21 de_K_entry_22 de_K_entry_24 de_K_entry_27
    · refine lv_iload hx hb de_K_entry_12 (lv_at hl 4 rfl) ?_
      refine lv_iconst (v := nI 2) hx hb de_K_entry_14 (by decide) ?_
      refine lv_icmp_le (tgt := 28) hx hb de_K_entry_15 (by decide) (fun c_1789 => ?_) (fun c_1789 => ?_)
      · exact absurd hq0 (by rw [th_im (a := nI 0) c_1788 c_1789]; decide)
      · exact dk_thr hQ hno hlt hx hb (hml.trans hl.1.symm) hlocks hown hts hE hP hS (rfl) (by first | exact Nat.le_of_ble_eq_true rfl | omega) (by first | exact Nat.le_of_ble_eq_true rfl | omega) (by first | exact Nat.le_of_ble_eq_true rfl | omega) (by first | exact Nat.le_of_ble_eq_true rfl | omega) (by first | exact Nat.le_of_ble_eq_true rfl | omega) (by first | exact Nat.le_of_ble_eq_true rfl | omega) (by decide +kernel) (List.mem_of_getElem? (i := 10) rfl) wi_342 wi_12 ow_A de_K_entry_18 de_K_entry_21 de_K_entry_22 de_K_entry_24 de_K_entry_27
set_option maxHeartbeats 4000000 in
set_option maxRecDepth 100000 in
theorem t_K_entryN (l : Launch) (hlt : l.stackTraces = false) (G : dk_G) (w : dk_H) (h : Nat) (D : kp_D) (σ : kp_S) (hkp : kp_at G w h D σ) (i q9 : Nat) (r9 k9 : Int32) (hi : i < 6) (hq0 : q9 < 3) (hn : ∀ j : Nat, r9 = nI j → j < 2 ^ 31 → (σ.lv i).length ≤ j) : dk_Mt l my_K_entry (wd_c my_K_entry mb_K_entry 7 (some .int)) rt_K_entry G w [.ref h, .int (nI i), .int r9, .int k9, .int (nI q9)] "java/lang/IndexOutOfBoundsException" (fun w1 => w1 = w) 1 6 := by
  have hl9 : (σ.lv i).length ≤ 600 := (hkp.v i hi).2.choose_spec.choose_spec.2.2.2.1
  refine dk_enterT (lv := [(0, .ref h), (1, .int (nI i)), (2, .int r9), (3, .int k9), (4, .int (nI q9))]) (by decide) (Nat.le_of_ble_eq_true rfl) rfl (fun p e s m args below meth c ls Q hQ C hno hP hS hl => ?_)
  obtain ⟨hx, hb, hr, hml, hlocks, hown, hnm, hts, hE⟩ := C
  have hK := hE.1
  have hN := hE.2.1
  have hh_1790 : w h = some (1, .inr (cx_K, [.ref D.t, .ref D.a, .ref D.lv, .ref D.sn, .ref D.g, .ref D.k, .ref D.ne, .int (nI σ.sf), .int (bo_i σ.ib), .int (nI σ.sq), .int (nI σ.pr), .int (nI σ.mi)])) := hkp.o
  refine lv_iload_n hx hb de_K_entry_0 rfl (lv_at hl 1 rfl) ?_
  refine dk_calli (va_runS (As := [.int (nI i)]) (rest := []) ⟨hx, hb, hml, hown, hts⟩ (c_K_isLevel l G w (nI i)) (va_cwS 1 hts (wd_gS wi_170 wi_168 wi_169 wi_1) rfl rfl rfl (by decide +kernel) ⟨Nat.le_of_ble_eq_true rfl, Nat.le_of_ble_eq_true rfl⟩) (dk_preS hE hP hS) rfl rfl hl.1 rfl (lv_room (Nat.le_of_ble_eq_true rfl)) de_K_entry_1 ⟨(by first | exact Nat.le_of_ble_eq_true rfl | (simp only [Nat.zero_add]; omega) | omega), (by first | exact Nat.le_of_ble_eq_true rfl | (simp only [Nat.zero_add]; omega) | omega)⟩) hS (fun r_1793 w_1791 H locs hq_1792 hP hS => ?_)
  rw [in_nat (by omega) (by decide)] at hq_1792
  obtain ⟨hr_1794, he_1795⟩ := hq_1792
  subst hr_1794
  rw [he_1795] at hP
  refine bo_if_eq (b := (decide (i < 6))) (tgt := 18) hx hb de_K_entry_4 (by decide) (fun c_1796 => ?_) (fun c_1796 => ?_)
  · exact absurd c_1796 (by simp [hi])
  · refine lv_iload hx hb de_K_entry_7 (lv_at hl 4 rfl) ?_
    refine nx_if_lt (a := q9) (tgt := 18) hx hb (by omega) de_K_entry_9 (by decide) ?_
    refine lv_iload hx hb de_K_entry_12 (lv_at hl 4 rfl) ?_
    refine lv_iconst (v := nI 2) hx hb de_K_entry_14 (by decide) ?_
    refine nx_icmp_le (a := q9) (b := 2) (tgt := 28) hx hb (by omega) (by omega) de_K_entry_15 (by decide) (fun c_1798 => ?_) (fun c_1798 => ?_)
    · refine lv_aload_n hx hb de_K_entry_28 rfl (lv_at hl 0 rfl) ?_
      refine dk_get (a := h) (v := .ref D.lv) (C := kn_K) (T := kt_K) (N := 12) hx hb hts ki_K hown hK hP hh_1790 rfl 2 (by decide) (hts _ wi_105) (fun _ h9 => h9) rfl de_K_entry_29 ?_
      refine lv_iload_n hx hb de_K_entry_32 rfl (lv_at hl 1 rfl) ?_
      refine dk_aald (a := D.lv) (r := some (D.le i)) (C := dk_nL) hx hb hK hP hkp.l rfl i rfl (by omega) (by omega) ((hkp.v i (by omega)).1) de_K_entry_33 ?_
      obtain ⟨al_1799, _, hc_1800, -⟩ := id (hkp.v i (by omega)).2
      refine lv_iload_n hx hb de_K_entry_34 rfl (lv_at hl 2 rfl) ?_
      refine dk_callq (va_runV (As := [.int r9]) (rest := []) ⟨hx, hb, hml, hown, hts⟩ (c_V_runAt l G w (D.le i) (20 + 3 * i) (σ.lv i) (hkp.v i hi).2 r9) (cwV 1 hts (wd_gV (C := "RunKeeper$Level") wi_638 wi_635 wi_636 wi_637 wi_4) rfl rfl rfl (by decide +kernel) ⟨Nat.le_of_ble_eq_true rfl, Nat.le_of_ble_eq_true rfl⟩) (dk_preV (kn_V, kt_V, 2) hE hP hS hc_1800 rfl) rfl rfl hl.1 rfl (lv_room (Nat.le_of_ble_eq_true rfl)) de_K_entry_35 ⟨(by first | exact Nat.le_of_ble_eq_true rfl | (simp only [Nat.zero_add]; omega) | omega), (by first | exact Nat.le_of_ble_eq_true rfl | (simp only [Nat.zero_add]; omega) | omega)⟩) hS (fun r_1803 w_1801 H locs hq_1802 hP hS => ?_)
      have hr8 := rn_no hq_1802.1 hn
      rw [hq_1802.2] at hP
      subst hr8
      refine lv_astoreN (lv' := [(5, .null), (0, .ref h), (1, .int (nI i)), (2, .int r9), (3, .int k9), (4, .int (nI q9))]) hx hb de_K_entry_38 hl (by decide) rfl (fun ls hl => ?_)
      refine lv_aloadN hx hb de_K_entry_40 (lv_at hl 0 rfl) ?_
      refine lv_ifnonnullN hx hb de_K_entry_42 ?_
      refine lv_null hx hb de_K_entry_45 ?_
      refine lv_goto (tgt := 58) hx hb de_K_entry_46 (by decide) ?_
      refine lv_astoreN (lv' := [(6, .null), (5, .null), (0, .ref h), (1, .int (nI i)), (2, .int r9), (3, .int k9), (4, .int (nI q9))]) hx hb de_K_entry_58 hl (by decide) rfl (fun ls hl => ?_)
      refine lv_aloadN hx hb de_K_entry_60 (lv_at hl 0 rfl) ?_
      refine lv_ifnonnullN hx hb de_K_entry_62 ?_
      exact dk_thr hQ hno hlt hx hb (hml.trans hl.1.symm) hlocks hown hts hE hP hS (rfl) (by first | exact Nat.le_of_ble_eq_true rfl | omega) (by first | exact Nat.le_of_ble_eq_true rfl | omega) (by first | exact Nat.le_of_ble_eq_true rfl | omega) (by first | exact Nat.le_of_ble_eq_true rfl | omega) (by first | exact Nat.le_of_ble_eq_true rfl | omega) (by first | exact Nat.le_of_ble_eq_true rfl | omega) (by decide +kernel) (List.mem_of_getElem? (i := 11) rfl) wi_423 wi_13 ow_B de_K_entry_65 de_K_entry_68 de_K_entry_69 de_K_entry_71 de_K_entry_74
    · exact absurd c_1798 (by omega)
set_option maxHeartbeats 4000000 in
set_option maxRecDepth 100000 in
theorem t_K_entryK (l : Launch) (hlt : l.stackTraces = false) (G : dk_G) (w : dk_H) (h : Nat) (D : kp_D) (σ : kp_S) (hkp : kp_at G w h D σ) (i j q9 : Nat) (k9 : Int32) (hi : i < 6) (hq0 : q9 < 3) (R : List en_T) (hR : (σ.lv i)[j]? = some R) (hn : ∀ j : Nat, k9 = nI j → j < 2 ^ 31 → R.length ≤ j) : dk_Mt l my_K_entry (wd_c my_K_entry mb_K_entry 7 (some .int)) rt_K_entry G w [.ref h, .int (nI i), .int (nI j), .int k9, .int (nI q9)] "java/lang/IndexOutOfBoundsException" (fun w1 => w1 = w) 1 6 := by
  have hl9 : (σ.lv i).length ≤ 600 := (hkp.v i hi).2.choose_spec.choose_spec.2.2.2.1
  have hjl := (List.getElem?_eq_some_iff.mp hR).1
  refine dk_enterT (lv := [(0, .ref h), (1, .int (nI i)), (2, .int (nI j)), (3, .int k9), (4, .int (nI q9))]) (by decide) (Nat.le_of_ble_eq_true rfl) rfl (fun p e s m args below meth c ls Q hQ C hno hP hS hl => ?_)
  obtain ⟨hx, hb, hr, hml, hlocks, hown, hnm, hts, hE⟩ := C
  have hK := hE.1
  have hN := hE.2.1
  have hh_1806 : w h = some (1, .inr (cx_K, [.ref D.t, .ref D.a, .ref D.lv, .ref D.sn, .ref D.g, .ref D.k, .ref D.ne, .int (nI σ.sf), .int (bo_i σ.ib), .int (nI σ.sq), .int (nI σ.pr), .int (nI σ.mi)])) := hkp.o
  refine lv_iload_n hx hb de_K_entry_0 rfl (lv_at hl 1 rfl) ?_
  refine dk_calli (va_runS (As := [.int (nI i)]) (rest := []) ⟨hx, hb, hml, hown, hts⟩ (c_K_isLevel l G w (nI i)) (va_cwS 1 hts (wd_gS wi_170 wi_168 wi_169 wi_1) rfl rfl rfl (by decide +kernel) ⟨Nat.le_of_ble_eq_true rfl, Nat.le_of_ble_eq_true rfl⟩) (dk_preS hE hP hS) rfl rfl hl.1 rfl (lv_room (Nat.le_of_ble_eq_true rfl)) de_K_entry_1 ⟨(by first | exact Nat.le_of_ble_eq_true rfl | (simp only [Nat.zero_add]; omega) | omega), (by first | exact Nat.le_of_ble_eq_true rfl | (simp only [Nat.zero_add]; omega) | omega)⟩) hS (fun r_1809 w_1807 H locs hq_1808 hP hS => ?_)
  rw [in_nat (by omega) (by decide)] at hq_1808
  obtain ⟨hr_1810, he_1811⟩ := hq_1808
  subst hr_1810
  rw [he_1811] at hP
  refine bo_if_eq (b := (decide (i < 6))) (tgt := 18) hx hb de_K_entry_4 (by decide) (fun c_1812 => ?_) (fun c_1812 => ?_)
  · exact absurd c_1812 (by simp [hi])
  · refine lv_iload hx hb de_K_entry_7 (lv_at hl 4 rfl) ?_
    refine nx_if_lt (a := q9) (tgt := 18) hx hb (by omega) de_K_entry_9 (by decide) ?_
    refine lv_iload hx hb de_K_entry_12 (lv_at hl 4 rfl) ?_
    refine lv_iconst (v := nI 2) hx hb de_K_entry_14 (by decide) ?_
    refine nx_icmp_le (a := q9) (b := 2) (tgt := 28) hx hb (by omega) (by omega) de_K_entry_15 (by decide) (fun c_1814 => ?_) (fun c_1814 => ?_)
    · refine lv_aload_n hx hb de_K_entry_28 rfl (lv_at hl 0 rfl) ?_
      refine dk_get (a := h) (v := .ref D.lv) (C := kn_K) (T := kt_K) (N := 12) hx hb hts ki_K hown hK hP hh_1806 rfl 2 (by decide) (hts _ wi_105) (fun _ h9 => h9) rfl de_K_entry_29 ?_
      refine lv_iload_n hx hb de_K_entry_32 rfl (lv_at hl 1 rfl) ?_
      refine dk_aald (a := D.lv) (r := some (D.le i)) (C := dk_nL) hx hb hK hP hkp.l rfl i rfl (by omega) (by omega) ((hkp.v i (by omega)).1) de_K_entry_33 ?_
      obtain ⟨al_1815, _, hc_1816, -⟩ := id (hkp.v i (by omega)).2
      refine lv_iload_n hx hb de_K_entry_34 rfl (lv_at hl 2 rfl) ?_
      refine dk_callq (va_runV (As := [.int (nI j)]) (rest := []) ⟨hx, hb, hml, hown, hts⟩ (c_V_runAt l G w (D.le i) (20 + 3 * i) (σ.lv i) (hkp.v i hi).2 (nI j)) (cwV 1 hts (wd_gV (C := "RunKeeper$Level") wi_638 wi_635 wi_636 wi_637 wi_4) rfl rfl rfl (by decide +kernel) ⟨Nat.le_of_ble_eq_true rfl, Nat.le_of_ble_eq_true rfl⟩) (dk_preV (kn_V, kt_V, 2) hE hP hS hc_1816 rfl) rfl rfl hl.1 rfl (lv_room (Nat.le_of_ble_eq_true rfl)) de_K_entry_35 ⟨(by first | exact Nat.le_of_ble_eq_true rfl | (simp only [Nat.zero_add]; omega) | omega), (by first | exact Nat.le_of_ble_eq_true rfl | (simp only [Nat.zero_add]; omega) | omega)⟩) hS (fun r_1819 w_1817 H locs hq_1818 hP hS => ?_)
      obtain ⟨a9, ha9, hrn⟩ := rn_in hq_1818.1 (by omega) (by omega) hR
      rw [hq_1818.2] at hP
      subst ha9
      obtain ⟨r9, fl9, f9, hac, hrw, -, -, -, hR6, -⟩ := id hrn
      obtain ⟨sl9, _, hrc, -⟩ := id hrw
      refine lv_astore (lv' := [(5, .ref a9), (0, .ref h), (1, .int (nI i)), (2, .int (nI j)), (3, .int k9), (4, .int (nI q9))]) hx hb de_K_entry_38 hl (by decide) rfl (fun ls hl => ?_)
      refine lv_aload hx hb de_K_entry_40 (lv_at hl 0 rfl) ?_
      refine lv_ifnonnull (tgt := 49) hx hb de_K_entry_42 (by decide) ?_
      refine lv_aload hx hb de_K_entry_49 (lv_at hl 0 rfl) ?_
      refine dk_callq (va_runV (As := []) (rest := []) ⟨hx, hb, hml, hown, hts⟩ (c_U_entries l G w a9 0 r9 fl9 hac) (cwV 0 hts (wd_gV (C := "RunKeeper$Run") wi_274 wi_651 wi_272 wi_273 wi_15) rfl rfl rfl (by decide +kernel) ⟨Nat.le_of_ble_eq_true rfl, Nat.le_of_ble_eq_true rfl⟩) (dk_preV (kn_U, kt_U, 2) hE hP hS hac rfl) rfl rfl hl.1 rfl (lv_room (Nat.le_of_ble_eq_true rfl)) de_K_entry_51 ⟨(by first | exact Nat.le_of_ble_eq_true rfl | (simp only [Nat.zero_add]; omega) | omega), (by first | exact Nat.le_of_ble_eq_true rfl | (simp only [Nat.zero_add]; omega) | omega)⟩) hS (fun r_1823 w_1821 H locs hq_1822 hP hS => ?_)
      obtain ⟨hr8, hw8⟩ := hq_1822
      subst hr8
      rw [hw8] at hP
      refine lv_iload_n hx hb de_K_entry_54 rfl (lv_at hl 4 rfl) ?_
      refine dk_callq (va_runV (As := [.int k9]) (rest := []) ⟨hx, hb, hml, hown, hts⟩ (c_R_at l G w r9 0 0 R.length R hrw k9) (cwV 1 hts (wd_gV (C := "RunKeeper$Row") wi_191 wi_516 wi_189 wi_190 wi_2) rfl rfl rfl (by decide +kernel) ⟨Nat.le_of_ble_eq_true rfl, Nat.le_of_ble_eq_true rfl⟩) (dk_preV (kn_R, kt_R, 2) hE hP hS hrc rfl) rfl rfl hl.1 rfl (lv_room (Nat.le_of_ble_eq_true rfl)) de_K_entry_55 ⟨(by first | exact Nat.le_of_ble_eq_true rfl | (simp only [Nat.zero_add]; omega) | omega), (by first | exact Nat.le_of_ble_eq_true rfl | (simp only [Nat.zero_add]; omega) | omega)⟩) hS (fun r_1826 w_1824 H locs hq_1825 hP hS => ?_)
      have hr7 := at_no hq_1825.2 hn (by omega)
      rw [hq_1825.1] at hP
      subst hr7
      refine lv_astoreN (lv' := [(6, .null), (5, .ref a9), (0, .ref h), (1, .int (nI i)), (2, .int (nI j)), (3, .int k9), (4, .int (nI q9))]) hx hb de_K_entry_58 hl (by decide) rfl (fun ls hl => ?_)
      refine lv_aloadN hx hb de_K_entry_60 (lv_at hl 0 rfl) ?_
      refine lv_ifnonnullN hx hb de_K_entry_62 ?_
      exact dk_thr hQ hno hlt hx hb (hml.trans hl.1.symm) hlocks hown hts hE hP hS (rfl) (by first | exact Nat.le_of_ble_eq_true rfl | omega) (by first | exact Nat.le_of_ble_eq_true rfl | omega) (by first | exact Nat.le_of_ble_eq_true rfl | omega) (by first | exact Nat.le_of_ble_eq_true rfl | omega) (by first | exact Nat.le_of_ble_eq_true rfl | omega) (by first | exact Nat.le_of_ble_eq_true rfl | omega) (by decide +kernel) (List.mem_of_getElem? (i := 11) rfl) wi_423 wi_13 ow_B de_K_entry_65 de_K_entry_68 de_K_entry_69 de_K_entry_71 de_K_entry_74
    · exact absurd c_1814 (by omega)
abbrev rt_K_count : Room := { frames := 6, cells := 1, slots := 6, locals := 82 }
set_option maxHeartbeats 4000000 in
set_option maxRecDepth 100000 in
theorem t_K_countF (l : Launch) (hlt : l.stackTraces = false) (G : dk_G) (w : dk_H) (h : Nat) (D : kp_D) (σ : kp_S) (hkp : kp_at G w h D σ) (q9 k : Int32) (hq0 : im_b q9 (nI 0) (nI 9) = false) : dk_Mt l my_K_count (wd_c my_K_count mb_K_count 3 (some .int)) rt_K_count G w [.ref h, .int q9, .int k] "java/lang/IllegalArgumentException" (fun w1 => w1 = w) 1 6 := by
  refine dk_enterT (lv := [(0, .ref h), (1, .int q9), (2, .int k)]) (by decide) (Nat.le_of_ble_eq_true rfl) rfl (fun p e s m args below meth c ls Q hQ C hno hP hS hl => ?_)
  obtain ⟨hx, hb, hr, hml, hlocks, hown, hnm, hts, hE⟩ := C
  have hK := hE.1
  have hN := hE.2.1
  have hh_1828 : w h = some (1, .inr (cx_K, [.ref D.t, .ref D.a, .ref D.lv, .ref D.sn, .ref D.g, .ref D.k, .ref D.ne, .int (nI σ.sf), .int (bo_i σ.ib), .int (nI σ.sq), .int (nI σ.pr), .int (nI σ.mi)])) := hkp.o
  refine lv_iload_n hx hb de_K_count_0 rfl (lv_at hl 1 rfl) ?_
  refine lv_if_lt (tgt := 22) hx hb de_K_count_1 (by decide) (fun c_1829 => ?_) (fun c_1829 => ?_)
  · exact dk_thr hQ hno hlt hx hb (hml.trans hl.1.symm) hlocks hown hts hE hP hS (rfl) (by first | exact Nat.le_of_ble_eq_true rfl | omega) (by first | exact Nat.le_of_ble_eq_true rfl | omega) (by first | exact Nat.le_of_ble_eq_true rfl | omega) (by first | exact Nat.le_of_ble_eq_true rfl | omega) (by first | exact Nat.le_of_ble_eq_true rfl | omega) (by first | exact Nat.le_of_ble_eq_true rfl | omega) (by decide +kernel) (List.mem_of_getElem? (i := 12) rfl) wi_342 wi_12 ow_A de_K_count_22 de_K_count_25 de_K_count_26 de_K_count_28 de_K_count_31
  · refine lv_iload_n hx hb de_K_count_4 rfl (lv_at hl 1 rfl) ?_
    refine lv_bipush (v := nI 9) hx hb de_K_count_5 (by decide) ?_
    refine lv_icmp_gt (tgt := 22) hx hb de_K_count_7 (by decide) (fun c_1830 => ?_) (fun c_1830 => ?_)
    · exact dk_thr hQ hno hlt hx hb (hml.trans hl.1.symm) hlocks hown hts hE hP hS (rfl) (by first | exact Nat.le_of_ble_eq_true rfl | omega) (by first | exact Nat.le_of_ble_eq_true rfl | omega) (by first | exact Nat.le_of_ble_eq_true rfl | omega) (by first | exact Nat.le_of_ble_eq_true rfl | omega) (by first | exact Nat.le_of_ble_eq_true rfl | omega) (by first | exact Nat.le_of_ble_eq_true rfl | omega) (by decide +kernel) (List.mem_of_getElem? (i := 12) rfl) wi_342 wi_12 ow_A de_K_count_22 de_K_count_25 de_K_count_26 de_K_count_28 de_K_count_31
    · exact absurd hq0 (by rw [th_im2 (a := nI 0) c_1829 c_1830]; decide)
set_option maxHeartbeats 4000000 in
set_option maxRecDepth 100000 in
theorem t_K_countG (l : Launch) (hlt : l.stackTraces = false) (G : dk_G) (w : dk_H) (h : Nat) (D : kp_D) (σ : kp_S) (hkp : kp_at G w h D σ) (q9 : Nat) (k : Int32) (hq0 : q9 < 2) (hk0 : in_r 6 k = false) : dk_Mt l my_K_count (wd_c my_K_count mb_K_count 3 (some .int)) rt_K_count G w [.ref h, .int (nI q9), .int k] "java/lang/IllegalArgumentException" (fun w1 => w1 = w) 1 6 := by
  refine dk_enterT (lv := [(0, .ref h), (1, .int (nI q9)), (2, .int k)]) (by decide) (Nat.le_of_ble_eq_true rfl) rfl (fun p e s m args below meth c ls Q hQ C hno hP hS hl => ?_)
  obtain ⟨hx, hb, hr, hml, hlocks, hown, hnm, hts, hE⟩ := C
  have hK := hE.1
  have hN := hE.2.1
  have hh_1831 : w h = some (1, .inr (cx_K, [.ref D.t, .ref D.a, .ref D.lv, .ref D.sn, .ref D.g, .ref D.k, .ref D.ne, .int (nI σ.sf), .int (bo_i σ.ib), .int (nI σ.sq), .int (nI σ.pr), .int (nI σ.mi)])) := hkp.o
  refine lv_iload_n hx hb de_K_count_0 rfl (lv_at hl 1 rfl) ?_
  refine nx_if_lt (a := q9) (tgt := 22) hx hb (by omega) de_K_count_1 (by decide) ?_
  refine lv_iload_n hx hb de_K_count_4 rfl (lv_at hl 1 rfl) ?_
  refine lv_bipush (v := nI 9) hx hb de_K_count_5 (by decide) ?_
  refine nx_icmp_gt (a := q9) (b := 9) (tgt := 22) hx hb (by omega) (by omega) de_K_count_7 (by decide) (fun c_1833 => ?_) (fun c_1833 => ?_)
  · exact absurd c_1833 (by omega)
  · refine lv_iload_n hx hb de_K_count_10 rfl (lv_at hl 1 rfl) ?_
    refine lv_iconst (v := nI 1) hx hb de_K_count_11 (by decide) ?_
    refine nx_icmp_gt (a := q9) (b := 1) (tgt := 32) hx hb (by omega) (by omega) de_K_count_12 (by decide) (fun c_1834 => ?_) (fun c_1834 => ?_)
    · exact absurd c_1834 (by omega)
    · refine lv_iload_n hx hb de_K_count_15 rfl (lv_at hl 2 rfl) ?_
      refine dk_calli (va_runS (As := [.int k]) (rest := []) ⟨hx, hb, hml, hown, hts⟩ (c_K_isLevel l G w k) (va_cwS 1 hts (wd_gS wi_170 wi_168 wi_169 wi_1) rfl rfl rfl (by decide +kernel) ⟨Nat.le_of_ble_eq_true rfl, Nat.le_of_ble_eq_true rfl⟩) (dk_preS hE hP hS) rfl rfl hl.1 rfl (lv_room (Nat.le_of_ble_eq_true rfl)) de_K_count_16 ⟨(by first | exact Nat.le_of_ble_eq_true rfl | (simp only [Nat.zero_add]; omega) | omega), (by first | exact Nat.le_of_ble_eq_true rfl | (simp only [Nat.zero_add]; omega) | omega)⟩) hS (fun r_1837 w_1835 H locs hq_1836 hP hS => ?_)
      rw [hk0] at hq_1836
      obtain ⟨hr_1838, he_1839⟩ := hq_1836
      subst hr_1838
      rw [he_1839] at hP
      refine bo_if_ne (b := false) (tgt := 32) hx hb de_K_count_19 (by decide) (fun c_1840 => ?_) (fun c_1840 => ?_)
      · exact absurd c_1840 (by decide)
      · exact dk_thr hQ hno hlt hx hb (hml.trans hl.1.symm) hlocks hown hts hE hP hS (rfl) (by first | exact Nat.le_of_ble_eq_true rfl | omega) (by first | exact Nat.le_of_ble_eq_true rfl | omega) (by first | exact Nat.le_of_ble_eq_true rfl | omega) (by first | exact Nat.le_of_ble_eq_true rfl | omega) (by first | exact Nat.le_of_ble_eq_true rfl | omega) (by first | exact Nat.le_of_ble_eq_true rfl | omega) (by decide +kernel) (List.mem_of_getElem? (i := 12) rfl) wi_342 wi_12 ow_A de_K_count_22 de_K_count_25 de_K_count_26 de_K_count_28 de_K_count_31
