/-! RunKeeper$Entry, walked (printed by gen/c_row.py) -/
abbrev rm_E_init : Room := { frames := 1, cells := 0, slots := 0, locals := 20 }
set_option maxHeartbeats 4000000 in
set_option maxRecDepth 100000 in
theorem c_E_init (l : Launch) (G : dk_G) (w : dk_H) (h t : Nat) (x : en_T) (hh : w h = some (t, .inr (cx_E, [.int 0, .int 0, .long 0, .int 0]))) : dk_Mv l my_E_init (wd_c my_E_init mb_E_init 6 none) rm_E_init G w [.ref h, .int (nI x.1), .int (nI x.2.1), .long x.2.2.1, .int (bo_i x.2.2.2)] (fun w1 => w1 = va_up w h (some (t, en_c x))) 0 0 := by
  refine dk_enter (lv := [(0, .ref h), (1, .int (nI x.1)), (2, .int (nI x.2.1)), (3, .long x.2.2.1), (5, .int (bo_i x.2.2.2))]) (by decide) (Nat.le_of_ble_eq_true rfl) rfl (fun p e s m args below meth c ls Q hQ C hP hS hl => ?_)
  obtain ⟨hx, hb, hr, hml, hlocks, hown, hnm, hts, hE⟩ := C
  have hK := hE.1
  have hN := hE.2.1
  refine lv_aload_n hx hb de_E_init_0 rfl (lv_at hl 0 rfl) ?_
  refine W.objInit hx hb hown (hts _ wi_443) (hts _ wi_30) (hts _ wi_31) rfl (by rw [hml]; exact hl.1) rfl de_E_init_1 (Nat.le_of_ble_eq_true rfl) (Nat.le_of_ble_eq_true rfl) ?_
  refine W.eq (g2 := F0 m 4 ls []) rfl ?_
  refine lv_aload_n hx hb de_E_init_4 rfl (lv_at hl 0 rfl) ?_
  refine lv_iload_n hx hb de_E_init_5 rfl (lv_at hl 1 rfl) ?_
  refine dk_putF (a := h) (v := .int (nI x.1)) (ty := .int) (C := kn_E) (T := kt_E) (N := 4) hx hb hts ki_E ky_E kk_E kd_E hown hK hP hS hh rfl 0 (by decide) (hts _ wi_444) (fun _ h9 => h9) rfl hnm rfl (by decide +kernel) rfl rfl (Nat.le_of_ble_eq_true rfl) de_E_init_6 (fun H locs w_1 hw_2 hP hS => ?_)
  have h_3 : w_1 h = some (t, .inr (cx_E, [.int (nI x.1), .int 0, .long 0, .int 0])) := dk_here hw_2
  refine lv_aload_n hx hb de_E_init_9 rfl (lv_at hl 0 rfl) ?_
  refine lv_iload_n hx hb de_E_init_10 rfl (lv_at hl 2 rfl) ?_
  refine dk_putF (a := h) (v := .int (nI x.2.1)) (ty := .int) (C := kn_E) (T := kt_E) (N := 4) hx hb hts ki_E ky_E kk_E kd_E hown hK hP hS h_3 rfl 1 (by decide) (hts _ wi_448) (fun _ h9 => h9) rfl hnm rfl (by decide +kernel) rfl rfl (Nat.le_of_ble_eq_true rfl) de_E_init_11 (fun H locs w_4 hw_5 hP hS => ?_)
  have h_6 : w_4 h = some (t, .inr (cx_E, [.int (nI x.1), .int (nI x.2.1), .long 0, .int 0])) := dk_here hw_5
  refine lv_aload_n hx hb de_E_init_14 rfl (lv_at hl 0 rfl) ?_
  refine lv_lload_n hx hb de_E_init_15 rfl (lv_at hl 3 rfl) ?_
  refine dk_putF (a := h) (v := .long x.2.2.1) (ty := .long) (C := kn_E) (T := kt_E) (N := 4) hx hb hts ki_E ky_E kk_E kd_E hown hK hP hS h_6 rfl 2 (by decide) (hts _ wi_451) (fun _ h9 => h9) rfl hnm rfl (by decide +kernel) rfl rfl (Nat.le_of_ble_eq_true rfl) de_E_init_16 (fun H locs w_7 hw_8 hP hS => ?_)
  have h_9 : w_7 h = some (t, .inr (cx_E, [.int (nI x.1), .int (nI x.2.1), .long x.2.2.1, .int 0])) := dk_here hw_8
  refine lv_aload_n hx hb de_E_init_19 rfl (lv_at hl 0 rfl) ?_
  refine lv_iload hx hb de_E_init_20 (lv_at hl 4 rfl) ?_
  refine dk_putF (a := h) (v := .int (bo_i x.2.2.2)) (ty := .boolean) (C := kn_E) (T := kt_E) (N := 4) hx hb hts ki_E ky_E kk_E kd_E hown hK hP hS h_9 rfl 3 (by decide) (hts _ wi_453) (fun _ h9 => h9) rfl hnm rfl (by decide +kernel) (bo_nar x.2.2.2) (bo_fit x.2.2.2) (Nat.le_of_ble_eq_true rfl) de_E_init_22 (fun H locs w_10 hw_11 hP hS => ?_)
  have h_12 : w_10 h = some (t, .inr (cx_E, [.int (nI x.1), .int (nI x.2.1), .long x.2.2.1, .int (bo_i x.2.2.2)])) := dk_here hw_11
  exact dk_vret hQ hx hb hr hlocks hP hS (Nat.le_refl _) (Nat.le_refl _) (by rw [hw_11, hw_8, hw_5, hw_2, bx_uu, bx_uu, bx_uu]; rfl) de_E_init_25
abbrev rm_E_numbered : Room := { frames := 2, cells := 1, slots := 4, locals := 45 }
set_option maxHeartbeats 4000000 in
set_option maxRecDepth 100000 in
theorem c_E_numbered (l : Launch) (G : dk_G) (w : dk_H) (a s2 : Nat) (x : en_T) (ha : en_at w a x) : dk_Mq l my_E_numbered (wd_c my_E_numbered mb_E_numbered 2 (some (.object "RunKeeper$Entry"))) rm_E_numbered G w [.ref a, .int (nI s2)] (fun r w1 => ∃ q, r = some q ∧ w q = none ∧ w1 = va_up w q (some (0, en_c (x.1, s2, x.2.2.1, x.2.2.2)))) 1 4 := by
  refine dk_enter (lv := [(0, .ref a), (1, .int (nI s2))]) (by decide) (Nat.le_of_ble_eq_true rfl) rfl (fun p e s m args below meth c ls Q hQ C hP hS hl => ?_)
  obtain ⟨hx, hb, hr, hml, hlocks, hown, hnm, hts, hE⟩ := C
  have hK := hE.1
  have hN := hE.2.1
  refine dk_new 0 (fs := [.int 0, .int 0, .long 0, .int 0]) (C := kn_E) (T := kt_E) (N := 4) (ci := cx_E) hx hb hts ki_E ky_E kk_E hown (hts _ wi_474) (hts _ wi_439) (hts _ wi_14) hK hP hS hE.2.2.2 rfl (fun j hj => by match j, hj with | 0, _ => rfl | 1, _ => rfl | 2, _ => rfl | 3, _ => rfl | j + 4, h => exact absurd h (by omega)) (by first | exact Nat.le_of_ble_eq_true rfl | (simp only [Nat.zero_add]; omega) | omega) (by first | exact Nat.le_of_ble_eq_true rfl | (simp only [Nat.zero_add]; omega) | omega) de_E_numbered_0 (fun q_13 H w_14 hn_16 hw_15 hP hS => ?_)
  have h_17 : w_14 q_13 = some (0, .inr (cx_E, [.int 0, .int 0, .long 0, .int 0])) := dk_here hw_15
  have h_18 : w_14 a = some (0, .inr (cx_E, [.int (nI x.1), .int (nI x.2.1), .long x.2.2.1, .int (bo_i x.2.2.2)])) := dk_keepN hw_15 hn_16 ha
  refine lv_dup hx hb de_E_numbered_3 rfl ?_
  refine lv_aload_n hx hb de_E_numbered_4 rfl (lv_at hl 0 rfl) ?_
  refine dk_get (a := a) (v := .int (nI x.1)) (C := kn_E) (T := kt_E) (N := 4) hx hb hts ki_E hown hK hP h_18 rfl 0 (by decide) (hts _ wi_444) (fun _ h9 => h9) rfl de_E_numbered_5 ?_
  refine lv_iload_n hx hb de_E_numbered_8 rfl (lv_at hl 1 rfl) ?_
  refine lv_aload_n hx hb de_E_numbered_9 rfl (lv_at hl 0 rfl) ?_
  refine dk_get (a := a) (v := .long x.2.2.1) (C := kn_E) (T := kt_E) (N := 4) hx hb hts ki_E hown hK hP h_18 rfl 2 (by decide) (hts _ wi_451) (fun _ h9 => h9) rfl de_E_numbered_10 ?_
  refine lv_aload_n hx hb de_E_numbered_13 rfl (lv_at hl 0 rfl) ?_
  refine dk_get (a := a) (v := .int (bo_i x.2.2.2)) (C := kn_E) (T := kt_E) (N := 4) hx hb hts ki_E hown hK hP h_18 rfl 3 (by decide) (hts _ wi_453) (fun _ h9 => h9) rfl de_E_numbered_14 ?_
  refine dk_callv (va_runI (As := [.int (nI x.1), .int (nI s2), .long x.2.2.1, .int (bo_i x.2.2.2)]) (rest := [.ref q_13]) ⟨hx, hb, hml, hown, hts⟩ (c_E_init l G w_14 q_13 0 (x.1, s2, x.2.2.1, x.2.2.2) h_17) (cwI 4 hts (wd_g wi_442) rfl rfl rfl (hts _ wi_14) (hts _ wi_475) (hts _ wi_441) rfl (by decide +kernel) ⟨Nat.le_of_ble_eq_true rfl, Nat.le_of_ble_eq_true rfl⟩) (dk_preS hE hP hS) rfl rfl hl.1 rfl (lv_room (Nat.le_of_ble_eq_true rfl)) de_E_numbered_17 ⟨(by first | exact Nat.le_of_ble_eq_true rfl | (simp only [Nat.zero_add]; omega) | omega), (by first | exact Nat.le_of_ble_eq_true rfl | (simp only [Nat.zero_add]; omega) | omega)⟩) hS (fun w_19 H locs hq_20 hP hS => ?_)
  exact dk_aret (r := some q_13) hQ hx hb hr (Or.inl ⟨_, rfl⟩) hlocks hP hS (Nat.le_refl _) (Nat.le_refl _) (⟨q_13, rfl, hn_16, by rw [hq_20, hw_15, bx_uu]⟩) de_E_numbered_20
abbrev rm_E_hasKeyOf : Room := { frames := 0, cells := 0, slots := 0, locals := 0 }
set_option maxHeartbeats 4000000 in
set_option maxRecDepth 100000 in
theorem c_E_hasKeyOf (l : Launch) (G : dk_G) (w : dk_H) (a b : Nat) (x y : en_T) (ha : en_at w a x) (hb0 : en_at w b y) (hx0 : en_ok x) (hy0 : en_ok y) : dk_Mi l my_E_hasKeyOf (wd_c my_E_hasKeyOf mb_E_hasKeyOf 2 (some .boolean)) rm_E_hasKeyOf G w [.ref a, .ref b] (fun r w1 => r = bo_i (decide (x.1 = y.1)) ∧ w1 = w) 0 0 := by
  have hx1 := hx0.1
  have hy1 := hy0.1
  refine dk_enter (lv := [(0, .ref a), (1, .ref b)]) (by decide) (Nat.le_of_ble_eq_true rfl) rfl (fun p e s m args below meth c ls Q hQ C hP hS hl => ?_)
  obtain ⟨hx, hb, hr, hml, hlocks, hown, hnm, hts, hE⟩ := C
  have hK := hE.1
  have hN := hE.2.1
  refine lv_aload_n hx hb de_E_hasKeyOf_0 rfl (lv_at hl 1 rfl) ?_
  refine lv_ifnull hx hb de_E_hasKeyOf_1 ?_
  refine lv_aload_n hx hb de_E_hasKeyOf_4 rfl (lv_at hl 0 rfl) ?_
  refine dk_get (a := a) (v := .int (nI x.1)) (C := kn_E) (T := kt_E) (N := 4) hx hb hts ki_E hown hK hP ha rfl 0 (by decide) (hts _ wi_444) (fun _ h9 => h9) rfl de_E_hasKeyOf_5 ?_
  refine lv_aload_n hx hb de_E_hasKeyOf_8 rfl (lv_at hl 1 rfl) ?_
  refine dk_get (a := b) (v := .int (nI y.1)) (C := kn_E) (T := kt_E) (N := 4) hx hb hts ki_E hown hK hP hb0 rfl 0 (by decide) (hts _ wi_444) (fun _ h9 => h9) rfl de_E_hasKeyOf_9 ?_
  refine nx_icmp_ne (a := x.1) (b := y.1) (tgt := 19) hx hb (by omega) (by omega) de_E_hasKeyOf_12 (by decide) (fun c_23 => ?_) (fun c_23 => ?_)
  · refine lv_iconst (v := nI 0) hx hb de_E_hasKeyOf_19 (by decide) ?_
    exact dk_zret hQ hx hb hr hlocks hP hS (Nat.le_refl _) (Nat.le_refl _) (by decide +kernel) (⟨bo_of0 (by simp; omega), rfl⟩) de_E_hasKeyOf_20
  · refine lv_iconst (v := nI 1) hx hb de_E_hasKeyOf_15 (by decide) ?_
    refine lv_goto (tgt := 20) hx hb de_E_hasKeyOf_16 (by decide) ?_
    exact dk_zret hQ hx hb hr hlocks hP hS (Nat.le_refl _) (Nat.le_refl _) (by decide +kernel) (⟨bo_of1 (by simp; omega), rfl⟩) de_E_hasKeyOf_20
set_option maxHeartbeats 4000000 in
set_option maxRecDepth 100000 in
theorem c_E_hasKeyOfN (l : Launch) (G : dk_G) (w : dk_H) (a : Nat) (x : en_T) (ha : en_at w a x) : dk_Mi l my_E_hasKeyOf (wd_c my_E_hasKeyOf mb_E_hasKeyOf 2 (some .boolean)) rm_E_hasKeyOf G w [.ref a, .null] (fun r w1 => r = bo_i false ∧ w1 = w) 0 0 := by
  refine dk_enter (lv := [(0, .ref a), (1, .null)]) (by decide) (Nat.le_of_ble_eq_true rfl) rfl (fun p e s m args below meth c ls Q hQ C hP hS hl => ?_)
  obtain ⟨hx, hb, hr, hml, hlocks, hown, hnm, hts, hE⟩ := C
  have hK := hE.1
  have hN := hE.2.1
  refine lv_aload_nN hx hb de_E_hasKeyOf_0 rfl (lv_at hl 1 rfl) ?_
  refine lv_ifnullN (tgt := 19) hx hb de_E_hasKeyOf_1 (by decide) ?_
  refine lv_iconst (v := nI 0) hx hb de_E_hasKeyOf_19 (by decide) ?_
  exact dk_zret hQ hx hb hr hlocks hP hS (Nat.le_refl _) (Nat.le_refl _) (by decide +kernel) (⟨rfl, rfl⟩) de_E_hasKeyOf_20
abbrev rm_E_standsBefore : Room := { frames := 0, cells := 0, slots := 0, locals := 0 }
set_option maxHeartbeats 4000000 in
set_option maxRecDepth 100000 in
theorem c_E_standsBefore (l : Launch) (G : dk_G) (w : dk_H) (a b : Nat) (x y : en_T) (ha : en_at w a x) (hb0 : en_at w b y) (hx0 : en_ok x) (hy0 : en_ok y) : dk_Mi l my_E_standsBefore (wd_c my_E_standsBefore mb_E_standsBefore 2 (some .boolean)) rm_E_standsBefore G w [.ref a, .ref b] (fun r w1 => r = bo_i (en_b x y) ∧ w1 = w) 0 0 := by
  have hx1 := hx0.1
  have hy1 := hy0.1
  have hx2 := hx0.2
  have hy2 := hy0.2
  refine dk_enter (lv := [(0, .ref a), (1, .ref b)]) (by decide) (Nat.le_of_ble_eq_true rfl) rfl (fun p e s m args below meth c ls Q hQ C hP hS hl => ?_)
  obtain ⟨hx, hb, hr, hml, hlocks, hown, hnm, hts, hE⟩ := C
  have hK := hE.1
  have hN := hE.2.1
  refine lv_aload_n hx hb de_E_standsBefore_0 rfl (lv_at hl 1 rfl) ?_
  refine lv_ifnull hx hb de_E_standsBefore_1 ?_
  refine lv_aload_n hx hb de_E_standsBefore_4 rfl (lv_at hl 0 rfl) ?_
  refine dk_get (a := a) (v := .int (nI x.1)) (C := kn_E) (T := kt_E) (N := 4) hx hb hts ki_E hown hK hP ha rfl 0 (by decide) (hts _ wi_444) (fun _ h9 => h9) rfl de_E_standsBefore_5 ?_
  refine lv_aload_n hx hb de_E_standsBefore_8 rfl (lv_at hl 1 rfl) ?_
  refine dk_get (a := b) (v := .int (nI y.1)) (C := kn_E) (T := kt_E) (N := 4) hx hb hts ki_E hown hK hP hb0 rfl 0 (by decide) (hts _ wi_444) (fun _ h9 => h9) rfl de_E_standsBefore_9 ?_
  refine nx_icmp_eq (a := x.1) (b := y.1) (tgt := 29) hx hb (by omega) (by omega) de_E_standsBefore_12 (by decide) (fun c_26 => ?_) (fun c_26 => ?_)
  · refine lv_aload_n hx hb de_E_standsBefore_29 rfl (lv_at hl 0 rfl) ?_
    refine dk_get (a := a) (v := .int (nI x.2.1)) (C := kn_E) (T := kt_E) (N := 4) hx hb hts ki_E hown hK hP ha rfl 1 (by decide) (hts _ wi_448) (fun _ h9 => h9) rfl de_E_standsBefore_30 ?_
    refine lv_aload_n hx hb de_E_standsBefore_33 rfl (lv_at hl 1 rfl) ?_
    refine dk_get (a := b) (v := .int (nI y.2.1)) (C := kn_E) (T := kt_E) (N := 4) hx hb hts ki_E hown hK hP hb0 rfl 1 (by decide) (hts _ wi_448) (fun _ h9 => h9) rfl de_E_standsBefore_34 ?_
    refine nx_icmp_le (a := x.2.1) (b := y.2.1) (tgt := 44) hx hb (by omega) (by omega) de_E_standsBefore_37 (by decide) (fun c_27 => ?_) (fun c_27 => ?_)
    · refine lv_iconst (v := nI 0) hx hb de_E_standsBefore_44 (by decide) ?_
      exact dk_zret hQ hx hb hr hlocks hP hS (Nat.le_refl _) (Nat.le_refl _) (by decide +kernel) (⟨bo_of0 (Bool.eq_false_iff.mpr fun z => by rw [en_b_iff] at z; omega), rfl⟩) de_E_standsBefore_45
    · refine lv_iconst (v := nI 1) hx hb de_E_standsBefore_40 (by decide) ?_
      refine lv_goto (tgt := 45) hx hb de_E_standsBefore_41 (by decide) ?_
      exact dk_zret hQ hx hb hr hlocks hP hS (Nat.le_refl _) (Nat.le_refl _) (by decide +kernel) (⟨bo_of1 ((en_b_iff x y).mpr (by omega)), rfl⟩) de_E_standsBefore_45
  · refine lv_aload_n hx hb de_E_standsBefore_15 rfl (lv_at hl 0 rfl) ?_
    refine dk_get (a := a) (v := .int (nI x.1)) (C := kn_E) (T := kt_E) (N := 4) hx hb hts ki_E hown hK hP ha rfl 0 (by decide) (hts _ wi_444) (fun _ h9 => h9) rfl de_E_standsBefore_16 ?_
    refine lv_aload_n hx hb de_E_standsBefore_19 rfl (lv_at hl 1 rfl) ?_
    refine dk_get (a := b) (v := .int (nI y.1)) (C := kn_E) (T := kt_E) (N := 4) hx hb hts ki_E hown hK hP hb0 rfl 0 (by decide) (hts _ wi_444) (fun _ h9 => h9) rfl de_E_standsBefore_20 ?_
    refine nx_icmp_ge (a := x.1) (b := y.1) (tgt := 44) hx hb (by omega) (by omega) de_E_standsBefore_23 (by decide) (fun c_28 => ?_) (fun c_28 => ?_)
    · refine lv_iconst (v := nI 0) hx hb de_E_standsBefore_44 (by decide) ?_
      exact dk_zret hQ hx hb hr hlocks hP hS (Nat.le_refl _) (Nat.le_refl _) (by decide +kernel) (⟨bo_of0 (Bool.eq_false_iff.mpr fun z => by rw [en_b_iff] at z; omega), rfl⟩) de_E_standsBefore_45
    · refine lv_goto (tgt := 40) hx hb de_E_standsBefore_26 (by decide) ?_
      refine lv_iconst (v := nI 1) hx hb de_E_standsBefore_40 (by decide) ?_
      refine lv_goto (tgt := 45) hx hb de_E_standsBefore_41 (by decide) ?_
      exact dk_zret hQ hx hb hr hlocks hP hS (Nat.le_refl _) (Nat.le_refl _) (by decide +kernel) (⟨bo_of1 ((en_b_iff x y).mpr (by omega)), rfl⟩) de_E_standsBefore_45
