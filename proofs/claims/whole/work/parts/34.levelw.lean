/-! RunKeeper$Level, walked (printed by gen/c_level.py) -/
abbrev rm_V_init : Room := { frames := 4, cells := 1, slots := 3, locals := 80 }
set_option maxHeartbeats 4000000 in
set_option maxRecDepth 100000 in
theorem c_V_init (l : Launch) (G : dk_G) (w : dk_H) (h tb : Nat) (htb : tb ≠ 0) (hh : w h = some (tb, .inr (cx_V, [.null, .int 0]))) : dk_Mv l my_V_init (wd_c my_V_init mb_V_init 1 none) rm_V_init G w [.ref h] (fun w1 => le_at G w1 h tb [] ∧ dk_fr (le_T tb) w w1) 1 3 := by
  refine dk_enter (lv := [(0, .ref h)]) (by decide) (Nat.le_of_ble_eq_true rfl) rfl (fun p e s m args below meth c ls Q hQ C hP hS hl => ?_)
  obtain ⟨hx, hb, hr, hml, hlocks, hown, hnm, hts, hE⟩ := C
  have hK := hE.1
  have hN := hE.2.1
  refine lv_aload_n hx hb de_V_init_0 rfl (lv_at hl 0 rfl) ?_
  refine W.objInit hx hb hown (hts _ wi_69) (hts _ wi_30) (hts _ wi_31) rfl (by rw [hml]; exact hl.1) rfl de_V_init_1 (Nat.le_of_ble_eq_true rfl) (Nat.le_of_ble_eq_true rfl) ?_
  refine W.eq (g2 := F0 m 4 ls []) rfl ?_
  refine lv_aload_n hx hb de_V_init_4 rfl (lv_at hl 0 rfl) ?_
  refine dk_new (tb + 1) (fs := [.int 0, .null, .int 0]) (C := kn_A) (T := kt_A) (N := 3) (ci := cx_A) hx hb hts ki_A ky_A kk_A hown (hts _ wi_70) (hts _ wi_71) (hts _ wi_7) hK hP hS hE.2.2.2 rfl (fun j hj => by match j, hj with | 0, _ => rfl | 1, _ => rfl | 2, _ => rfl | j + 3, h => exact absurd h (by omega)) (by first | exact Nat.le_of_ble_eq_true rfl | (simp only [Nat.zero_add]; omega) | omega) (by first | exact Nat.le_of_ble_eq_true rfl | (simp only [Nat.zero_add]; omega) | omega) de_V_init_5 (fun q_400 H w_401 hn_403 hw_402 hP hS => ?_)
  have h_404 : w_401 q_400 = some ((tb + 1), .inr (cx_A, [.int 0, .null, .int 0])) := dk_here hw_402
  have h_405 : w_401 h = some (tb, .inr (cx_V, [.null, .int 0])) := dk_keepN hw_402 hn_403 hh
  refine lv_dup hx hb de_V_init_8 rfl ?_
  refine dk_callv (va_runI (As := []) (rest := [.ref q_400, .ref h]) ⟨hx, hb, hml, hown, hts⟩ (c_A_init l G w_401 q_400 (tb + 1) (tb + 2) h_404) (cwI 0 hts (wd_g wi_74) rfl rfl rfl (hts _ wi_7) (hts _ wi_72) (hts _ wi_73) rfl (by decide +kernel) ⟨Nat.le_of_ble_eq_true rfl, Nat.le_of_ble_eq_true rfl⟩) (dk_preS hE hP hS) rfl rfl hl.1 rfl (lv_room (Nat.le_of_ble_eq_true rfl)) de_V_init_9 ⟨(by first | exact Nat.le_of_ble_eq_true rfl | (simp only [Nat.zero_add]; omega) | omega), (by first | exact Nat.le_of_ble_eq_true rfl | (simp only [Nat.zero_add]; omega) | omega)⟩) hS (fun w_406 H locs hq_407 hP hS => ?_)
  obtain ⟨hal, hf1⟩ := hq_407
  have h_409 : w_406 h = some (tb, .inr (cx_V, [.null, .int 0])) := hf1 _ _ _ h_405 (by omega)
  refine dk_putF (a := h) (v := .ref q_400) (ty := (.object "java/util/ArrayList")) (C := kn_V) (T := kt_V) (N := 2) hx hb hts ki_V ky_V kk_V kd_V hown hK hP hS h_409 rfl 0 (by decide) (hts _ wi_96) (fun _ h9 => h9) rfl hnm rfl (by decide +kernel) rfl rfl (Nat.le_of_ble_eq_true rfl) de_V_init_12 (fun H locs w_410 hw_411 hP hS => ?_)
  have h_412 : w_410 h = some (tb, .inr (cx_V, [.ref q_400, .int 0])) := dk_here hw_411
  refine lv_aload_n hx hb de_V_init_15 rfl (lv_at hl 0 rfl) ?_
  refine lv_iconst (v := nI 0) hx hb de_V_init_16 (by decide) ?_
  refine dk_put (a := h) (v := .int (nI 0)) (ty := .int) (C := kn_V) (T := kt_V) (N := 2) hx hb hts ki_V ky_V kk_V kd_V hown hK hP hS h_412 rfl 1 (by decide) (hts _ wi_97) (fun _ h9 => h9) rfl (by decide +kernel) rfl rfl (Nat.le_of_ble_eq_true rfl) de_V_init_17 (fun H locs w_413 hw_414 hP hS => ?_)
  have h_415 : w_413 h = some (tb, .inr (cx_V, [.ref q_400, .int (nI 0)])) := dk_here hw_414
  have hf2 : dk_fr (fun t => t = tb) w_406 w_413 := ((dk_fr.up (T := fun t => t = tb) h_409 rfl).eq hw_411).tr ((dk_fr.up (T := fun t => t = tb) h_412 rfl).eq hw_414)
  exact dk_vret hQ hx hb hr hlocks hP hS (by omega) (by omega) (⟨⟨q_400, [], h_415, hal.fr hf2 (by omega) (by omega), ⟨rfl, fun i x R z => by simp at z⟩, by simp, by simp [le_ct]⟩, ((dk_fr.upN (T := le_T tb) hn_403).eq hw_402).tr ((hf1.mono (fun t z => Or.inr (Or.inl z))).tr (hf2.mono (fun t z => Or.inl z)))⟩) de_V_init_20
abbrev rm_V_entryCount : Room := { frames := 0, cells := 0, slots := 0, locals := 0 }
set_option maxHeartbeats 4000000 in
set_option maxRecDepth 100000 in
theorem c_V_entryCount (l : Launch) (G : dk_G) (w : dk_H) (h tb : Nat) (Rs : List (List en_T)) (hl0 : le_at G w h tb Rs) : dk_Mi l my_V_entryCount (wd_c my_V_entryCount mb_V_entryCount 1 (some .int)) rm_V_entryCount G w [.ref h] (fun r w1 => r = nI (le_ct Rs) ∧ w1 = w) 0 0 := by
  obtain ⟨al, xs, hh, hal, hrs, hn6, hc6⟩ := hl0
  refine dk_enter (lv := [(0, .ref h)]) (by decide) (Nat.le_of_ble_eq_true rfl) rfl (fun p e s m args below meth c ls Q hQ C hP hS hl => ?_)
  obtain ⟨hx, hb, hr, hml, hlocks, hown, hnm, hts, hE⟩ := C
  have hK := hE.1
  have hN := hE.2.1
  obtain ⟨mo, ed, halc, -⟩ := id hal
  refine lv_aload_n hx hb de_V_entryCount_0 rfl (lv_at hl 0 rfl) ?_
  refine dk_get (a := h) (v := .int (nI (le_ct Rs))) (C := kn_V) (T := kt_V) (N := 2) hx hb hts ki_V hown hK hP hh rfl 1 (by decide) (hts _ wi_97) (fun _ h9 => h9) rfl de_V_entryCount_1 ?_
  exact dk_iret hQ hx hb hr hlocks hP hS (Nat.le_refl _) (Nat.le_refl _) (⟨rfl, rfl⟩) de_V_entryCount_4
abbrev rm_V_runCount : Room := { frames := 1, cells := 0, slots := 0, locals := 20 }
set_option maxHeartbeats 4000000 in
set_option maxRecDepth 100000 in
theorem c_V_runCount (l : Launch) (G : dk_G) (w : dk_H) (h tb : Nat) (Rs : List (List en_T)) (hl0 : le_at G w h tb Rs) : dk_Mi l my_V_runCount (wd_c my_V_runCount mb_V_runCount 1 (some .int)) rm_V_runCount G w [.ref h] (fun r w1 => r = nI Rs.length ∧ w1 = w) 0 0 := by
  obtain ⟨al, xs, hh, hal, hrs, hn6, hc6⟩ := hl0
  refine dk_enter (lv := [(0, .ref h)]) (by decide) (Nat.le_of_ble_eq_true rfl) rfl (fun p e s m args below meth c ls Q hQ C hP hS hl => ?_)
  obtain ⟨hx, hb, hr, hml, hlocks, hown, hnm, hts, hE⟩ := C
  have hK := hE.1
  have hN := hE.2.1
  obtain ⟨mo, ed, halc, -⟩ := id hal
  refine lv_aload_n hx hb de_V_runCount_0 rfl (lv_at hl 0 rfl) ?_
  refine dk_get (a := h) (v := .ref al) (C := kn_V) (T := kt_V) (N := 2) hx hb hts ki_V hown hK hP hh rfl 0 (by decide) (hts _ wi_96) (fun _ h9 => h9) rfl de_V_runCount_1 ?_
  refine dk_calli (va_runV (As := []) (rest := []) ⟨hx, hb, hml, hown, hts⟩ (c_A_size l G w al (tb + 1) (tb + 2) xs hal) (cwV 0 hts (wd_gV (C := "java/util/ArrayList") wi_304 wi_301 wi_302 wi_303 wi_7) rfl rfl rfl (by decide +kernel) ⟨Nat.le_of_ble_eq_true rfl, Nat.le_of_ble_eq_true rfl⟩) (dk_preV (kn_A, kt_A, 3) hE hP hS halc rfl) rfl rfl hl.1 rfl (lv_room (Nat.le_of_ble_eq_true rfl)) de_V_runCount_4 ⟨(by first | exact Nat.le_of_ble_eq_true rfl | (simp only [Nat.zero_add]; omega) | omega), (by first | exact Nat.le_of_ble_eq_true rfl | (simp only [Nat.zero_add]; omega) | omega)⟩) hS (fun r_418 w_416 H locs hq_417 hP hS => ?_)
  exact dk_iret hQ hx hb hr hlocks hP hS (Nat.le_refl _) (Nat.le_refl _) (⟨by rw [← hrs.1]; exact hq_417.1, hq_417.2⟩) de_V_runCount_7
abbrev rm_V_runAt : Room := { frames := 3, cells := 0, slots := 0, locals := 64 }
set_option maxHeartbeats 4000000 in
set_option maxRecDepth 100000 in
theorem c_V_runAt (l : Launch) (G : dk_G) (w : dk_H) (h tb : Nat) (Rs : List (List en_T)) (hl0 : le_at G w h tb Rs) (k : Int32) : dk_Mq l my_V_runAt (wd_c my_V_runAt mb_V_runAt 2 (some (.object "RunKeeper$Run"))) rm_V_runAt G w [.ref h, .int k] (fun r w1 => rn_q G w Rs k r ∧ w1 = w) 0 0 := by
  obtain ⟨al, xs, hh, hal, hrs, hn6, hc6⟩ := hl0
  refine dk_enter (lv := [(0, .ref h), (1, .int k)]) (by decide) (Nat.le_of_ble_eq_true rfl) rfl (fun p e s m args below meth c ls Q hQ C hP hS hl => ?_)
  obtain ⟨hx, hb, hr, hml, hlocks, hown, hnm, hts, hE⟩ := C
  have hK := hE.1
  have hN := hE.2.1
  obtain ⟨mo, ed, halc, -⟩ := id hal
  refine lv_iload_n hx hb de_V_runAt_0 rfl (lv_at hl 1 rfl) ?_
  refine lv_if_lt (tgt := 29) hx hb de_V_runAt_1 (by decide) (fun c_419 => ?_) (fun c_419 => ?_)
  · refine lv_null hx hb de_V_runAt_29 ?_
    exact dk_aret (r := none) hQ hx hb hr (Or.inl ⟨_, rfl⟩) hlocks hP hS (Nat.le_refl _) (Nat.le_refl _) (⟨Or.inl ⟨rfl, fun j hj h3 => absurd c_419 (by rw [hj]; exact nI_pos h3)⟩, rfl⟩) de_V_runAt_30
  · obtain ⟨j0, hj0, rfl⟩ := nI_of c_419
    have hxl := hrs.1
    refine lv_iload_n hx hb de_V_runAt_4 rfl (lv_at hl 1 rfl) ?_
    refine lv_aload_n hx hb de_V_runAt_5 rfl (lv_at hl 0 rfl) ?_
    refine dk_get (a := h) (v := .ref al) (C := kn_V) (T := kt_V) (N := 2) hx hb hts ki_V hown hK hP hh rfl 0 (by decide) (hts _ wi_96) (fun _ h9 => h9) rfl de_V_runAt_6 ?_
    refine dk_calli (va_runV (As := []) (rest := [.int (nI j0)]) ⟨hx, hb, hml, hown, hts⟩ (c_A_size l G w al (tb + 1) (tb + 2) xs hal) (cwV 0 hts (wd_gV (C := "java/util/ArrayList") wi_304 wi_301 wi_302 wi_303 wi_7) rfl rfl rfl (by decide +kernel) ⟨Nat.le_of_ble_eq_true rfl, Nat.le_of_ble_eq_true rfl⟩) (dk_preV (kn_A, kt_A, 3) hE hP hS halc rfl) rfl rfl hl.1 rfl (lv_room (Nat.le_of_ble_eq_true rfl)) de_V_runAt_9 ⟨(by first | exact Nat.le_of_ble_eq_true rfl | (simp only [Nat.zero_add]; omega) | omega), (by first | exact Nat.le_of_ble_eq_true rfl | (simp only [Nat.zero_add]; omega) | omega)⟩) hS (fun r_422 w_420 H locs hq_421 hP hS => ?_)
    obtain ⟨hr_423, he_424⟩ := hq_421
    subst hr_423
    rw [he_424] at hP
    refine nx_icmp_ge (a := j0) (b := xs.length) (tgt := 29) hx hb (by omega) (by omega) de_V_runAt_12 (by decide) (fun c_425 => ?_) (fun c_425 => ?_)
    · refine lv_null hx hb de_V_runAt_29 ?_
      exact dk_aret (r := none) hQ hx hb hr (Or.inl ⟨_, rfl⟩) hlocks hP hS (Nat.le_refl _) (Nat.le_refl _) (⟨Or.inl ⟨rfl, fun j hj h3 => by have := (nI_eq hj0 h3).mp hj; omega⟩, rfl⟩) de_V_runAt_30
    · refine lv_aload_n hx hb de_V_runAt_15 rfl (lv_at hl 0 rfl) ?_
      refine dk_get (a := h) (v := .ref al) (C := kn_V) (T := kt_V) (N := 2) hx hb hts ki_V hown hK hP hh rfl 0 (by decide) (hts _ wi_96) (fun _ h9 => h9) rfl de_V_runAt_16 ?_
      refine lv_iload_n hx hb de_V_runAt_19 rfl (lv_at hl 1 rfl) ?_
      obtain ⟨x9, hx9⟩ := ge_at c_425
      obtain ⟨R9, hR9⟩ := ge_at (L := Rs) (i := j0) (by omega)
      have hrn := hrs.2 j0 x9 R9 hx9 hR9
      obtain ⟨r9, fl9, f9, hrc, -⟩ := id hrn
      refine dk_callq (va_runV (As := [.int (nI j0)]) (rest := []) ⟨hx, hb, hml, hown, hts⟩ (c_A_get l G w al (tb + 1) (tb + 2) xs hal j0 x9 hx9 (by omega)) (cwV 1 hts (wd_gV (C := "java/util/ArrayList") wi_308 wi_305 wi_306 wi_307 wi_7) rfl rfl rfl (by decide +kernel) ⟨Nat.le_of_ble_eq_true rfl, Nat.le_of_ble_eq_true rfl⟩) (dk_preV (kn_A, kt_A, 3) hE hP hS halc rfl) rfl rfl hl.1 rfl (lv_room (Nat.le_of_ble_eq_true rfl)) de_V_runAt_20 ⟨(by first | exact Nat.le_of_ble_eq_true rfl | (simp only [Nat.zero_add]; omega) | omega), (by first | exact Nat.le_of_ble_eq_true rfl | (simp only [Nat.zero_add]; omega) | omega)⟩) hS (fun r_428 w_426 H locs hq_427 hP hS => ?_)
      obtain ⟨hr8, hw8⟩ := hq_427
      subst hr8
      rw [hw8] at hP
      refine va_castY (a := x9) (C := "RunKeeper$Run") hx hb hown (hts _ wi_319) (hN _ (dn_m 917 (by decide +kernel) rfl)) (dk_recv (kn_U, kt_U, 2) hK hP hrc rfl) de_V_runAt_23 ?_
      refine lv_goto (tgt := 30) hx hb de_V_runAt_26 (by decide) ?_
      exact dk_aret (r := some x9) hQ hx hb hr (Or.inl ⟨_, rfl⟩) hlocks hP hS (Nat.le_refl _) (Nat.le_refl _) (⟨Or.inr ⟨j0, R9, x9, rfl, hR9, rfl, hrn⟩, rfl⟩) de_V_runAt_30
abbrev rm_V_add : Room := { frames := 7, cells := 1, slots := 900, locals := 171 }
set_option maxHeartbeats 4000000 in
set_option maxRecDepth 100000 in
theorem c_V_add (l : Launch) (G : dk_G) (w : dk_H) (h tb : Nat) (Rs : List (List en_T)) (hl0 : le_at G w h tb Rs) (htb : tb ≠ 0) (a : Nat) (R : List en_T) (ha : rn_at G w a R) (hb6 : Rs.length < 600) (hc7 : le_ct Rs + R.length ≤ 600) : dk_Mv l my_V_add (wd_c my_V_add mb_V_add 2 none) rm_V_add G w [.ref h, .ref a] (fun w1 => le_at G w1 h tb (Rs ++ [R]) ∧ dk_fr (le_T tb) w w1) 1 900 := by
  obtain ⟨al, xs, hh, hal, hrs, hn6, hc6⟩ := hl0
  obtain ⟨r9, fl9, f9, hrc, hrw, -⟩ := id ha
  refine dk_enter (lv := [(0, .ref h), (1, .ref a)]) (by decide) (Nat.le_of_ble_eq_true rfl) rfl (fun p e s m args below meth c ls Q hQ C hP hS hl => ?_)
  obtain ⟨hx, hb, hr, hml, hlocks, hown, hnm, hts, hE⟩ := C
  have hK := hE.1
  have hN := hE.2.1
  obtain ⟨mo, ed, halc, -⟩ := id hal
  refine lv_aload_n hx hb de_V_add_0 rfl (lv_at hl 0 rfl) ?_
  refine dk_get (a := h) (v := .ref al) (C := kn_V) (T := kt_V) (N := 2) hx hb hts ki_V hown hK hP hh rfl 0 (by decide) (hts _ wi_96) (fun _ h9 => h9) rfl de_V_add_1 ?_
  refine lv_aload_n hx hb de_V_add_4 rfl (lv_at hl 1 rfl) ?_
  refine dk_calli (va_runV (As := [.ref a]) (rest := []) ⟨hx, hb, hml, hown, hts⟩ (c_A_add l G w al (tb + 1) (tb + 2) xs hal ⟨by omega, by omega, by omega⟩ (by have := hrs.1; omega) hrs.el a _ hrc) (cwV 1 hts (wd_gV (C := "java/util/ArrayList") wi_215 wi_212 wi_213 wi_214 wi_7) rfl rfl rfl (by decide +kernel) ⟨Nat.le_of_ble_eq_true rfl, Nat.le_of_ble_eq_true rfl⟩) (dk_preV (kn_A, kt_A, 3) hE hP hS halc rfl) rfl rfl hl.1 rfl (lv_room (Nat.le_of_ble_eq_true rfl)) de_V_add_5 ⟨(by first | exact Nat.le_of_ble_eq_true rfl | (simp only [Nat.zero_add]; omega) | omega), (by first | exact Nat.le_of_ble_eq_true rfl | (simp only [Nat.zero_add]; omega) | omega)⟩) hS (fun r_431 w_429 H locs hq_430 hP hS => ?_)
  obtain ⟨hal2, hf1⟩ := hq_430
  have h_432 : w_429 h = some (tb, .inr (cx_V, [.ref al, .int (nI (le_ct Rs))])) := hf1 _ _ _ hh (by omega)
  have h_433 : w_429 a = some (0, .inr (cx_U, [.ref r9, .ref fl9])) := hf1 _ _ _ hrc (by omega)
  have ha2 := ha.fr hf1 (by omega)
  have hrw2 := hrw.fr hf1 (by omega) (by omega) (by omega)
  obtain ⟨sl9, g9, hrc2, -⟩ := id hrw2
  refine lv_pop hx hb de_V_add_8 rfl ?_
  refine lv_aload_n hx hb de_V_add_9 rfl (lv_at hl 0 rfl) ?_
  refine lv_dup hx hb de_V_add_10 rfl ?_
  refine dk_get (a := h) (v := .int (nI (le_ct Rs))) (C := kn_V) (T := kt_V) (N := 2) hx hb hts ki_V hown hK hP h_432 rfl 1 (by decide) (hts _ wi_97) (fun _ h9 => h9) rfl de_V_add_11 ?_
  refine lv_aload_n hx hb de_V_add_14 rfl (lv_at hl 1 rfl) ?_
  refine dk_callq (va_runV (As := []) (rest := [.int (nI (le_ct Rs)), .ref h]) ⟨hx, hb, hml, hown, hts⟩ (c_U_entries l G w_429 a 0 r9 fl9 h_433) (cwV 0 hts (wd_gV (C := "RunKeeper$Run") wi_274 wi_271 wi_272 wi_273 wi_15) rfl rfl rfl (by decide +kernel) ⟨Nat.le_of_ble_eq_true rfl, Nat.le_of_ble_eq_true rfl⟩) (dk_preV (kn_U, kt_U, 2) hE hP hS h_433 rfl) rfl rfl hl.1 rfl (lv_room (Nat.le_of_ble_eq_true rfl)) de_V_add_15 ⟨(by first | exact Nat.le_of_ble_eq_true rfl | (simp only [Nat.zero_add]; omega) | omega), (by first | exact Nat.le_of_ble_eq_true rfl | (simp only [Nat.zero_add]; omega) | omega)⟩) hS (fun r_436 w_434 H locs hq_435 hP hS => ?_)
  obtain ⟨hr8, hw8⟩ := hq_435
  subst hr8
  rw [hw8] at hP
  refine dk_calli (va_runV (As := []) (rest := [.int (nI (le_ct Rs)), .ref h]) ⟨hx, hb, hml, hown, hts⟩ (c_R_size l G w_429 r9 0 0 R.length R hrw2) (cwV 0 hts (wd_gV (C := "RunKeeper$Row") wi_147 wi_275 wi_145 wi_146 wi_2) rfl rfl rfl (by decide +kernel) ⟨Nat.le_of_ble_eq_true rfl, Nat.le_of_ble_eq_true rfl⟩) (dk_preV (kn_R, kt_R, 2) hE hP hS hrc2 rfl) rfl rfl hl.1 rfl (lv_room (Nat.le_of_ble_eq_true rfl)) de_V_add_18 ⟨(by first | exact Nat.le_of_ble_eq_true rfl | (simp only [Nat.zero_add]; omega) | omega), (by first | exact Nat.le_of_ble_eq_true rfl | (simp only [Nat.zero_add]; omega) | omega)⟩) hS (fun r_439 w_437 H locs hq_438 hP hS => ?_)
  obtain ⟨hr_440, he_441⟩ := hq_438
  subst hr_440
  rw [he_441] at hP
  refine nx_iadd (a := le_ct Rs) (b := R.length) hx hb de_V_add_21 ?_
  refine dk_put (a := h) (v := .int (nI (le_ct Rs + R.length))) (ty := .int) (C := kn_V) (T := kt_V) (N := 2) hx hb hts ki_V ky_V kk_V kd_V hown hK hP hS h_432 rfl 1 (by decide) (hts _ wi_97) (fun _ h9 => h9) rfl (by decide +kernel) rfl rfl (Nat.le_of_ble_eq_true rfl) de_V_add_22 (fun H locs w_442 hw_443 hP hS => ?_)
  have h_444 : w_442 h = some (tb, .inr (cx_V, [.ref al, .int (nI (le_ct Rs + R.length))])) := dk_here hw_443
  have h_445 : w_442 a = some (0, .inr (cx_U, [.ref r9, .ref fl9])) := dk_keep hw_443 h_432 h_433 (by omega)
  have h_446 : w_442 r9 = some (0, .inr (cx_R, [.ref sl9, .int (nI R.length)])) := dk_keep hw_443 h_432 hrc2 (by omega)
  have hf2 : dk_fr (fun t => t = tb) w_429 w_442 := (dk_fr.up (T := fun t => t = tb) h_432 rfl).eq hw_443
  exact dk_vret hQ hx hb hr hlocks hP hS (by omega) (by omega) (⟨⟨al, xs ++ [a], by rw [le_snoc]; exact h_444, hal2.fr hf2 (by omega) (by omega), ((hrs.fr hf1 (by omega)).snoc ha2).fr hf2 (by omega), by simp; omega, by rw [le_snoc]; omega⟩, (hf1.mono (fun t z => Or.inr z)).tr (hf2.mono (fun t z => Or.inl z))⟩) de_V_add_25
abbrev rm_V_clear : Room := { frames := 1, cells := 0, slots := 0, locals := 23 }
set_option maxHeartbeats 4000000 in
set_option maxRecDepth 100000 in
theorem c_V_clear (l : Launch) (G : dk_G) (w : dk_H) (h tb : Nat) (Rs : List (List en_T)) (hl0 : le_at G w h tb Rs) (htb : tb ≠ 0) : dk_Mv l my_V_clear (wd_c my_V_clear mb_V_clear 1 none) rm_V_clear G w [.ref h] (fun w1 => le_at G w1 h tb [] ∧ dk_fr (le_T tb) w w1) 0 0 := by
  obtain ⟨al, xs, hh, hal, hrs, hn6, hc6⟩ := hl0
  refine dk_enter (lv := [(0, .ref h)]) (by decide) (Nat.le_of_ble_eq_true rfl) rfl (fun p e s m args below meth c ls Q hQ C hP hS hl => ?_)
  obtain ⟨hx, hb, hr, hml, hlocks, hown, hnm, hts, hE⟩ := C
  have hK := hE.1
  have hN := hE.2.1
  obtain ⟨mo, ed, halc, -⟩ := id hal
  refine lv_aload_n hx hb de_V_clear_0 rfl (lv_at hl 0 rfl) ?_
  refine dk_get (a := h) (v := .ref al) (C := kn_V) (T := kt_V) (N := 2) hx hb hts ki_V hown hK hP hh rfl 0 (by decide) (hts _ wi_96) (fun _ h9 => h9) rfl de_V_clear_1 ?_
  refine dk_callv (va_runV (As := []) (rest := []) ⟨hx, hb, hml, hown, hts⟩ (c_A_clear l G w al (tb + 1) (tb + 2) xs hal ⟨by omega, by omega, by omega⟩ (by have := hrs.1; omega)) (cwV 0 hts (wd_gV (C := "java/util/ArrayList") wi_568 wi_565 wi_566 wi_567 wi_7) rfl rfl rfl (by decide +kernel) ⟨Nat.le_of_ble_eq_true rfl, Nat.le_of_ble_eq_true rfl⟩) (dk_preV (kn_A, kt_A, 3) hE hP hS halc rfl) rfl rfl hl.1 rfl (lv_room (Nat.le_of_ble_eq_true rfl)) de_V_clear_4 ⟨(by first | exact Nat.le_of_ble_eq_true rfl | (simp only [Nat.zero_add]; omega) | omega), (by first | exact Nat.le_of_ble_eq_true rfl | (simp only [Nat.zero_add]; omega) | omega)⟩) hS (fun w_447 H locs hq_448 hP hS => ?_)
  obtain ⟨hal2, hf1⟩ := hq_448
  have h_450 : w_447 h = some (tb, .inr (cx_V, [.ref al, .int (nI (le_ct Rs))])) := hf1 _ _ _ hh (by omega)
  refine lv_aload_n hx hb de_V_clear_7 rfl (lv_at hl 0 rfl) ?_
  refine lv_iconst (v := nI 0) hx hb de_V_clear_8 (by decide) ?_
  refine dk_put (a := h) (v := .int (nI 0)) (ty := .int) (C := kn_V) (T := kt_V) (N := 2) hx hb hts ki_V ky_V kk_V kd_V hown hK hP hS h_450 rfl 1 (by decide) (hts _ wi_97) (fun _ h9 => h9) rfl (by decide +kernel) rfl rfl (Nat.le_of_ble_eq_true rfl) de_V_clear_9 (fun H locs w_451 hw_452 hP hS => ?_)
  have h_453 : w_451 h = some (tb, .inr (cx_V, [.ref al, .int (nI 0)])) := dk_here hw_452
  have hf2 : dk_fr (fun t => t = tb) w_447 w_451 := (dk_fr.up (T := fun t => t = tb) h_450 rfl).eq hw_452
  exact dk_vret hQ hx hb hr hlocks hP hS (Nat.le_refl _) (Nat.le_refl _) (⟨⟨al, [], h_453, hal2.fr hf2 (by omega) (by omega), ⟨rfl, fun i x R z => by simp at z⟩, by simp, by simp [le_ct]⟩, (hf1.mono (fun t z => Or.inr z)).tr (hf2.mono (fun t z => Or.inl z))⟩) de_V_clear_12
abbrev rm_V_copyTo : Room := { frames := 3, cells := 0, slots := 0, locals := 64 }
set_option maxHeartbeats 4000000 in
set_option maxRecDepth 100000 in
theorem c_V_copyTo (l : Launch) (G : dk_G) (w : dk_H) (h tb : Nat) (Rs : List (List en_T)) (hl0 : le_at G w h tb Rs) (htb : tb ≠ 0) (h2 t0 t1 cap : Nat) (L : List en_T) (hr0 : rw_at G w h2 t0 t1 cap L) (ht : t0 ≠ 0 ∧ t1 ≠ 0 ∧ t0 ≠ t1) (hne : ∀ t, t = t0 ∨ t = t1 → ¬ le_T tb t) (hc7 : L.length + le_ct Rs ≤ cap) : dk_Mv l my_V_copyTo (wd_c my_V_copyTo mb_V_copyTo 3 none) rm_V_copyTo G w [.ref h, .ref h2] (fun w1 => rw_at G w1 h2 t0 t1 cap (L ++ Rs.flatten) ∧ dk_fr (fun t => t = t0 ∨ t = t1) w w1) 0 0 := by
  have hl1 := hl0
  have ht9 := ht
  obtain ⟨ht0, ht1, ht2⟩ := ht
  have hcap : cap ≤ 1024 := hr0.choose_spec.choose_spec.2.2.2.1
  have hb1 : ¬ (tb = t0 ∨ tb = t1) := fun z => hne tb z (Or.inl rfl)
  have hb2 : ¬ (tb + 1 = t0 ∨ tb + 1 = t1) := fun z => hne _ z (Or.inr (Or.inl rfl))
  have hb3 : ¬ (tb + 2 = t0 ∨ tb + 2 = t1) := fun z => hne _ z (Or.inr (Or.inr rfl))
  refine dk_enter (lv := [(0, .ref h), (1, .ref h2)]) (by decide) (Nat.le_of_ble_eq_true rfl) rfl (fun p e s m args below meth c ls Q hQ C hP hS hl => ?_)
  obtain ⟨hx, hb, hr, hml, hlocks, hown, hnm, hts, hE⟩ := C
  have hK := hE.1
  have hN := hE.2.1
  refine lv_iconst (v := nI 0) hx hb de_V_copyTo_0 (by decide) ?_
  refine lv_istore_n (lv' := [(2, .int (nI 0)), (0, .ref h), (1, .ref h2)]) hx hb de_V_copyTo_1 rfl hl (by decide) rfl (fun ls hl => ?_)
  have lp : ∀ (zk : Nat) (i : Nat), Rs.length - i < zk → (i ≤ Rs.length) → ∀ (H : Heap) (locs : List Loc) (v : dk_H), (rw_at G v h2 t0 t1 cap (L ++ (Rs.take i).flatten)) → (dk_fr (fun t => t = t0 ∨ t = t1) w v) → dk_P G v H → dk_S G s.heap H locs → ∀ (ls : Array Slot), lv_has ls 3 [(0, .ref h), (1, .ref h2), (2, .int (nI i))] → W p l e rm_V_copyTo s m args below meth c H locs 0 0 Q (F0 m 2 ls []) := by
    intro zk
    induction zk with
    | zero =>
      intro i hk
      exact absurd hk (by omega)
    | succ zk ih =>
      intro i hk hi
      intro H locs v hv hg hP hS
      intro ls hl
      obtain ⟨al, xs, hh, hal, hrs, hn6, hc6⟩ := hl1.fr hg (by omega) hb1 hb2 hb3
      obtain ⟨mo, ed, halc, -⟩ := id hal
      have hxl := hrs.1
      refine lv_iload_n hx hb de_V_copyTo_2 rfl (lv_at hl 2 rfl) ?_
      refine lv_aload_n hx hb de_V_copyTo_3 rfl (lv_at hl 0 rfl) ?_
      refine dk_get (a := h) (v := .ref al) (C := kn_V) (T := kt_V) (N := 2) hx hb hts ki_V hown hK hP hh rfl 0 (by decide) (hts _ wi_96) (fun _ h9 => h9) rfl de_V_copyTo_4 ?_
      refine dk_calli (va_runV (As := []) (rest := [.int (nI i)]) ⟨hx, hb, hml, hown, hts⟩ (c_A_size l G v al (tb + 1) (tb + 2) xs hal) (cwV 0 hts (wd_gV (C := "java/util/ArrayList") wi_304 wi_301 wi_302 wi_303 wi_7) rfl rfl rfl (by decide +kernel) ⟨Nat.le_of_ble_eq_true rfl, Nat.le_of_ble_eq_true rfl⟩) (dk_preV (kn_A, kt_A, 3) hE hP hS halc rfl) rfl rfl hl.1 rfl (lv_room (Nat.le_of_ble_eq_true rfl)) de_V_copyTo_7 ⟨(by first | exact Nat.le_of_ble_eq_true rfl | (simp only [Nat.zero_add]; omega) | omega), (by first | exact Nat.le_of_ble_eq_true rfl | (simp only [Nat.zero_add]; omega) | omega)⟩) hS (fun r_456 w_454 H locs hq_455 hP hS => ?_)
      obtain ⟨hr_457, he_458⟩ := hq_455
      subst hr_457
      rw [he_458] at hP
      refine nx_icmp_ge (a := i) (b := xs.length) (tgt := 37) hx hb (by omega) (by omega) de_V_copyTo_10 (by decide) (fun c_459 => ?_) (fun c_459 => ?_)
      · have e9 : Rs.take i = Rs := List.take_of_length_le (by omega)
        rw [e9] at hv
        exact dk_vret hQ hx hb hr hlocks hP hS (Nat.le_refl _) (Nat.le_refl _) (⟨hv, hg⟩) de_V_copyTo_37
      · refine lv_aload_n hx hb de_V_copyTo_13 rfl (lv_at hl 1 rfl) ?_
        refine lv_aload_n hx hb de_V_copyTo_14 rfl (lv_at hl 0 rfl) ?_
        refine dk_get (a := h) (v := .ref al) (C := kn_V) (T := kt_V) (N := 2) hx hb hts ki_V hown hK hP hh rfl 0 (by decide) (hts _ wi_96) (fun _ h9 => h9) rfl de_V_copyTo_15 ?_
        refine lv_iload_n hx hb de_V_copyTo_18 rfl (lv_at hl 2 rfl) ?_
        obtain ⟨x9, hx9⟩ := ge_at c_459
        obtain ⟨R9, hR9⟩ := ge_at (L := Rs) (i := i) (by omega)
        have hrn := hrs.2 i x9 R9 hx9 hR9
        obtain ⟨r9, fl9, f9, hrc, hrw, -⟩ := id hrn
        refine dk_callq (va_runV (As := [.int (nI i)]) (rest := [.ref h2]) ⟨hx, hb, hml, hown, hts⟩ (c_A_get l G v al (tb + 1) (tb + 2) xs hal i x9 hx9 (by omega)) (cwV 1 hts (wd_gV (C := "java/util/ArrayList") wi_308 wi_305 wi_306 wi_307 wi_7) rfl rfl rfl (by decide +kernel) ⟨Nat.le_of_ble_eq_true rfl, Nat.le_of_ble_eq_true rfl⟩) (dk_preV (kn_A, kt_A, 3) hE hP hS halc rfl) rfl rfl hl.1 rfl (lv_room (Nat.le_of_ble_eq_true rfl)) de_V_copyTo_19 ⟨(by first | exact Nat.le_of_ble_eq_true rfl | (simp only [Nat.zero_add]; omega) | omega), (by first | exact Nat.le_of_ble_eq_true rfl | (simp only [Nat.zero_add]; omega) | omega)⟩) hS (fun r_462 w_460 H locs hq_461 hP hS => ?_)
        obtain ⟨hr8, hw8⟩ := hq_461
        subst hr8
        rw [hw8] at hP
        refine va_castY (a := x9) (C := "RunKeeper$Run") hx hb hown (hts _ wi_319) (hN _ (dn_m 917 (by decide +kernel) rfl)) (dk_recv (kn_U, kt_U, 2) hK hP hrc rfl) de_V_copyTo_22 ?_
        refine dk_callq (va_runV (As := []) (rest := [.ref h2]) ⟨hx, hb, hml, hown, hts⟩ (c_U_entries l G v x9 0 r9 fl9 hrc) (cwV 0 hts (wd_gV (C := "RunKeeper$Run") wi_274 wi_271 wi_272 wi_273 wi_15) rfl rfl rfl (by decide +kernel) ⟨Nat.le_of_ble_eq_true rfl, Nat.le_of_ble_eq_true rfl⟩) (dk_preV (kn_U, kt_U, 2) hE hP hS hrc rfl) rfl rfl hl.1 rfl (lv_room (Nat.le_of_ble_eq_true rfl)) de_V_copyTo_25 ⟨(by first | exact Nat.le_of_ble_eq_true rfl | (simp only [Nat.zero_add]; omega) | omega), (by first | exact Nat.le_of_ble_eq_true rfl | (simp only [Nat.zero_add]; omega) | omega)⟩) hS (fun r_465 w_463 H locs hq_464 hP hS => ?_)
        obtain ⟨hr8, hw8⟩ := hq_464
        subst hr8
        rw [hw8] at hP
        obtain ⟨sl9, g9, hrc2, -⟩ := id hv
        have hle9 := le_mem hR9
        refine dk_callv (va_runV (As := [.ref r9]) (rest := []) ⟨hx, hb, hml, hown, hts⟩ (c_R_addAll l G v h2 t0 t1 cap _ hv ht9 r9 0 0 R9.length R9 hrw ⟨by omega, by omega, by omega, by omega⟩ (by rw [List.length_append, le_flat]; omega)) (cwV 1 hts (wd_gV (C := "RunKeeper$Row") wi_183 wi_320 wi_181 wi_182 wi_2) rfl rfl rfl (by decide +kernel) ⟨Nat.le_of_ble_eq_true rfl, Nat.le_of_ble_eq_true rfl⟩) (dk_preV (kn_R, kt_R, 2) hE hP hS hrc2 rfl) rfl rfl hl.1 rfl (lv_room (Nat.le_of_ble_eq_true rfl)) de_V_copyTo_28 ⟨(by first | exact Nat.le_of_ble_eq_true rfl | (simp only [Nat.zero_add]; omega) | omega), (by first | exact Nat.le_of_ble_eq_true rfl | (simp only [Nat.zero_add]; omega) | omega)⟩) hS (fun w_466 H locs hq_467 hP hS => ?_)
        refine lv_iinc (v := nI (i + 1)) (lv' := [(2, .int (nI (i + 1))), (0, .ref h), (1, .ref h2)]) hx hb de_V_copyTo_31 hl (k := 2) rfl (nx_inc i) (by decide) rfl (fun ls hl => ?_)
        refine lv_goto (tgt := 2) hx hb de_V_copyTo_34 (by decide) ?_
        have e9 : L ++ (Rs.take (i + 1)).flatten = L ++ (Rs.take i).flatten ++ R9 := by rw [ta_s hR9]; simp [List.append_assoc]
        exact ih (i + 1) (by omega) (by omega) _ _ _ (by rw [e9]; exact hq_467.1) (hg.tr hq_467.2) hP hS _ (lv_sub hl [1, 2, 0] rfl)
  exact lp (Rs.length + 1) 0 (by omega) (Nat.zero_le _) _ _ _ (by simpa using hr0) dk_fr.rf hP hS _ (lv_sub hl [1, 2, 0] rfl)
