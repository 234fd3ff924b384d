/-! RunKeeperLaw: the methods that call and catch (printed by gen/c_law.py) -/
theorem cwi_put : Cond.codeWith my_L_put mb_L_put 6 (some .int) [(0, 11, 14, 13), (0, 11, 18, 15)] ∈ wd_all := wd_m 328 (by decide +kernel) (by decide +kernel)
abbrev rw_L_put (c9 : Nat) : Room := { frames := 12, cells := (2 + 5 * c9), slots := (8 + 1579 * c9), locals := 283 }
abbrev rx_L_put : Room := { frames := 8, cells := 1, slots := 6, locals := 130 }
set_option maxHeartbeats 4000000 in
set_option maxRecDepth 100000 in
theorem l_put (l : Launch) (G : dk_G) (w : dk_H) (h : Nat) (fs9 : List Value) (o : Nat) (f : Nat → Int64) (c9 : Nat) (k : Int32) (z : Int64) (post : Int32 → dk_H → Prop) (hM : dk_Mi l my_K_put (wd_c my_K_put mb_K_put 4 (some .int)) (rm_K_put c9) G w [.ref h, .int k, .long z] post (2 + 5 * c9) (8 + 1579 * c9)) (hh : w h = some (1, .inr (cx_K, fs9))) (ho : w o = some (90, dk_cl G 1 f)) (hfr : ∀ r u, post r u → dk_fr kp_T w u) : dk_Mi l my_L_put (wd_h my_L_put mb_L_put 6 (some .int) [(0, 11, 14, 13), (0, 11, 18, 15)]) (rw_L_put c9) G w [.ref h, .int k, .long z, .ref o] (fun r w1 => r = nI 0 ∧ ∃ (r0 : Int32) (u : dk_H), post r0 u ∧ w1 = va_up u o (some (90, dk_cl G 1 (vp_updL f 0 (r0.toInt64))))) (2 + 5 * c9) (8 + 1579 * c9) := by
  refine dk_enterH (lv := [(0, .ref h), (1, .int k), (2, .long z), (4, .ref o)]) (by decide) (Nat.le_of_ble_eq_true rfl) rfl (fun p e s m args below meth c ls Q hQ C hexc hP hS hl => ?_)
  obtain ⟨hx, hb, hr, hml, hlocks, hown, hnm, hts, hE⟩ := C
  have hK := hE.1
  have hN := hE.2.1
  refine lv_aload hx hb de_L_put_0 (lv_at hl 3 rfl) ?_
  refine lv_iconst (v := nI 0) hx hb de_L_put_2 (by decide) ?_
  refine lv_aload_n hx hb de_L_put_3 rfl (lv_at hl 0 rfl) ?_
  refine lv_iload_n hx hb de_L_put_4 rfl (lv_at hl 1 rfl) ?_
  refine lv_lload_n hx hb de_L_put_5 rfl (lv_at hl 2 rfl) ?_
  refine dk_calli (va_runV (As := [.int k, .long z]) (rest := [.int (nI 0), .ref o]) ⟨hx, hb, hml, hown, hts⟩ hM (cwV 2 hts (wd_gV (C := "RunKeeper") wi_334 wi_331 wi_332 wi_333 wi_1) rfl rfl rfl (by decide +kernel) ⟨Nat.le_of_ble_eq_true rfl, Nat.le_of_ble_eq_true rfl⟩) (dk_preV (kn_K, kt_K, 12) hE hP hS hh rfl) rfl rfl hl.1 rfl (lv_room (Nat.le_of_ble_eq_true rfl)) de_L_put_6 ⟨(by first | exact Nat.le_of_ble_eq_true rfl | exact Nat.le_of_eq (Nat.zero_add _) | (simp only [Nat.zero_add]; omega) | omega), (by first | exact Nat.le_of_ble_eq_true rfl | exact Nat.le_of_eq (Nat.zero_add _) | (simp only [Nat.zero_add]; omega) | omega)⟩) hS (fun r_8541 w_8539 H locs hq_8540 hP hS => ?_)
  have ho1 : w_8539 o = some (90, dk_cl G 1 f) := hfr _ _ hq_8540 _ _ _ ho (by unfold kp_T; omega)
  refine lv_i2l (v := r_8541.toInt64) hx hb de_L_put_9 rfl ?_
  refine dk_last (a := o) (x := (r_8541.toInt64)) hx hb hK hP hS ho1 0 rfl (by omega) (by omega) de_L_put_10 (fun H locs w_8542 hw_8543 hP hS => ?_)
  have h_8544 : w_8542 o = some (90, dk_cl G 1 (vp_updL f 0 (r_8541.toInt64))) := dk_here hw_8543
  refine lv_goto (tgt := 22) hx hb de_L_put_11 (by decide) ?_
  refine lv_iconst (v := nI 0) hx hb de_L_put_22 (by decide) ?_
  exact dk_iret hQ hx hb hr hlocks hP hS (by omega) (by omega) (⟨rfl, r_8541, w_8539, hq_8540, hw_8543⟩) de_L_put_23
set_option maxHeartbeats 4000000 in
set_option maxRecDepth 100000 in
theorem l_put_1 (l : Launch) (G : dk_G) (w : dk_H) (h : Nat) (fs9 : List Value) (o : Nat) (k : Int32) (z : Int64) (post : dk_H → Prop) (hM : dk_Mt l my_K_put (wd_c my_K_put mb_K_put 4 (some .int)) rt_K_put G w [.ref h, .int k, .long z] "java/lang/IllegalArgumentException" post 1 6) (hh : w h = some (1, .inr (cx_K, fs9))) : dk_Mi l my_L_put (wd_h my_L_put mb_L_put 6 (some .int) [(0, 11, 14, 13), (0, 11, 18, 15)]) rx_L_put G w [.ref h, .int k, .long z, .ref o] (fun r w1 => r = nI 1 ∧ post w1) 1 6 := by
  refine dk_enterH (lv := [(0, .ref h), (1, .int k), (2, .long z), (4, .ref o)]) (by decide) (Nat.le_of_ble_eq_true rfl) rfl (fun p e s m args below meth c ls Q hQ C hexc hP hS hl => ?_)
  obtain ⟨hx, hb, hr, hml, hlocks, hown, hnm, hts, hE⟩ := C
  have hK := hE.1
  have hN := hE.2.1
  refine lv_aload hx hb de_L_put_0 (lv_at hl 3 rfl) ?_
  refine lv_iconst (v := nI 0) hx hb de_L_put_2 (by decide) ?_
  refine lv_aload_n hx hb de_L_put_3 rfl (lv_at hl 0 rfl) ?_
  refine lv_iload_n hx hb de_L_put_4 rfl (lv_at hl 1 rfl) ?_
  refine lv_lload_n hx hb de_L_put_5 rfl (lv_at hl 2 rfl) ?_
  refine dk_catch1 (dk_runT (As := [.int k, .long z]) (rest := [.int (nI 0), .ref o]) ⟨hx, hb, hml, hown, hts⟩ hM (cwV 2 hts (wd_gV (C := "RunKeeper") wi_334 wi_331 wi_332 wi_333 wi_1) rfl rfl rfl (by decide +kernel) ⟨Nat.le_of_ble_eq_true rfl, Nat.le_of_ble_eq_true rfl⟩) (dk_preV (kn_K, kt_K, 12) hE hP hS hh rfl) hS rfl rfl hl.1 rfl (lv_room (Nat.le_of_ble_eq_true rfl)) de_L_put_6 ⟨(by first | exact Nat.le_of_ble_eq_true rfl | exact Nat.le_of_eq (Nat.zero_add _) | (simp only [Nat.zero_add]; omega) | omega), (by first | exact Nat.le_of_ble_eq_true rfl | exact Nat.le_of_eq (Nat.zero_add _) | (simp only [Nat.zero_add]; omega) | omega)⟩) hown hts hexc ⟨by decide, by decide⟩ (by decide) wi_329 (fun x9 w9 H locs hp9 hP hS => ?_)
  refine lv_astore (lv' := [(5, .ref x9), (0, .ref h), (1, .int k), (2, .long z), (4, .ref o)]) hx hb de_L_put_14 hl (by decide) rfl (fun ls hl => ?_)
  refine lv_iconst (v := nI 1) hx hb de_L_put_16 (by decide) ?_
  exact dk_iret hQ hx hb hr hlocks hP hS (by first | exact Nat.le_of_ble_eq_true rfl | omega) (by first | exact Nat.le_of_ble_eq_true rfl | omega) (⟨rfl, hp9⟩) de_L_put_17
set_option maxHeartbeats 4000000 in
set_option maxRecDepth 100000 in
theorem l_put_2 (l : Launch) (G : dk_G) (w : dk_H) (h : Nat) (fs9 : List Value) (o : Nat) (k : Int32) (z : Int64) (post : dk_H → Prop) (hM : dk_Mt l my_K_put (wd_c my_K_put mb_K_put 4 (some .int)) rt_K_put G w [.ref h, .int k, .long z] "java/lang/IndexOutOfBoundsException" post 1 6) (hh : w h = some (1, .inr (cx_K, fs9))) : dk_Mi l my_L_put (wd_h my_L_put mb_L_put 6 (some .int) [(0, 11, 14, 13), (0, 11, 18, 15)]) rx_L_put G w [.ref h, .int k, .long z, .ref o] (fun r w1 => r = nI 2 ∧ post w1) 1 6 := by
  refine dk_enterH (lv := [(0, .ref h), (1, .int k), (2, .long z), (4, .ref o)]) (by decide) (Nat.le_of_ble_eq_true rfl) rfl (fun p e s m args below meth c ls Q hQ C hexc hP hS hl => ?_)
  obtain ⟨hx, hb, hr, hml, hlocks, hown, hnm, hts, hE⟩ := C
  have hK := hE.1
  have hN := hE.2.1
  refine lv_aload hx hb de_L_put_0 (lv_at hl 3 rfl) ?_
  refine lv_iconst (v := nI 0) hx hb de_L_put_2 (by decide) ?_
  refine lv_aload_n hx hb de_L_put_3 rfl (lv_at hl 0 rfl) ?_
  refine lv_iload_n hx hb de_L_put_4 rfl (lv_at hl 1 rfl) ?_
  refine lv_lload_n hx hb de_L_put_5 rfl (lv_at hl 2 rfl) ?_
  refine dk_catch2 (dk_runT (As := [.int k, .long z]) (rest := [.int (nI 0), .ref o]) ⟨hx, hb, hml, hown, hts⟩ hM (cwV 2 hts (wd_gV (C := "RunKeeper") wi_334 wi_331 wi_332 wi_333 wi_1) rfl rfl rfl (by decide +kernel) ⟨Nat.le_of_ble_eq_true rfl, Nat.le_of_ble_eq_true rfl⟩) (dk_preV (kn_K, kt_K, 12) hE hP hS hh rfl) hS rfl rfl hl.1 rfl (lv_room (Nat.le_of_ble_eq_true rfl)) de_L_put_6 ⟨(by first | exact Nat.le_of_ble_eq_true rfl | exact Nat.le_of_eq (Nat.zero_add _) | (simp only [Nat.zero_add]; omega) | omega), (by first | exact Nat.le_of_ble_eq_true rfl | exact Nat.le_of_eq (Nat.zero_add _) | (simp only [Nat.zero_add]; omega) | omega)⟩) hown hts hexc ⟨by decide, by decide⟩ ⟨by decide, by decide⟩ (by decide) (by decide) wi_329 wi_330 hE.2.2.1.2.2.2.2.2.1.1 (fun x9 w9 H locs hp9 hP hS => ?_)
  refine lv_astore (lv' := [(5, .ref x9), (0, .ref h), (1, .int k), (2, .long z), (4, .ref o)]) hx hb de_L_put_18 hl (by decide) rfl (fun ls hl => ?_)
  refine lv_iconst (v := nI 2) hx hb de_L_put_20 (by decide) ?_
  exact dk_iret hQ hx hb hr hlocks hP hS (by first | exact Nat.le_of_ble_eq_true rfl | omega) (by first | exact Nat.le_of_ble_eq_true rfl | omega) (⟨rfl, hp9⟩) de_L_put_21
theorem cwi_delete : Cond.codeWith my_L_delete mb_L_delete 4 (some .int) [(0, 9, 12, 13), (0, 9, 15, 15)] ∈ wd_all := wd_m 478 (by decide +kernel) (by decide +kernel)
abbrev rw_L_delete (c9 : Nat) : Room := { frames := 12, cells := (2 + 5 * c9), slots := (8 + 1579 * c9), locals := 281 }
abbrev rx_L_delete : Room := { frames := 8, cells := 1, slots := 6, locals := 128 }
set_option maxHeartbeats 4000000 in
set_option maxRecDepth 100000 in
theorem l_delete (l : Launch) (G : dk_G) (w : dk_H) (h : Nat) (fs9 : List Value) (o : Nat) (f : Nat → Int64) (c9 : Nat) (k : Int32) (post : Int32 → dk_H → Prop) (hM : dk_Mi l my_K_delete (wd_c my_K_delete mb_K_delete 2 (some .int)) (rm_K_delete c9) G w [.ref h, .int k] post (2 + 5 * c9) (8 + 1579 * c9)) (hh : w h = some (1, .inr (cx_K, fs9))) (ho : w o = some (90, dk_cl G 1 f)) (hfr : ∀ r u, post r u → dk_fr kp_T w u) : dk_Mi l my_L_delete (wd_h my_L_delete mb_L_delete 4 (some .int) [(0, 9, 12, 13), (0, 9, 15, 15)]) (rw_L_delete c9) G w [.ref h, .int k, .ref o] (fun r w1 => r = nI 0 ∧ ∃ (r0 : Int32) (u : dk_H), post r0 u ∧ w1 = va_up u o (some (90, dk_cl G 1 (vp_updL f 0 (r0.toInt64))))) (2 + 5 * c9) (8 + 1579 * c9) := by
  refine dk_enterH (lv := [(0, .ref h), (1, .int k), (2, .ref o)]) (by decide) (Nat.le_of_ble_eq_true rfl) rfl (fun p e s m args below meth c ls Q hQ C hexc hP hS hl => ?_)
  obtain ⟨hx, hb, hr, hml, hlocks, hown, hnm, hts, hE⟩ := C
  have hK := hE.1
  have hN := hE.2.1
  refine lv_aload_n hx hb de_L_delete_0 rfl (lv_at hl 2 rfl) ?_
  refine lv_iconst (v := nI 0) hx hb de_L_delete_1 (by decide) ?_
  refine lv_aload_n hx hb de_L_delete_2 rfl (lv_at hl 0 rfl) ?_
  refine lv_iload_n hx hb de_L_delete_3 rfl (lv_at hl 1 rfl) ?_
  refine dk_calli (va_runV (As := [.int k]) (rest := [.int (nI 0), .ref o]) ⟨hx, hb, hml, hown, hts⟩ hM (cwV 1 hts (wd_gV (C := "RunKeeper") wi_482 wi_479 wi_480 wi_481 wi_1) rfl rfl rfl (by decide +kernel) ⟨Nat.le_of_ble_eq_true rfl, Nat.le_of_ble_eq_true rfl⟩) (dk_preV (kn_K, kt_K, 12) hE hP hS hh rfl) rfl rfl hl.1 rfl (lv_room (Nat.le_of_ble_eq_true rfl)) de_L_delete_4 ⟨(by first | exact Nat.le_of_ble_eq_true rfl | exact Nat.le_of_eq (Nat.zero_add _) | (simp only [Nat.zero_add]; omega) | omega), (by first | exact Nat.le_of_ble_eq_true rfl | exact Nat.le_of_eq (Nat.zero_add _) | (simp only [Nat.zero_add]; omega) | omega)⟩) hS (fun r_8547 w_8545 H locs hq_8546 hP hS => ?_)
  have ho1 : w_8545 o = some (90, dk_cl G 1 f) := hfr _ _ hq_8546 _ _ _ ho (by unfold kp_T; omega)
  refine lv_i2l (v := r_8547.toInt64) hx hb de_L_delete_7 rfl ?_
  refine dk_last (a := o) (x := (r_8547.toInt64)) hx hb hK hP hS ho1 0 rfl (by omega) (by omega) de_L_delete_8 (fun H locs w_8548 hw_8549 hP hS => ?_)
  have h_8550 : w_8548 o = some (90, dk_cl G 1 (vp_updL f 0 (r_8547.toInt64))) := dk_here hw_8549
  refine lv_goto (tgt := 18) hx hb de_L_delete_9 (by decide) ?_
  refine lv_iconst (v := nI 0) hx hb de_L_delete_18 (by decide) ?_
  exact dk_iret hQ hx hb hr hlocks hP hS (by omega) (by omega) (⟨rfl, r_8547, w_8545, hq_8546, hw_8549⟩) de_L_delete_19
set_option maxHeartbeats 4000000 in
set_option maxRecDepth 100000 in
theorem l_delete_1 (l : Launch) (G : dk_G) (w : dk_H) (h : Nat) (fs9 : List Value) (o : Nat) (k : Int32) (post : dk_H → Prop) (hM : dk_Mt l my_K_delete (wd_c my_K_delete mb_K_delete 2 (some .int)) rt_K_delete G w [.ref h, .int k] "java/lang/IllegalArgumentException" post 1 6) (hh : w h = some (1, .inr (cx_K, fs9))) : dk_Mi l my_L_delete (wd_h my_L_delete mb_L_delete 4 (some .int) [(0, 9, 12, 13), (0, 9, 15, 15)]) rx_L_delete G w [.ref h, .int k, .ref o] (fun r w1 => r = nI 1 ∧ post w1) 1 6 := by
  refine dk_enterH (lv := [(0, .ref h), (1, .int k), (2, .ref o)]) (by decide) (Nat.le_of_ble_eq_true rfl) rfl (fun p e s m args below meth c ls Q hQ C hexc hP hS hl => ?_)
  obtain ⟨hx, hb, hr, hml, hlocks, hown, hnm, hts, hE⟩ := C
  have hK := hE.1
  have hN := hE.2.1
  refine lv_aload_n hx hb de_L_delete_0 rfl (lv_at hl 2 rfl) ?_
  refine lv_iconst (v := nI 0) hx hb de_L_delete_1 (by decide) ?_
  refine lv_aload_n hx hb de_L_delete_2 rfl (lv_at hl 0 rfl) ?_
  refine lv_iload_n hx hb de_L_delete_3 rfl (lv_at hl 1 rfl) ?_
  refine dk_catch1 (dk_runT (As := [.int k]) (rest := [.int (nI 0), .ref o]) ⟨hx, hb, hml, hown, hts⟩ hM (cwV 1 hts (wd_gV (C := "RunKeeper") wi_482 wi_479 wi_480 wi_481 wi_1) rfl rfl rfl (by decide +kernel) ⟨Nat.le_of_ble_eq_true rfl, Nat.le_of_ble_eq_true rfl⟩) (dk_preV (kn_K, kt_K, 12) hE hP hS hh rfl) hS rfl rfl hl.1 rfl (lv_room (Nat.le_of_ble_eq_true rfl)) de_L_delete_4 ⟨(by first | exact Nat.le_of_ble_eq_true rfl | exact Nat.le_of_eq (Nat.zero_add _) | (simp only [Nat.zero_add]; omega) | omega), (by first | exact Nat.le_of_ble_eq_true rfl | exact Nat.le_of_eq (Nat.zero_add _) | (simp only [Nat.zero_add]; omega) | omega)⟩) hown hts hexc ⟨by decide, by decide⟩ (by decide) wi_329 (fun x9 w9 H locs hp9 hP hS => ?_)
  refine lv_astore_n (lv' := [(3, .ref x9), (0, .ref h), (1, .int k), (2, .ref o)]) hx hb de_L_delete_12 rfl hl (by decide) rfl (fun ls hl => ?_)
  refine lv_iconst (v := nI 1) hx hb de_L_delete_13 (by decide) ?_
  exact dk_iret hQ hx hb hr hlocks hP hS (by first | exact Nat.le_of_ble_eq_true rfl | omega) (by first | exact Nat.le_of_ble_eq_true rfl | omega) (⟨rfl, hp9⟩) de_L_delete_14
set_option maxHeartbeats 4000000 in
set_option maxRecDepth 100000 in
theorem l_delete_2 (l : Launch) (G : dk_G) (w : dk_H) (h : Nat) (fs9 : List Value) (o : Nat) (k : Int32) (post : dk_H → Prop) (hM : dk_Mt l my_K_delete (wd_c my_K_delete mb_K_delete 2 (some .int)) rt_K_delete G w [.ref h, .int k] "java/lang/IndexOutOfBoundsException" post 1 6) (hh : w h = some (1, .inr (cx_K, fs9))) : dk_Mi l my_L_delete (wd_h my_L_delete mb_L_delete 4 (some .int) [(0, 9, 12, 13), (0, 9, 15, 15)]) rx_L_delete G w [.ref h, .int k, .ref o] (fun r w1 => r = nI 2 ∧ post w1) 1 6 := by
  refine dk_enterH (lv := [(0, .ref h), (1, .int k), (2, .ref o)]) (by decide) (Nat.le_of_ble_eq_true rfl) rfl (fun p e s m args below meth c ls Q hQ C hexc hP hS hl => ?_)
  obtain ⟨hx, hb, hr, hml, hlocks, hown, hnm, hts, hE⟩ := C
  have hK := hE.1
  have hN := hE.2.1
  refine lv_aload_n hx hb de_L_delete_0 rfl (lv_at hl 2 rfl) ?_
  refine lv_iconst (v := nI 0) hx hb de_L_delete_1 (by decide) ?_
  refine lv_aload_n hx hb de_L_delete_2 rfl (lv_at hl 0 rfl) ?_
  refine lv_iload_n hx hb de_L_delete_3 rfl (lv_at hl 1 rfl) ?_
  refine dk_catch2 (dk_runT (As := [.int k]) (rest := [.int (nI 0), .ref o]) ⟨hx, hb, hml, hown, hts⟩ hM (cwV 1 hts (wd_gV (C := "RunKeeper") wi_482 wi_479 wi_480 wi_481 wi_1) rfl rfl rfl (by decide +kernel) ⟨Nat.le_of_ble_eq_true rfl, Nat.le_of_ble_eq_true rfl⟩) (dk_preV (kn_K, kt_K, 12) hE hP hS hh rfl) hS rfl rfl hl.1 rfl (lv_room (Nat.le_of_ble_eq_true rfl)) de_L_delete_4 ⟨(by first | exact Nat.le_of_ble_eq_true rfl | exact Nat.le_of_eq (Nat.zero_add _) | (simp only [Nat.zero_add]; omega) | omega), (by first | exact Nat.le_of_ble_eq_true rfl | exact Nat.le_of_eq (Nat.zero_add _) | (simp only [Nat.zero_add]; omega) | omega)⟩) hown hts hexc ⟨by decide, by decide⟩ ⟨by decide, by decide⟩ (by decide) (by decide) wi_329 wi_330 hE.2.2.1.2.2.2.2.2.1.1 (fun x9 w9 H locs hp9 hP hS => ?_)
  refine lv_astore_n (lv' := [(3, .ref x9), (0, .ref h), (1, .int k), (2, .ref o)]) hx hb de_L_delete_15 rfl hl (by decide) rfl (fun ls hl => ?_)
  refine lv_iconst (v := nI 2) hx hb de_L_delete_16 (by decide) ?_
  exact dk_iret hQ hx hb hr hlocks hP hS (by first | exact Nat.le_of_ble_eq_true rfl | omega) (by first | exact Nat.le_of_ble_eq_true rfl | omega) (⟨rfl, hp9⟩) de_L_delete_17
theorem cwi_batch : Cond.codeWith my_L_batch mb_L_batch 2 (some .int) [(0, 4, 7, 24)] ∈ wd_all := wd_m 485 (by decide +kernel) (by decide +kernel)
abbrev rw_L_batch : Room := { frames := 1, cells := 0, slots := 0, locals := 20 }
abbrev rx_L_batch : Room := { frames := 7, cells := 1, slots := 6, locals := 102 }
set_option maxHeartbeats 4000000 in
set_option maxRecDepth 100000 in
theorem l_batch (l : Launch) (G : dk_G) (w : dk_H) (h : Nat) (fs9 : List Value) (post : dk_H → Prop) (hM : dk_Mv l my_K_batch (wd_c my_K_batch mb_K_batch 1 none) rm_K_batch G w [.ref h] post 0 0) (hh : w h = some (1, .inr (cx_K, fs9))) : dk_Mi l my_L_batch (wd_h my_L_batch mb_L_batch 2 (some .int) [(0, 4, 7, 24)]) rw_L_batch G w [.ref h] (fun r w1 => r = nI 0 ∧ post w1) 0 0 := by
  refine dk_enterH (lv := [(0, .ref h)]) (by decide) (Nat.le_of_ble_eq_true rfl) rfl (fun p e s m args below meth c ls Q hQ C hexc hP hS hl => ?_)
  obtain ⟨hx, hb, hr, hml, hlocks, hown, hnm, hts, hE⟩ := C
  have hK := hE.1
  have hN := hE.2.1
  refine lv_aload_n hx hb de_L_batch_0 rfl (lv_at hl 0 rfl) ?_
  refine dk_callv (va_runV (As := []) (rest := []) ⟨hx, hb, hml, hown, hts⟩ hM (cwV 0 hts (wd_gV (C := "RunKeeper") wi_490 wi_487 wi_488 wi_489 wi_1) rfl rfl rfl (by decide +kernel) ⟨Nat.le_of_ble_eq_true rfl, Nat.le_of_ble_eq_true rfl⟩) (dk_preV (kn_K, kt_K, 12) hE hP hS hh rfl) rfl rfl hl.1 rfl (lv_room (Nat.le_of_ble_eq_true rfl)) de_L_batch_1 ⟨(by first | exact Nat.le_of_ble_eq_true rfl | exact Nat.le_of_eq (Nat.zero_add _) | (simp only [Nat.zero_add]; omega) | omega), (by first | exact Nat.le_of_ble_eq_true rfl | exact Nat.le_of_eq (Nat.zero_add _) | (simp only [Nat.zero_add]; omega) | omega)⟩) hS (fun w_8551 H locs hq_8552 hP hS => ?_)
  refine lv_goto (tgt := 10) hx hb de_L_batch_4 (by decide) ?_
  refine lv_iconst (v := nI 0) hx hb de_L_batch_10 (by decide) ?_
  exact dk_iret hQ hx hb hr hlocks hP hS (by omega) (by omega) (⟨rfl, hq_8552⟩) de_L_batch_11
set_option maxHeartbeats 4000000 in
set_option maxRecDepth 100000 in
theorem l_batch_1 (l : Launch) (G : dk_G) (w : dk_H) (h : Nat) (fs9 : List Value) (post : dk_H → Prop) (hM : dk_Mt l my_K_batch (wd_c my_K_batch mb_K_batch 1 none) rt_K_batch G w [.ref h] "java/lang/IllegalStateException" post 1 6) (hh : w h = some (1, .inr (cx_K, fs9))) : dk_Mi l my_L_batch (wd_h my_L_batch mb_L_batch 2 (some .int) [(0, 4, 7, 24)]) rx_L_batch G w [.ref h] (fun r w1 => r = nI 1 ∧ post w1) 1 6 := by
  refine dk_enterH (lv := [(0, .ref h)]) (by decide) (Nat.le_of_ble_eq_true rfl) rfl (fun p e s m args below meth c ls Q hQ C hexc hP hS hl => ?_)
  obtain ⟨hx, hb, hr, hml, hlocks, hown, hnm, hts, hE⟩ := C
  have hK := hE.1
  have hN := hE.2.1
  refine lv_aload_n hx hb de_L_batch_0 rfl (lv_at hl 0 rfl) ?_
  refine dk_catch1 (dk_runT (As := []) (rest := []) ⟨hx, hb, hml, hown, hts⟩ hM (cwV 0 hts (wd_gV (C := "RunKeeper") wi_490 wi_487 wi_488 wi_489 wi_1) rfl rfl rfl (by decide +kernel) ⟨Nat.le_of_ble_eq_true rfl, Nat.le_of_ble_eq_true rfl⟩) (dk_preV (kn_K, kt_K, 12) hE hP hS hh rfl) hS rfl rfl hl.1 rfl (lv_room (Nat.le_of_ble_eq_true rfl)) de_L_batch_1 ⟨(by first | exact Nat.le_of_ble_eq_true rfl | exact Nat.le_of_eq (Nat.zero_add _) | (simp only [Nat.zero_add]; omega) | omega), (by first | exact Nat.le_of_ble_eq_true rfl | exact Nat.le_of_eq (Nat.zero_add _) | (simp only [Nat.zero_add]; omega) | omega)⟩) hown hts hexc ⟨by decide, by decide⟩ (by decide) wi_486 (fun x9 w9 H locs hp9 hP hS => ?_)
  refine lv_astore_n (lv' := [(1, .ref x9), (0, .ref h)]) hx hb de_L_batch_7 rfl hl (by decide) rfl (fun ls hl => ?_)
  refine lv_iconst (v := nI 1) hx hb de_L_batch_8 (by decide) ?_
  exact dk_iret hQ hx hb hr hlocks hP hS (by first | exact Nat.le_of_ble_eq_true rfl | omega) (by first | exact Nat.le_of_ble_eq_true rfl | omega) (⟨rfl, hp9⟩) de_L_batch_9
theorem cwi_end : Cond.codeWith my_L_end mb_L_end 4 (some .int) [(0, 9, 12, 24), (0, 9, 15, 15)] ∈ wd_all := wd_m 509 (by decide +kernel) (by decide +kernel)
abbrev rw_L_end (c9 : Nat) : Room := { frames := 11, cells := (c9 + 5), slots := (4 * c9 + 1579), locals := 258 }
abbrev rx_L_end : Room := { frames := 7, cells := 1, slots := 6, locals := 105 }
set_option maxHeartbeats 4000000 in
set_option maxRecDepth 100000 in
theorem l_end (l : Launch) (G : dk_G) (w : dk_H) (h : Nat) (fs9 : List Value) (o : Nat) (f : Nat → Int64) (c9 : Nat) (b : Bool) (post : Int32 → dk_H → Prop) (hM : dk_Mi l my_K_end (wd_c my_K_end mb_K_end 4 (some .int)) (rm_K_end c9) G w [.ref h, .int (bo_i b)] post (c9 + 5) (4 * c9 + 1579)) (hh : w h = some (1, .inr (cx_K, fs9))) (ho : w o = some (90, dk_cl G 1 f)) (hfr : ∀ r u, post r u → dk_fr kp_T w u) : dk_Mi l my_L_end (wd_h my_L_end mb_L_end 4 (some .int) [(0, 9, 12, 24), (0, 9, 15, 15)]) (rw_L_end c9) G w [.ref h, .int (bo_i b), .ref o] (fun r w1 => r = nI 0 ∧ ∃ (r0 : Int32) (u : dk_H), post r0 u ∧ w1 = va_up u o (some (90, dk_cl G 1 (vp_updL f 0 (r0.toInt64))))) (c9 + 5) (4 * c9 + 1579) := by
  refine dk_enterH (lv := [(0, .ref h), (1, .int (bo_i b)), (2, .ref o)]) (by decide) (Nat.le_of_ble_eq_true rfl) rfl (fun p e s m args below meth c ls Q hQ C hexc hP hS hl => ?_)
  obtain ⟨hx, hb, hr, hml, hlocks, hown, hnm, hts, hE⟩ := C
  have hK := hE.1
  have hN := hE.2.1
  refine lv_aload_n hx hb de_L_end_0 rfl (lv_at hl 2 rfl) ?_
  refine lv_iconst (v := nI 0) hx hb de_L_end_1 (by decide) ?_
  refine lv_aload_n hx hb de_L_end_2 rfl (lv_at hl 0 rfl) ?_
  refine lv_iload_n hx hb de_L_end_3 rfl (lv_at hl 1 rfl) ?_
  refine dk_calli (va_runV (As := [.int (bo_i b)]) (rest := [.int (nI 0), .ref o]) ⟨hx, hb, hml, hown, hts⟩ hM (cwV 1 hts (wd_gV (C := "RunKeeper") wi_513 wi_510 wi_511 wi_512 wi_1) rfl rfl rfl (by decide +kernel) ⟨Nat.le_of_ble_eq_true rfl, Nat.le_of_ble_eq_true rfl⟩) (dk_preV (kn_K, kt_K, 12) hE hP hS hh rfl) rfl rfl hl.1 rfl (lv_room (Nat.le_of_ble_eq_true rfl)) de_L_end_4 ⟨(by first | exact Nat.le_of_ble_eq_true rfl | exact Nat.le_of_eq (Nat.zero_add _) | (simp only [Nat.zero_add]; omega) | omega), (by first | exact Nat.le_of_ble_eq_true rfl | exact Nat.le_of_eq (Nat.zero_add _) | (simp only [Nat.zero_add]; omega) | omega)⟩) hS (fun r_8556 w_8554 H locs hq_8555 hP hS => ?_)
  have ho1 : w_8554 o = some (90, dk_cl G 1 f) := hfr _ _ hq_8555 _ _ _ ho (by unfold kp_T; omega)
  refine lv_i2l (v := r_8556.toInt64) hx hb de_L_end_7 rfl ?_
  refine dk_last (a := o) (x := (r_8556.toInt64)) hx hb hK hP hS ho1 0 rfl (by omega) (by omega) de_L_end_8 (fun H locs w_8557 hw_8558 hP hS => ?_)
  have h_8559 : w_8557 o = some (90, dk_cl G 1 (vp_updL f 0 (r_8556.toInt64))) := dk_here hw_8558
  refine lv_goto (tgt := 18) hx hb de_L_end_9 (by decide) ?_
  refine lv_iconst (v := nI 0) hx hb de_L_end_18 (by decide) ?_
  exact dk_iret hQ hx hb hr hlocks hP hS (by omega) (by omega) (⟨rfl, r_8556, w_8554, hq_8555, hw_8558⟩) de_L_end_19
set_option maxHeartbeats 4000000 in
set_option maxRecDepth 100000 in
theorem l_end_1 (l : Launch) (G : dk_G) (w : dk_H) (h : Nat) (fs9 : List Value) (o : Nat) (b : Bool) (post : dk_H → Prop) (hM : dk_Mt l my_K_end (wd_c my_K_end mb_K_end 4 (some .int)) rt_K_end G w [.ref h, .int (bo_i b)] "java/lang/IllegalStateException" post 1 6) (hh : w h = some (1, .inr (cx_K, fs9))) : dk_Mi l my_L_end (wd_h my_L_end mb_L_end 4 (some .int) [(0, 9, 12, 24), (0, 9, 15, 15)]) rx_L_end G w [.ref h, .int (bo_i b), .ref o] (fun r w1 => r = nI 1 ∧ post w1) 1 6 := by
  refine dk_enterH (lv := [(0, .ref h), (1, .int (bo_i b)), (2, .ref o)]) (by decide) (Nat.le_of_ble_eq_true rfl) rfl (fun p e s m args below meth c ls Q hQ C hexc hP hS hl => ?_)
  obtain ⟨hx, hb, hr, hml, hlocks, hown, hnm, hts, hE⟩ := C
  have hK := hE.1
  have hN := hE.2.1
  refine lv_aload_n hx hb de_L_end_0 rfl (lv_at hl 2 rfl) ?_
  refine lv_iconst (v := nI 0) hx hb de_L_end_1 (by decide) ?_
  refine lv_aload_n hx hb de_L_end_2 rfl (lv_at hl 0 rfl) ?_
  refine lv_iload_n hx hb de_L_end_3 rfl (lv_at hl 1 rfl) ?_
  refine dk_catch1 (dk_runT (As := [.int (bo_i b)]) (rest := [.int (nI 0), .ref o]) ⟨hx, hb, hml, hown, hts⟩ hM (cwV 1 hts (wd_gV (C := "RunKeeper") wi_513 wi_510 wi_511 wi_512 wi_1) rfl rfl rfl (by decide +kernel) ⟨Nat.le_of_ble_eq_true rfl, Nat.le_of_ble_eq_true rfl⟩) (dk_preV (kn_K, kt_K, 12) hE hP hS hh rfl) hS rfl rfl hl.1 rfl (lv_room (Nat.le_of_ble_eq_true rfl)) de_L_end_4 ⟨(by first | exact Nat.le_of_ble_eq_true rfl | exact Nat.le_of_eq (Nat.zero_add _) | (simp only [Nat.zero_add]; omega) | omega), (by first | exact Nat.le_of_ble_eq_true rfl | exact Nat.le_of_eq (Nat.zero_add _) | (simp only [Nat.zero_add]; omega) | omega)⟩) hown hts hexc ⟨by decide, by decide⟩ (by decide) wi_486 (fun x9 w9 H locs hp9 hP hS => ?_)
  refine lv_astore_n (lv' := [(3, .ref x9), (0, .ref h), (1, .int (bo_i b)), (2, .ref o)]) hx hb de_L_end_12 rfl hl (by decide) rfl (fun ls hl => ?_)
  refine lv_iconst (v := nI 1) hx hb de_L_end_13 (by decide) ?_
  exact dk_iret hQ hx hb hr hlocks hP hS (by first | exact Nat.le_of_ble_eq_true rfl | omega) (by first | exact Nat.le_of_ble_eq_true rfl | omega) (⟨rfl, hp9⟩) de_L_end_14
set_option maxHeartbeats 4000000 in
set_option maxRecDepth 100000 in
theorem l_end_2 (l : Launch) (G : dk_G) (w : dk_H) (h : Nat) (fs9 : List Value) (o : Nat) (b : Bool) (post : dk_H → Prop) (hM : dk_Mt l my_K_end (wd_c my_K_end mb_K_end 4 (some .int)) rt_K_end G w [.ref h, .int (bo_i b)] "java/lang/IndexOutOfBoundsException" post 1 6) (hh : w h = some (1, .inr (cx_K, fs9))) : dk_Mi l my_L_end (wd_h my_L_end mb_L_end 4 (some .int) [(0, 9, 12, 24), (0, 9, 15, 15)]) rx_L_end G w [.ref h, .int (bo_i b), .ref o] (fun r w1 => r = nI 2 ∧ post w1) 1 6 := by
  refine dk_enterH (lv := [(0, .ref h), (1, .int (bo_i b)), (2, .ref o)]) (by decide) (Nat.le_of_ble_eq_true rfl) rfl (fun p e s m args below meth c ls Q hQ C hexc hP hS hl => ?_)
  obtain ⟨hx, hb, hr, hml, hlocks, hown, hnm, hts, hE⟩ := C
  have hK := hE.1
  have hN := hE.2.1
  refine lv_aload_n hx hb de_L_end_0 rfl (lv_at hl 2 rfl) ?_
  refine lv_iconst (v := nI 0) hx hb de_L_end_1 (by decide) ?_
  refine lv_aload_n hx hb de_L_end_2 rfl (lv_at hl 0 rfl) ?_
  refine lv_iload_n hx hb de_L_end_3 rfl (lv_at hl 1 rfl) ?_
  refine dk_catch2 (dk_runT (As := [.int (bo_i b)]) (rest := [.int (nI 0), .ref o]) ⟨hx, hb, hml, hown, hts⟩ hM (cwV 1 hts (wd_gV (C := "RunKeeper") wi_513 wi_510 wi_511 wi_512 wi_1) rfl rfl rfl (by decide +kernel) ⟨Nat.le_of_ble_eq_true rfl, Nat.le_of_ble_eq_true rfl⟩) (dk_preV (kn_K, kt_K, 12) hE hP hS hh rfl) hS rfl rfl hl.1 rfl (lv_room (Nat.le_of_ble_eq_true rfl)) de_L_end_4 ⟨(by first | exact Nat.le_of_ble_eq_true rfl | exact Nat.le_of_eq (Nat.zero_add _) | (simp only [Nat.zero_add]; omega) | omega), (by first | exact Nat.le_of_ble_eq_true rfl | exact Nat.le_of_eq (Nat.zero_add _) | (simp only [Nat.zero_add]; omega) | omega)⟩) hown hts hexc ⟨by decide, by decide⟩ ⟨by decide, by decide⟩ (by decide) (by decide) wi_486 wi_330 hE.2.2.1.2.2.2.2.2.1.2.1 (fun x9 w9 H locs hp9 hP hS => ?_)
  refine lv_astore_n (lv' := [(3, .ref x9), (0, .ref h), (1, .int (bo_i b)), (2, .ref o)]) hx hb de_L_end_15 rfl hl (by decide) rfl (fun ls hl => ?_)
  refine lv_iconst (v := nI 2) hx hb de_L_end_16 (by decide) ?_
  exact dk_iret hQ hx hb hr hlocks hP hS (by first | exact Nat.le_of_ble_eq_true rfl | omega) (by first | exact Nat.le_of_ble_eq_true rfl | omega) (⟨rfl, hp9⟩) de_L_end_17
theorem cwi_merge : Cond.codeWith my_L_merge mb_L_merge 4 (some .int) [(0, 9, 12, 13)] ∈ wd_all := wd_m 519 (by decide +kernel) (by decide +kernel)
abbrev rw_L_merge (c9 : Nat) : Room := { frames := 11, cells := (5 * c9), slots := (1579 * c9), locals := 258 }
abbrev rx_L_merge : Room := { frames := 7, cells := 1, slots := 6, locals := 104 }
set_option maxHeartbeats 4000000 in
set_option maxRecDepth 100000 in
theorem l_merge (l : Launch) (G : dk_G) (w : dk_H) (h : Nat) (fs9 : List Value) (o : Nat) (f : Nat → Int64) (c9 : Nat) (k : Int32) (post : Int32 → dk_H → Prop) (hM : dk_Mi l my_K_merge (wd_c my_K_merge mb_K_merge 3 (some .int)) (rm_K_merge c9) G w [.ref h, .int k] post (5 * c9) (1579 * c9)) (hh : w h = some (1, .inr (cx_K, fs9))) (ho : w o = some (90, dk_cl G 1 f)) (hfr : ∀ r u, post r u → dk_fr kp_T w u) : dk_Mi l my_L_merge (wd_h my_L_merge mb_L_merge 4 (some .int) [(0, 9, 12, 13)]) (rw_L_merge c9) G w [.ref h, .int k, .ref o] (fun r w1 => r = nI 0 ∧ ∃ (r0 : Int32) (u : dk_H), post r0 u ∧ w1 = va_up u o (some (90, dk_cl G 1 (vp_updL f 0 (r0.toInt64))))) (5 * c9) (1579 * c9) := by
  refine dk_enterH (lv := [(0, .ref h), (1, .int k), (2, .ref o)]) (by decide) (Nat.le_of_ble_eq_true rfl) rfl (fun p e s m args below meth c ls Q hQ C hexc hP hS hl => ?_)
  obtain ⟨hx, hb, hr, hml, hlocks, hown, hnm, hts, hE⟩ := C
  have hK := hE.1
  have hN := hE.2.1
  refine lv_aload_n hx hb de_L_merge_0 rfl (lv_at hl 2 rfl) ?_
  refine lv_iconst (v := nI 0) hx hb de_L_merge_1 (by decide) ?_
  refine lv_aload_n hx hb de_L_merge_2 rfl (lv_at hl 0 rfl) ?_
  refine lv_iload_n hx hb de_L_merge_3 rfl (lv_at hl 1 rfl) ?_
  refine dk_calli (va_runV (As := [.int k]) (rest := [.int (nI 0), .ref o]) ⟨hx, hb, hml, hown, hts⟩ hM (cwV 1 hts (wd_gV (C := "RunKeeper") wi_523 wi_520 wi_521 wi_522 wi_1) rfl rfl rfl (by decide +kernel) ⟨Nat.le_of_ble_eq_true rfl, Nat.le_of_ble_eq_true rfl⟩) (dk_preV (kn_K, kt_K, 12) hE hP hS hh rfl) rfl rfl hl.1 rfl (lv_room (Nat.le_of_ble_eq_true rfl)) de_L_merge_4 ⟨(by first | exact Nat.le_of_ble_eq_true rfl | exact Nat.le_of_eq (Nat.zero_add _) | (simp only [Nat.zero_add]; omega) | omega), (by first | exact Nat.le_of_ble_eq_true rfl | exact Nat.le_of_eq (Nat.zero_add _) | (simp only [Nat.zero_add]; omega) | omega)⟩) hS (fun r_8562 w_8560 H locs hq_8561 hP hS => ?_)
  have ho1 : w_8560 o = some (90, dk_cl G 1 f) := hfr _ _ hq_8561 _ _ _ ho (by unfold kp_T; omega)
  refine lv_i2l (v := r_8562.toInt64) hx hb de_L_merge_7 rfl ?_
  refine dk_last (a := o) (x := (r_8562.toInt64)) hx hb hK hP hS ho1 0 rfl (by omega) (by omega) de_L_merge_8 (fun H locs w_8563 hw_8564 hP hS => ?_)
  have h_8565 : w_8563 o = some (90, dk_cl G 1 (vp_updL f 0 (r_8562.toInt64))) := dk_here hw_8564
  refine lv_goto (tgt := 15) hx hb de_L_merge_9 (by decide) ?_
  refine lv_iconst (v := nI 0) hx hb de_L_merge_15 (by decide) ?_
  exact dk_iret hQ hx hb hr hlocks hP hS (by omega) (by omega) (⟨rfl, r_8562, w_8560, hq_8561, hw_8564⟩) de_L_merge_16
set_option maxHeartbeats 4000000 in
set_option maxRecDepth 100000 in
theorem l_merge_1 (l : Launch) (G : dk_G) (w : dk_H) (h : Nat) (fs9 : List Value) (o : Nat) (k : Int32) (post : dk_H → Prop) (hM : dk_Mt l my_K_merge (wd_c my_K_merge mb_K_merge 3 (some .int)) rt_K_merge G w [.ref h, .int k] "java/lang/IllegalArgumentException" post 1 6) (hh : w h = some (1, .inr (cx_K, fs9))) : dk_Mi l my_L_merge (wd_h my_L_merge mb_L_merge 4 (some .int) [(0, 9, 12, 13)]) rx_L_merge G w [.ref h, .int k, .ref o] (fun r w1 => r = nI 1 ∧ post w1) 1 6 := by
  refine dk_enterH (lv := [(0, .ref h), (1, .int k), (2, .ref o)]) (by decide) (Nat.le_of_ble_eq_true rfl) rfl (fun p e s m args below meth c ls Q hQ C hexc hP hS hl => ?_)
  obtain ⟨hx, hb, hr, hml, hlocks, hown, hnm, hts, hE⟩ := C
  have hK := hE.1
  have hN := hE.2.1
  refine lv_aload_n hx hb de_L_merge_0 rfl (lv_at hl 2 rfl) ?_
  refine lv_iconst (v := nI 0) hx hb de_L_merge_1 (by decide) ?_
  refine lv_aload_n hx hb de_L_merge_2 rfl (lv_at hl 0 rfl) ?_
  refine lv_iload_n hx hb de_L_merge_3 rfl (lv_at hl 1 rfl) ?_
  refine dk_catch1 (dk_runT (As := [.int k]) (rest := [.int (nI 0), .ref o]) ⟨hx, hb, hml, hown, hts⟩ hM (cwV 1 hts (wd_gV (C := "RunKeeper") wi_523 wi_520 wi_521 wi_522 wi_1) rfl rfl rfl (by decide +kernel) ⟨Nat.le_of_ble_eq_true rfl, Nat.le_of_ble_eq_true rfl⟩) (dk_preV (kn_K, kt_K, 12) hE hP hS hh rfl) hS rfl rfl hl.1 rfl (lv_room (Nat.le_of_ble_eq_true rfl)) de_L_merge_4 ⟨(by first | exact Nat.le_of_ble_eq_true rfl | exact Nat.le_of_eq (Nat.zero_add _) | (simp only [Nat.zero_add]; omega) | omega), (by first | exact Nat.le_of_ble_eq_true rfl | exact Nat.le_of_eq (Nat.zero_add _) | (simp only [Nat.zero_add]; omega) | omega)⟩) hown hts hexc ⟨by decide, by decide⟩ (by decide) wi_329 (fun x9 w9 H locs hp9 hP hS => ?_)
  refine lv_astore_n (lv' := [(3, .ref x9), (0, .ref h), (1, .int k), (2, .ref o)]) hx hb de_L_merge_12 rfl hl (by decide) rfl (fun ls hl => ?_)
  refine lv_iconst (v := nI 1) hx hb de_L_merge_13 (by decide) ?_
  exact dk_iret hQ hx hb hr hlocks hP hS (by first | exact Nat.le_of_ble_eq_true rfl | omega) (by first | exact Nat.le_of_ble_eq_true rfl | omega) (⟨rfl, hp9⟩) de_L_merge_14
theorem cwi_snapshot : Cond.codeWith my_L_snapshot mb_L_snapshot 3 (some .int) [(0, 8, 11, 15)] ∈ wd_all := wd_m 571 (by decide +kernel) (by decide +kernel)
abbrev rw_L_snapshot : Room := { frames := 2, cells := 0, slots := 0, locals := 43 }
abbrev rx_L_snapshot : Room := { frames := 7, cells := 1, slots := 6, locals := 103 }
set_option maxHeartbeats 4000000 in
set_option maxRecDepth 100000 in
theorem l_snapshot (l : Launch) (G : dk_G) (w : dk_H) (h : Nat) (fs9 : List Value) (o : Nat) (f : Nat → Int64) (post : Int32 → dk_H → Prop) (hM : dk_Mi l my_K_snapshot (wd_c my_K_snapshot mb_K_snapshot 2 (some .int)) rm_K_snapshot G w [.ref h] post 0 0) (hh : w h = some (1, .inr (cx_K, fs9))) (ho : w o = some (90, dk_cl G 1 f)) (hfr : ∀ r u, post r u → dk_fr kp_T w u) : dk_Mi l my_L_snapshot (wd_h my_L_snapshot mb_L_snapshot 3 (some .int) [(0, 8, 11, 15)]) rw_L_snapshot G w [.ref h, .ref o] (fun r w1 => r = nI 0 ∧ ∃ (r0 : Int32) (u : dk_H), post r0 u ∧ w1 = va_up u o (some (90, dk_cl G 1 (vp_updL f 0 (r0.toInt64))))) 0 0 := by
  refine dk_enterH (lv := [(0, .ref h), (1, .ref o)]) (by decide) (Nat.le_of_ble_eq_true rfl) rfl (fun p e s m args below meth c ls Q hQ C hexc hP hS hl => ?_)
  obtain ⟨hx, hb, hr, hml, hlocks, hown, hnm, hts, hE⟩ := C
  have hK := hE.1
  have hN := hE.2.1
  refine lv_aload_n hx hb de_L_snapshot_0 rfl (lv_at hl 1 rfl) ?_
  refine lv_iconst (v := nI 0) hx hb de_L_snapshot_1 (by decide) ?_
  refine lv_aload_n hx hb de_L_snapshot_2 rfl (lv_at hl 0 rfl) ?_
  refine dk_calli (va_runV (As := []) (rest := [.int (nI 0), .ref o]) ⟨hx, hb, hml, hown, hts⟩ hM (cwV 0 hts (wd_gV (C := "RunKeeper") wi_575 wi_572 wi_573 wi_574 wi_1) rfl rfl rfl (by decide +kernel) ⟨Nat.le_of_ble_eq_true rfl, Nat.le_of_ble_eq_true rfl⟩) (dk_preV (kn_K, kt_K, 12) hE hP hS hh rfl) rfl rfl hl.1 rfl (lv_room (Nat.le_of_ble_eq_true rfl)) de_L_snapshot_3 ⟨(by first | exact Nat.le_of_ble_eq_true rfl | exact Nat.le_of_eq (Nat.zero_add _) | (simp only [Nat.zero_add]; omega) | omega), (by first | exact Nat.le_of_ble_eq_true rfl | exact Nat.le_of_eq (Nat.zero_add _) | (simp only [Nat.zero_add]; omega) | omega)⟩) hS (fun r_8568 w_8566 H locs hq_8567 hP hS => ?_)
  have ho1 : w_8566 o = some (90, dk_cl G 1 f) := hfr _ _ hq_8567 _ _ _ ho (by unfold kp_T; omega)
  refine lv_i2l (v := r_8568.toInt64) hx hb de_L_snapshot_6 rfl ?_
  refine dk_last (a := o) (x := (r_8568.toInt64)) hx hb hK hP hS ho1 0 rfl (by omega) (by omega) de_L_snapshot_7 (fun H locs w_8569 hw_8570 hP hS => ?_)
  have h_8571 : w_8569 o = some (90, dk_cl G 1 (vp_updL f 0 (r_8568.toInt64))) := dk_here hw_8570
  refine lv_goto (tgt := 14) hx hb de_L_snapshot_8 (by decide) ?_
  refine lv_iconst (v := nI 0) hx hb de_L_snapshot_14 (by decide) ?_
  exact dk_iret hQ hx hb hr hlocks hP hS (by omega) (by omega) (⟨rfl, r_8568, w_8566, hq_8567, hw_8570⟩) de_L_snapshot_15
set_option maxHeartbeats 4000000 in
set_option maxRecDepth 100000 in
theorem l_snapshot_1 (l : Launch) (G : dk_G) (w : dk_H) (h : Nat) (fs9 : List Value) (o : Nat) (post : dk_H → Prop) (hM : dk_Mt l my_K_snapshot (wd_c my_K_snapshot mb_K_snapshot 2 (some .int)) rt_K_snapshot G w [.ref h] "java/lang/IndexOutOfBoundsException" post 1 6) (hh : w h = some (1, .inr (cx_K, fs9))) : dk_Mi l my_L_snapshot (wd_h my_L_snapshot mb_L_snapshot 3 (some .int) [(0, 8, 11, 15)]) rx_L_snapshot G w [.ref h, .ref o] (fun r w1 => r = nI 1 ∧ post w1) 1 6 := by
  refine dk_enterH (lv := [(0, .ref h), (1, .ref o)]) (by decide) (Nat.le_of_ble_eq_true rfl) rfl (fun p e s m args below meth c ls Q hQ C hexc hP hS hl => ?_)
  obtain ⟨hx, hb, hr, hml, hlocks, hown, hnm, hts, hE⟩ := C
  have hK := hE.1
  have hN := hE.2.1
  refine lv_aload_n hx hb de_L_snapshot_0 rfl (lv_at hl 1 rfl) ?_
  refine lv_iconst (v := nI 0) hx hb de_L_snapshot_1 (by decide) ?_
  refine lv_aload_n hx hb de_L_snapshot_2 rfl (lv_at hl 0 rfl) ?_
  refine dk_catch1 (dk_runT (As := []) (rest := [.int (nI 0), .ref o]) ⟨hx, hb, hml, hown, hts⟩ hM (cwV 0 hts (wd_gV (C := "RunKeeper") wi_575 wi_572 wi_573 wi_574 wi_1) rfl rfl rfl (by decide +kernel) ⟨Nat.le_of_ble_eq_true rfl, Nat.le_of_ble_eq_true rfl⟩) (dk_preV (kn_K, kt_K, 12) hE hP hS hh rfl) hS rfl rfl hl.1 rfl (lv_room (Nat.le_of_ble_eq_true rfl)) de_L_snapshot_3 ⟨(by first | exact Nat.le_of_ble_eq_true rfl | exact Nat.le_of_eq (Nat.zero_add _) | (simp only [Nat.zero_add]; omega) | omega), (by first | exact Nat.le_of_ble_eq_true rfl | exact Nat.le_of_eq (Nat.zero_add _) | (simp only [Nat.zero_add]; omega) | omega)⟩) hown hts hexc ⟨by decide, by decide⟩ (by decide) wi_330 (fun x9 w9 H locs hp9 hP hS => ?_)
  refine lv_astore_n (lv' := [(2, .ref x9), (0, .ref h), (1, .ref o)]) hx hb de_L_snapshot_11 rfl hl (by decide) rfl (fun ls hl => ?_)
  refine lv_iconst (v := nI 1) hx hb de_L_snapshot_12 (by decide) ?_
  exact dk_iret hQ hx hb hr hlocks hP hS (by first | exact Nat.le_of_ble_eq_true rfl | omega) (by first | exact Nat.le_of_ble_eq_true rfl | omega) (⟨rfl, hp9⟩) de_L_snapshot_13
theorem cwi_release : Cond.codeWith my_L_release mb_L_release 3 (some .int) [(0, 5, 8, 13)] ∈ wd_all := wd_m 587 (by decide +kernel) (by decide +kernel)
abbrev rw_L_release : Room := { frames := 3, cells := 0, slots := 0, locals := 63 }
abbrev rx_L_release : Room := { frames := 7, cells := 1, slots := 6, locals := 103 }
set_option maxHeartbeats 4000000 in
set_option maxRecDepth 100000 in
theorem l_release (l : Launch) (G : dk_G) (w : dk_H) (h : Nat) (fs9 : List Value) (k : Int32) (post : dk_H → Prop) (hM : dk_Mv l my_K_release (wd_c my_K_release mb_K_release 2 none) rm_K_release G w [.ref h, .int k] post 0 0) (hh : w h = some (1, .inr (cx_K, fs9))) : dk_Mi l my_L_release (wd_h my_L_release mb_L_release 3 (some .int) [(0, 5, 8, 13)]) rw_L_release G w [.ref h, .int k] (fun r w1 => r = nI 0 ∧ post w1) 0 0 := by
  refine dk_enterH (lv := [(0, .ref h), (1, .int k)]) (by decide) (Nat.le_of_ble_eq_true rfl) rfl (fun p e s m args below meth c ls Q hQ C hexc hP hS hl => ?_)
  obtain ⟨hx, hb, hr, hml, hlocks, hown, hnm, hts, hE⟩ := C
  have hK := hE.1
  have hN := hE.2.1
  refine lv_aload_n hx hb de_L_release_0 rfl (lv_at hl 0 rfl) ?_
  refine lv_iload_n hx hb de_L_release_1 rfl (lv_at hl 1 rfl) ?_
  refine dk_callv (va_runV (As := [.int k]) (rest := []) ⟨hx, hb, hml, hown, hts⟩ hM (cwV 1 hts (wd_gV (C := "RunKeeper") wi_591 wi_588 wi_589 wi_590 wi_1) rfl rfl rfl (by decide +kernel) ⟨Nat.le_of_ble_eq_true rfl, Nat.le_of_ble_eq_true rfl⟩) (dk_preV (kn_K, kt_K, 12) hE hP hS hh rfl) rfl rfl hl.1 rfl (lv_room (Nat.le_of_ble_eq_true rfl)) de_L_release_2 ⟨(by first | exact Nat.le_of_ble_eq_true rfl | exact Nat.le_of_eq (Nat.zero_add _) | (simp only [Nat.zero_add]; omega) | omega), (by first | exact Nat.le_of_ble_eq_true rfl | exact Nat.le_of_eq (Nat.zero_add _) | (simp only [Nat.zero_add]; omega) | omega)⟩) hS (fun w_8572 H locs hq_8573 hP hS => ?_)
  refine lv_goto (tgt := 11) hx hb de_L_release_5 (by decide) ?_
  refine lv_iconst (v := nI 0) hx hb de_L_release_11 (by decide) ?_
  exact dk_iret hQ hx hb hr hlocks hP hS (by omega) (by omega) (⟨rfl, hq_8573⟩) de_L_release_12
set_option maxHeartbeats 4000000 in
set_option maxRecDepth 100000 in
theorem l_release_1 (l : Launch) (G : dk_G) (w : dk_H) (h : Nat) (fs9 : List Value) (k : Int32) (post : dk_H → Prop) (hM : dk_Mt l my_K_release (wd_c my_K_release mb_K_release 2 none) rt_K_release G w [.ref h, .int k] "java/lang/IllegalArgumentException" post 1 6) (hh : w h = some (1, .inr (cx_K, fs9))) : dk_Mi l my_L_release (wd_h my_L_release mb_L_release 3 (some .int) [(0, 5, 8, 13)]) rx_L_release G w [.ref h, .int k] (fun r w1 => r = nI 1 ∧ post w1) 1 6 := by
  refine dk_enterH (lv := [(0, .ref h), (1, .int k)]) (by decide) (Nat.le_of_ble_eq_true rfl) rfl (fun p e s m args below meth c ls Q hQ C hexc hP hS hl => ?_)
  obtain ⟨hx, hb, hr, hml, hlocks, hown, hnm, hts, hE⟩ := C
  have hK := hE.1
  have hN := hE.2.1
  refine lv_aload_n hx hb de_L_release_0 rfl (lv_at hl 0 rfl) ?_
  refine lv_iload_n hx hb de_L_release_1 rfl (lv_at hl 1 rfl) ?_
  refine dk_catch1 (dk_runT (As := [.int k]) (rest := []) ⟨hx, hb, hml, hown, hts⟩ hM (cwV 1 hts (wd_gV (C := "RunKeeper") wi_591 wi_588 wi_589 wi_590 wi_1) rfl rfl rfl (by decide +kernel) ⟨Nat.le_of_ble_eq_true rfl, Nat.le_of_ble_eq_true rfl⟩) (dk_preV (kn_K, kt_K, 12) hE hP hS hh rfl) hS rfl rfl hl.1 rfl (lv_room (Nat.le_of_ble_eq_true rfl)) de_L_release_2 ⟨(by first | exact Nat.le_of_ble_eq_true rfl | exact Nat.le_of_eq (Nat.zero_add _) | (simp only [Nat.zero_add]; omega) | omega), (by first | exact Nat.le_of_ble_eq_true rfl | exact Nat.le_of_eq (Nat.zero_add _) | (simp only [Nat.zero_add]; omega) | omega)⟩) hown hts hexc ⟨by decide, by decide⟩ (by decide) wi_329 (fun x9 w9 H locs hp9 hP hS => ?_)
  refine lv_astore_n (lv' := [(2, .ref x9), (0, .ref h), (1, .int k)]) hx hb de_L_release_8 rfl hl (by decide) rfl (fun ls hl => ?_)
  refine lv_iconst (v := nI 1) hx hb de_L_release_9 (by decide) ?_
  exact dk_iret hQ hx hb hr hlocks hP hS (by first | exact Nat.le_of_ble_eq_true rfl | omega) (by first | exact Nat.le_of_ble_eq_true rfl | omega) (⟨rfl, hp9⟩) de_L_release_10
theorem cwi_get : Cond.codeWith my_L_get mb_L_get 5 (some .int) [(0, 9, 12, 13), (0, 9, 16, 45)] ∈ wd_all := wd_m 604 (by decide +kernel) (by decide +kernel)
abbrev rw_L_get : Room := { frames := 7, cells := 0, slots := 0, locals := 158 }
abbrev rx_L_get : Room := { frames := 8, cells := 1, slots := 6, locals := 158 }
set_option maxHeartbeats 4000000 in
set_option maxRecDepth 100000 in
theorem l_get (l : Launch) (G : dk_G) (w : dk_H) (h : Nat) (fs9 : List Value) (o : Nat) (f : Nat → Int64) (v k : Int32) (post : Int64 → dk_H → Prop) (hM : dk_Ml l my_K_get (wd_c my_K_get mb_K_get 4 (some .long)) rm_K_get G w [.ref h, .int v, .int k] post 0 0) (hh : w h = some (1, .inr (cx_K, fs9))) (ho : w o = some (90, dk_cl G 1 f)) (hfr : ∀ r u, post r u → dk_fr kp_T w u) : dk_Mi l my_L_get (wd_h my_L_get mb_L_get 5 (some .int) [(0, 9, 12, 13), (0, 9, 16, 45)]) rw_L_get G w [.ref h, .int v, .int k, .ref o] (fun r w1 => r = nI 0 ∧ ∃ (r0 : Int64) (u : dk_H), post r0 u ∧ w1 = va_up u o (some (90, dk_cl G 1 (vp_updL f 0 r0)))) 0 0 := by
  refine dk_enterH (lv := [(0, .ref h), (1, .int v), (2, .int k), (3, .ref o)]) (by decide) (Nat.le_of_ble_eq_true rfl) rfl (fun p e s m args below meth c ls Q hQ C hexc hP hS hl => ?_)
  obtain ⟨hx, hb, hr, hml, hlocks, hown, hnm, hts, hE⟩ := C
  have hK := hE.1
  have hN := hE.2.1
  refine lv_aload_n hx hb de_L_get_0 rfl (lv_at hl 3 rfl) ?_
  refine lv_iconst (v := nI 0) hx hb de_L_get_1 (by decide) ?_
  refine lv_aload_n hx hb de_L_get_2 rfl (lv_at hl 0 rfl) ?_
  refine lv_iload_n hx hb de_L_get_3 rfl (lv_at hl 1 rfl) ?_
  refine lv_iload_n hx hb de_L_get_4 rfl (lv_at hl 2 rfl) ?_
  refine dk_calll (va_runV (As := [.int v, .int k]) (rest := [.int (nI 0), .ref o]) ⟨hx, hb, hml, hown, hts⟩ hM (cwV 2 hts (wd_gV (C := "RunKeeper") wi_609 wi_606 wi_607 wi_608 wi_1) rfl rfl rfl (by decide +kernel) ⟨Nat.le_of_ble_eq_true rfl, Nat.le_of_ble_eq_true rfl⟩) (dk_preV (kn_K, kt_K, 12) hE hP hS hh rfl) rfl rfl hl.1 rfl (lv_room (Nat.le_of_ble_eq_true rfl)) de_L_get_5 ⟨(by first | exact Nat.le_of_ble_eq_true rfl | exact Nat.le_of_eq (Nat.zero_add _) | (simp only [Nat.zero_add]; omega) | omega), (by first | exact Nat.le_of_ble_eq_true rfl | exact Nat.le_of_eq (Nat.zero_add _) | (simp only [Nat.zero_add]; omega) | omega)⟩) hS (fun r_8577 w_8575 H locs hq_8576 hP hS => ?_)
  have ho1 : w_8575 o = some (90, dk_cl G 1 f) := hfr _ _ hq_8576 _ _ _ ho (by unfold kp_T; omega)
  refine dk_last (a := o) (x := r_8577) hx hb hK hP hS ho1 0 rfl (by omega) (by omega) de_L_get_8 (fun H locs w_8578 hw_8579 hP hS => ?_)
  have h_8580 : w_8578 o = some (90, dk_cl G 1 (vp_updL f 0 r_8577)) := dk_here hw_8579
  refine lv_goto (tgt := 20) hx hb de_L_get_9 (by decide) ?_
  refine lv_iconst (v := nI 0) hx hb de_L_get_20 (by decide) ?_
  exact dk_iret hQ hx hb hr hlocks hP hS (by omega) (by omega) (⟨rfl, r_8577, w_8575, hq_8576, hw_8579⟩) de_L_get_21
set_option maxHeartbeats 4000000 in
set_option maxRecDepth 100000 in
theorem l_get_1 (l : Launch) (G : dk_G) (w : dk_H) (h : Nat) (fs9 : List Value) (o : Nat) (v k : Int32) (post : dk_H → Prop) (hM : dk_Mt l my_K_get (wd_c my_K_get mb_K_get 4 (some .long)) rt_K_get G w [.ref h, .int v, .int k] "java/lang/IllegalArgumentException" post 1 6) (hh : w h = some (1, .inr (cx_K, fs9))) : dk_Mi l my_L_get (wd_h my_L_get mb_L_get 5 (some .int) [(0, 9, 12, 13), (0, 9, 16, 45)]) rx_L_get G w [.ref h, .int v, .int k, .ref o] (fun r w1 => r = nI 1 ∧ post w1) 1 6 := by
  refine dk_enterH (lv := [(0, .ref h), (1, .int v), (2, .int k), (3, .ref o)]) (by decide) (Nat.le_of_ble_eq_true rfl) rfl (fun p e s m args below meth c ls Q hQ C hexc hP hS hl => ?_)
  obtain ⟨hx, hb, hr, hml, hlocks, hown, hnm, hts, hE⟩ := C
  have hK := hE.1
  have hN := hE.2.1
  refine lv_aload_n hx hb de_L_get_0 rfl (lv_at hl 3 rfl) ?_
  refine lv_iconst (v := nI 0) hx hb de_L_get_1 (by decide) ?_
  refine lv_aload_n hx hb de_L_get_2 rfl (lv_at hl 0 rfl) ?_
  refine lv_iload_n hx hb de_L_get_3 rfl (lv_at hl 1 rfl) ?_
  refine lv_iload_n hx hb de_L_get_4 rfl (lv_at hl 2 rfl) ?_
  refine dk_catch1 (dk_runT (As := [.int v, .int k]) (rest := [.int (nI 0), .ref o]) ⟨hx, hb, hml, hown, hts⟩ hM (cwV 2 hts (wd_gV (C := "RunKeeper") wi_609 wi_606 wi_607 wi_608 wi_1) rfl rfl rfl (by decide +kernel) ⟨Nat.le_of_ble_eq_true rfl, Nat.le_of_ble_eq_true rfl⟩) (dk_preV (kn_K, kt_K, 12) hE hP hS hh rfl) hS rfl rfl hl.1 rfl (lv_room (Nat.le_of_ble_eq_true rfl)) de_L_get_5 ⟨(by first | exact Nat.le_of_ble_eq_true rfl | exact Nat.le_of_eq (Nat.zero_add _) | (simp only [Nat.zero_add]; omega) | omega), (by first | exact Nat.le_of_ble_eq_true rfl | exact Nat.le_of_eq (Nat.zero_add _) | (simp only [Nat.zero_add]; omega) | omega)⟩) hown hts hexc ⟨by decide, by decide⟩ (by decide) wi_329 (fun x9 w9 H locs hp9 hP hS => ?_)
  refine lv_astore (lv' := [(4, .ref x9), (0, .ref h), (1, .int v), (2, .int k), (3, .ref o)]) hx hb de_L_get_12 hl (by decide) rfl (fun ls hl => ?_)
  refine lv_iconst (v := nI 1) hx hb de_L_get_14 (by decide) ?_
  exact dk_iret hQ hx hb hr hlocks hP hS (by first | exact Nat.le_of_ble_eq_true rfl | omega) (by first | exact Nat.le_of_ble_eq_true rfl | omega) (⟨rfl, hp9⟩) de_L_get_15
set_option maxHeartbeats 4000000 in
set_option maxRecDepth 100000 in
theorem l_get_2 (l : Launch) (G : dk_G) (w : dk_H) (h : Nat) (fs9 : List Value) (o : Nat) (v k : Int32) (post : dk_H → Prop) (hM : dk_Mt l my_K_get (wd_c my_K_get mb_K_get 4 (some .long)) rt_K_get G w [.ref h, .int v, .int k] "java/lang/UnsupportedOperationException" post 1 6) (hh : w h = some (1, .inr (cx_K, fs9))) : dk_Mi l my_L_get (wd_h my_L_get mb_L_get 5 (some .int) [(0, 9, 12, 13), (0, 9, 16, 45)]) rx_L_get G w [.ref h, .int v, .int k, .ref o] (fun r w1 => r = nI 2 ∧ post w1) 1 6 := by
  refine dk_enterH (lv := [(0, .ref h), (1, .int v), (2, .int k), (3, .ref o)]) (by decide) (Nat.le_of_ble_eq_true rfl) rfl (fun p e s m args below meth c ls Q hQ C hexc hP hS hl => ?_)
  obtain ⟨hx, hb, hr, hml, hlocks, hown, hnm, hts, hE⟩ := C
  have hK := hE.1
  have hN := hE.2.1
  refine lv_aload_n hx hb de_L_get_0 rfl (lv_at hl 3 rfl) ?_
  refine lv_iconst (v := nI 0) hx hb de_L_get_1 (by decide) ?_
  refine lv_aload_n hx hb de_L_get_2 rfl (lv_at hl 0 rfl) ?_
  refine lv_iload_n hx hb de_L_get_3 rfl (lv_at hl 1 rfl) ?_
  refine lv_iload_n hx hb de_L_get_4 rfl (lv_at hl 2 rfl) ?_
  refine dk_catch2 (dk_runT (As := [.int v, .int k]) (rest := [.int (nI 0), .ref o]) ⟨hx, hb, hml, hown, hts⟩ hM (cwV 2 hts (wd_gV (C := "RunKeeper") wi_609 wi_606 wi_607 wi_608 wi_1) rfl rfl rfl (by decide +kernel) ⟨Nat.le_of_ble_eq_true rfl, Nat.le_of_ble_eq_true rfl⟩) (dk_preV (kn_K, kt_K, 12) hE hP hS hh rfl) hS rfl rfl hl.1 rfl (lv_room (Nat.le_of_ble_eq_true rfl)) de_L_get_5 ⟨(by first | exact Nat.le_of_ble_eq_true rfl | exact Nat.le_of_eq (Nat.zero_add _) | (simp only [Nat.zero_add]; omega) | omega), (by first | exact Nat.le_of_ble_eq_true rfl | exact Nat.le_of_eq (Nat.zero_add _) | (simp only [Nat.zero_add]; omega) | omega)⟩) hown hts hexc ⟨by decide, by decide⟩ ⟨by decide, by decide⟩ (by decide) (by decide) wi_329 wi_605 hE.2.2.1.2.2.2.2.2.1.2.2 (fun x9 w9 H locs hp9 hP hS => ?_)
  refine lv_astore (lv' := [(4, .ref x9), (0, .ref h), (1, .int v), (2, .int k), (3, .ref o)]) hx hb de_L_get_16 hl (by decide) rfl (fun ls hl => ?_)
  refine lv_iconst (v := nI 2) hx hb de_L_get_18 (by decide) ?_
  exact dk_iret hQ hx hb hr hlocks hP hS (by first | exact Nat.le_of_ble_eq_true rfl | omega) (by first | exact Nat.le_of_ble_eq_true rfl | omega) (⟨rfl, hp9⟩) de_L_get_19
theorem cwi_next : Cond.codeWith my_L_next mb_L_next 5 (some .int) [(0, 10, 13, 13)] ∈ wd_all := wd_m 674 (by decide +kernel) (by decide +kernel)
abbrev rw_L_next : Room := { frames := 7, cells := 0, slots := 0, locals := 153 }
abbrev rx_L_next : Room := { frames := 8, cells := 1, slots := 6, locals := 128 }
set_option maxHeartbeats 4000000 in
set_option maxRecDepth 100000 in
theorem l_next (l : Launch) (G : dk_G) (w : dk_H) (h : Nat) (fs9 : List Value) (o : Nat) (f : Nat → Int64) (v k : Int32) (post : Int32 → dk_H → Prop) (hM : dk_Mi l my_K_next (wd_c my_K_next mb_K_next 5 (some .int)) rm_K_next G w [.ref h, .int v, .int k] post 0 0) (hh : w h = some (1, .inr (cx_K, fs9))) (ho : w o = some (90, dk_cl G 1 f)) (hfr : ∀ r u, post r u → dk_fr kp_T w u) : dk_Mi l my_L_next (wd_h my_L_next mb_L_next 5 (some .int) [(0, 10, 13, 13)]) rw_L_next G w [.ref h, .int v, .int k, .ref o] (fun r w1 => r = nI 0 ∧ ∃ (r0 : Int32) (u : dk_H), post r0 u ∧ w1 = va_up u o (some (90, dk_cl G 1 (vp_updL f 0 (r0.toInt64))))) 0 0 := by
  refine dk_enterH (lv := [(0, .ref h), (1, .int v), (2, .int k), (3, .ref o)]) (by decide) (Nat.le_of_ble_eq_true rfl) rfl (fun p e s m args below meth c ls Q hQ C hexc hP hS hl => ?_)
  obtain ⟨hx, hb, hr, hml, hlocks, hown, hnm, hts, hE⟩ := C
  have hK := hE.1
  have hN := hE.2.1
  refine lv_aload_n hx hb de_L_next_0 rfl (lv_at hl 3 rfl) ?_
  refine lv_iconst (v := nI 0) hx hb de_L_next_1 (by decide) ?_
  refine lv_aload_n hx hb de_L_next_2 rfl (lv_at hl 0 rfl) ?_
  refine lv_iload_n hx hb de_L_next_3 rfl (lv_at hl 1 rfl) ?_
  refine lv_iload_n hx hb de_L_next_4 rfl (lv_at hl 2 rfl) ?_
  refine dk_calli (va_runV (As := [.int v, .int k]) (rest := [.int (nI 0), .ref o]) ⟨hx, hb, hml, hown, hts⟩ hM (cwV 2 hts (wd_gV (C := "RunKeeper") wi_678 wi_675 wi_676 wi_677 wi_1) rfl rfl rfl (by decide +kernel) ⟨Nat.le_of_ble_eq_true rfl, Nat.le_of_ble_eq_true rfl⟩) (dk_preV (kn_K, kt_K, 12) hE hP hS hh rfl) rfl rfl hl.1 rfl (lv_room (Nat.le_of_ble_eq_true rfl)) de_L_next_5 ⟨(by first | exact Nat.le_of_ble_eq_true rfl | exact Nat.le_of_eq (Nat.zero_add _) | (simp only [Nat.zero_add]; omega) | omega), (by first | exact Nat.le_of_ble_eq_true rfl | exact Nat.le_of_eq (Nat.zero_add _) | (simp only [Nat.zero_add]; omega) | omega)⟩) hS (fun r_8583 w_8581 H locs hq_8582 hP hS => ?_)
  have ho1 : w_8581 o = some (90, dk_cl G 1 f) := hfr _ _ hq_8582 _ _ _ ho (by unfold kp_T; omega)
  refine lv_i2l (v := r_8583.toInt64) hx hb de_L_next_8 rfl ?_
  refine dk_last (a := o) (x := (r_8583.toInt64)) hx hb hK hP hS ho1 0 rfl (by omega) (by omega) de_L_next_9 (fun H locs w_8584 hw_8585 hP hS => ?_)
  have h_8586 : w_8584 o = some (90, dk_cl G 1 (vp_updL f 0 (r_8583.toInt64))) := dk_here hw_8585
  refine lv_goto (tgt := 17) hx hb de_L_next_10 (by decide) ?_
  refine lv_iconst (v := nI 0) hx hb de_L_next_17 (by decide) ?_
  exact dk_iret hQ hx hb hr hlocks hP hS (by omega) (by omega) (⟨rfl, r_8583, w_8581, hq_8582, hw_8585⟩) de_L_next_18
set_option maxHeartbeats 4000000 in
set_option maxRecDepth 100000 in
theorem l_next_1 (l : Launch) (G : dk_G) (w : dk_H) (h : Nat) (fs9 : List Value) (o : Nat) (v k : Int32) (post : dk_H → Prop) (hM : dk_Mt l my_K_next (wd_c my_K_next mb_K_next 5 (some .int)) rt_K_next G w [.ref h, .int v, .int k] "java/lang/IllegalArgumentException" post 1 6) (hh : w h = some (1, .inr (cx_K, fs9))) : dk_Mi l my_L_next (wd_h my_L_next mb_L_next 5 (some .int) [(0, 10, 13, 13)]) rx_L_next G w [.ref h, .int v, .int k, .ref o] (fun r w1 => r = nI 1 ∧ post w1) 1 6 := by
  refine dk_enterH (lv := [(0, .ref h), (1, .int v), (2, .int k), (3, .ref o)]) (by decide) (Nat.le_of_ble_eq_true rfl) rfl (fun p e s m args below meth c ls Q hQ C hexc hP hS hl => ?_)
  obtain ⟨hx, hb, hr, hml, hlocks, hown, hnm, hts, hE⟩ := C
  have hK := hE.1
  have hN := hE.2.1
  refine lv_aload_n hx hb de_L_next_0 rfl (lv_at hl 3 rfl) ?_
  refine lv_iconst (v := nI 0) hx hb de_L_next_1 (by decide) ?_
  refine lv_aload_n hx hb de_L_next_2 rfl (lv_at hl 0 rfl) ?_
  refine lv_iload_n hx hb de_L_next_3 rfl (lv_at hl 1 rfl) ?_
  refine lv_iload_n hx hb de_L_next_4 rfl (lv_at hl 2 rfl) ?_
  refine dk_catch1 (dk_runT (As := [.int v, .int k]) (rest := [.int (nI 0), .ref o]) ⟨hx, hb, hml, hown, hts⟩ hM (cwV 2 hts (wd_gV (C := "RunKeeper") wi_678 wi_675 wi_676 wi_677 wi_1) rfl rfl rfl (by decide +kernel) ⟨Nat.le_of_ble_eq_true rfl, Nat.le_of_ble_eq_true rfl⟩) (dk_preV (kn_K, kt_K, 12) hE hP hS hh rfl) hS rfl rfl hl.1 rfl (lv_room (Nat.le_of_ble_eq_true rfl)) de_L_next_5 ⟨(by first | exact Nat.le_of_ble_eq_true rfl | exact Nat.le_of_eq (Nat.zero_add _) | (simp only [Nat.zero_add]; omega) | omega), (by first | exact Nat.le_of_ble_eq_true rfl | exact Nat.le_of_eq (Nat.zero_add _) | (simp only [Nat.zero_add]; omega) | omega)⟩) hown hts hexc ⟨by decide, by decide⟩ (by decide) wi_329 (fun x9 w9 H locs hp9 hP hS => ?_)
  refine lv_astore (lv' := [(4, .ref x9), (0, .ref h), (1, .int v), (2, .int k), (3, .ref o)]) hx hb de_L_next_13 hl (by decide) rfl (fun ls hl => ?_)
  refine lv_iconst (v := nI 1) hx hb de_L_next_15 (by decide) ?_
  exact dk_iret hQ hx hb hr hlocks hP hS (by first | exact Nat.le_of_ble_eq_true rfl | omega) (by first | exact Nat.le_of_ble_eq_true rfl | omega) (⟨rfl, hp9⟩) de_L_next_16
theorem cwi_entry : Cond.codeWith my_L_entry mb_L_entry 7 (some .int) [(0, 14, 17, 13), (0, 14, 21, 15)] ∈ wd_all := wd_m 689 (by decide +kernel) (by decide +kernel)
abbrev rw_L_entry : Room := { frames := 5, cells := 0, slots := 0, locals := 111 }
abbrev rx_L_entry : Room := { frames := 7, cells := 1, slots := 6, locals := 111 }
set_option maxHeartbeats 4000000 in
set_option maxRecDepth 100000 in
theorem l_entry (l : Launch) (G : dk_G) (w : dk_H) (h : Nat) (fs9 : List Value) (o : Nat) (f : Nat → Int64) (l9 r9 k9 q9 : Int32) (post : Int32 → dk_H → Prop) (hM : dk_Mi l my_K_entry (wd_c my_K_entry mb_K_entry 7 (some .int)) rm_K_entry G w [.ref h, .int l9, .int r9, .int k9, .int q9] post 0 0) (hh : w h = some (1, .inr (cx_K, fs9))) (ho : w o = some (90, dk_cl G 1 f)) (hfr : ∀ r u, post r u → dk_fr kp_T w u) : dk_Mi l my_L_entry (wd_h my_L_entry mb_L_entry 7 (some .int) [(0, 14, 17, 13), (0, 14, 21, 15)]) rw_L_entry G w [.ref h, .int l9, .int r9, .int k9, .int q9, .ref o] (fun r w1 => r = nI 0 ∧ ∃ (r0 : Int32) (u : dk_H), post r0 u ∧ w1 = va_up u o (some (90, dk_cl G 1 (vp_updL f 0 (r0.toInt64))))) 0 0 := by
  refine dk_enterH (lv := [(0, .ref h), (1, .int l9), (2, .int r9), (3, .int k9), (4, .int q9), (5, .ref o)]) (by decide) (Nat.le_of_ble_eq_true rfl) rfl (fun p e s m args below meth c ls Q hQ C hexc hP hS hl => ?_)
  obtain ⟨hx, hb, hr, hml, hlocks, hown, hnm, hts, hE⟩ := C
  have hK := hE.1
  have hN := hE.2.1
  refine lv_aload hx hb de_L_entry_0 (lv_at hl 5 rfl) ?_
  refine lv_iconst (v := nI 0) hx hb de_L_entry_2 (by decide) ?_
  refine lv_aload_n hx hb de_L_entry_3 rfl (lv_at hl 0 rfl) ?_
  refine lv_iload_n hx hb de_L_entry_4 rfl (lv_at hl 1 rfl) ?_
  refine lv_iload_n hx hb de_L_entry_5 rfl (lv_at hl 2 rfl) ?_
  refine lv_iload_n hx hb de_L_entry_6 rfl (lv_at hl 3 rfl) ?_
  refine lv_iload hx hb de_L_entry_7 (lv_at hl 4 rfl) ?_
  refine dk_calli (va_runV (As := [.int l9, .int r9, .int k9, .int q9]) (rest := [.int (nI 0), .ref o]) ⟨hx, hb, hml, hown, hts⟩ hM (cwV 4 hts (wd_gV (C := "RunKeeper") wi_693 wi_690 wi_691 wi_692 wi_1) rfl rfl rfl (by decide +kernel) ⟨Nat.le_of_ble_eq_true rfl, Nat.le_of_ble_eq_true rfl⟩) (dk_preV (kn_K, kt_K, 12) hE hP hS hh rfl) rfl rfl hl.1 rfl (lv_room (Nat.le_of_ble_eq_true rfl)) de_L_entry_9 ⟨(by first | exact Nat.le_of_ble_eq_true rfl | exact Nat.le_of_eq (Nat.zero_add _) | (simp only [Nat.zero_add]; omega) | omega), (by first | exact Nat.le_of_ble_eq_true rfl | exact Nat.le_of_eq (Nat.zero_add _) | (simp only [Nat.zero_add]; omega) | omega)⟩) hS (fun r_8589 w_8587 H locs hq_8588 hP hS => ?_)
  have ho1 : w_8587 o = some (90, dk_cl G 1 f) := hfr _ _ hq_8588 _ _ _ ho (by unfold kp_T; omega)
  refine lv_i2l (v := r_8589.toInt64) hx hb de_L_entry_12 rfl ?_
  refine dk_last (a := o) (x := (r_8589.toInt64)) hx hb hK hP hS ho1 0 rfl (by omega) (by omega) de_L_entry_13 (fun H locs w_8590 hw_8591 hP hS => ?_)
  have h_8592 : w_8590 o = some (90, dk_cl G 1 (vp_updL f 0 (r_8589.toInt64))) := dk_here hw_8591
  refine lv_goto (tgt := 25) hx hb de_L_entry_14 (by decide) ?_
  refine lv_iconst (v := nI 0) hx hb de_L_entry_25 (by decide) ?_
  exact dk_iret hQ hx hb hr hlocks hP hS (by omega) (by omega) (⟨rfl, r_8589, w_8587, hq_8588, hw_8591⟩) de_L_entry_26
set_option maxHeartbeats 4000000 in
set_option maxRecDepth 100000 in
theorem l_entry_1 (l : Launch) (G : dk_G) (w : dk_H) (h : Nat) (fs9 : List Value) (o : Nat) (l9 r9 k9 q9 : Int32) (post : dk_H → Prop) (hM : dk_Mt l my_K_entry (wd_c my_K_entry mb_K_entry 7 (some .int)) rt_K_entry G w [.ref h, .int l9, .int r9, .int k9, .int q9] "java/lang/IllegalArgumentException" post 1 6) (hh : w h = some (1, .inr (cx_K, fs9))) : dk_Mi l my_L_entry (wd_h my_L_entry mb_L_entry 7 (some .int) [(0, 14, 17, 13), (0, 14, 21, 15)]) rx_L_entry G w [.ref h, .int l9, .int r9, .int k9, .int q9, .ref o] (fun r w1 => r = nI 1 ∧ post w1) 1 6 := by
  refine dk_enterH (lv := [(0, .ref h), (1, .int l9), (2, .int r9), (3, .int k9), (4, .int q9), (5, .ref o)]) (by decide) (Nat.le_of_ble_eq_true rfl) rfl (fun p e s m args below meth c ls Q hQ C hexc hP hS hl => ?_)
  obtain ⟨hx, hb, hr, hml, hlocks, hown, hnm, hts, hE⟩ := C
  have hK := hE.1
  have hN := hE.2.1
  refine lv_aload hx hb de_L_entry_0 (lv_at hl 5 rfl) ?_
  refine lv_iconst (v := nI 0) hx hb de_L_entry_2 (by decide) ?_
  refine lv_aload_n hx hb de_L_entry_3 rfl (lv_at hl 0 rfl) ?_
  refine lv_iload_n hx hb de_L_entry_4 rfl (lv_at hl 1 rfl) ?_
  refine lv_iload_n hx hb de_L_entry_5 rfl (lv_at hl 2 rfl) ?_
  refine lv_iload_n hx hb de_L_entry_6 rfl (lv_at hl 3 rfl) ?_
  refine lv_iload hx hb de_L_entry_7 (lv_at hl 4 rfl) ?_
  refine dk_catch1 (dk_runT (As := [.int l9, .int r9, .int k9, .int q9]) (rest := [.int (nI 0), .ref o]) ⟨hx, hb, hml, hown, hts⟩ hM (cwV 4 hts (wd_gV (C := "RunKeeper") wi_693 wi_690 wi_691 wi_692 wi_1) rfl rfl rfl (by decide +kernel) ⟨Nat.le_of_ble_eq_true rfl, Nat.le_of_ble_eq_true rfl⟩) (dk_preV (kn_K, kt_K, 12) hE hP hS hh rfl) hS rfl rfl hl.1 rfl (lv_room (Nat.le_of_ble_eq_true rfl)) de_L_entry_9 ⟨(by first | exact Nat.le_of_ble_eq_true rfl | exact Nat.le_of_eq (Nat.zero_add _) | (simp only [Nat.zero_add]; omega) | omega), (by first | exact Nat.le_of_ble_eq_true rfl | exact Nat.le_of_eq (Nat.zero_add _) | (simp only [Nat.zero_add]; omega) | omega)⟩) hown hts hexc ⟨by decide, by decide⟩ (by decide) wi_329 (fun x9 w9 H locs hp9 hP hS => ?_)
  refine lv_astore (lv' := [(6, .ref x9), (0, .ref h), (1, .int l9), (2, .int r9), (3, .int k9), (4, .int q9), (5, .ref o)]) hx hb de_L_entry_17 hl (by decide) rfl (fun ls hl => ?_)
  refine lv_iconst (v := nI 1) hx hb de_L_entry_19 (by decide) ?_
  exact dk_iret hQ hx hb hr hlocks hP hS (by first | exact Nat.le_of_ble_eq_true rfl | omega) (by first | exact Nat.le_of_ble_eq_true rfl | omega) (⟨rfl, hp9⟩) de_L_entry_20
set_option maxHeartbeats 4000000 in
set_option maxRecDepth 100000 in
theorem l_entry_2 (l : Launch) (G : dk_G) (w : dk_H) (h : Nat) (fs9 : List Value) (o : Nat) (l9 r9 k9 q9 : Int32) (post : dk_H → Prop) (hM : dk_Mt l my_K_entry (wd_c my_K_entry mb_K_entry 7 (some .int)) rt_K_entry G w [.ref h, .int l9, .int r9, .int k9, .int q9] "java/lang/IndexOutOfBoundsException" post 1 6) (hh : w h = some (1, .inr (cx_K, fs9))) : dk_Mi l my_L_entry (wd_h my_L_entry mb_L_entry 7 (some .int) [(0, 14, 17, 13), (0, 14, 21, 15)]) rx_L_entry G w [.ref h, .int l9, .int r9, .int k9, .int q9, .ref o] (fun r w1 => r = nI 2 ∧ post w1) 1 6 := by
  refine dk_enterH (lv := [(0, .ref h), (1, .int l9), (2, .int r9), (3, .int k9), (4, .int q9), (5, .ref o)]) (by decide) (Nat.le_of_ble_eq_true rfl) rfl (fun p e s m args below meth c ls Q hQ C hexc hP hS hl => ?_)
  obtain ⟨hx, hb, hr, hml, hlocks, hown, hnm, hts, hE⟩ := C
  have hK := hE.1
  have hN := hE.2.1
  refine lv_aload hx hb de_L_entry_0 (lv_at hl 5 rfl) ?_
  refine lv_iconst (v := nI 0) hx hb de_L_entry_2 (by decide) ?_
  refine lv_aload_n hx hb de_L_entry_3 rfl (lv_at hl 0 rfl) ?_
  refine lv_iload_n hx hb de_L_entry_4 rfl (lv_at hl 1 rfl) ?_
  refine lv_iload_n hx hb de_L_entry_5 rfl (lv_at hl 2 rfl) ?_
  refine lv_iload_n hx hb de_L_entry_6 rfl (lv_at hl 3 rfl) ?_
  refine lv_iload hx hb de_L_entry_7 (lv_at hl 4 rfl) ?_
  refine dk_catch2 (dk_runT (As := [.int l9, .int r9, .int k9, .int q9]) (rest := [.int (nI 0), .ref o]) ⟨hx, hb, hml, hown, hts⟩ hM (cwV 4 hts (wd_gV (C := "RunKeeper") wi_693 wi_690 wi_691 wi_692 wi_1) rfl rfl rfl (by decide +kernel) ⟨Nat.le_of_ble_eq_true rfl, Nat.le_of_ble_eq_true rfl⟩) (dk_preV (kn_K, kt_K, 12) hE hP hS hh rfl) hS rfl rfl hl.1 rfl (lv_room (Nat.le_of_ble_eq_true rfl)) de_L_entry_9 ⟨(by first | exact Nat.le_of_ble_eq_true rfl | exact Nat.le_of_eq (Nat.zero_add _) | (simp only [Nat.zero_add]; omega) | omega), (by first | exact Nat.le_of_ble_eq_true rfl | exact Nat.le_of_eq (Nat.zero_add _) | (simp only [Nat.zero_add]; omega) | omega)⟩) hown hts hexc ⟨by decide, by decide⟩ ⟨by decide, by decide⟩ (by decide) (by decide) wi_329 wi_330 hE.2.2.1.2.2.2.2.2.1.1 (fun x9 w9 H locs hp9 hP hS => ?_)
  refine lv_astore (lv' := [(6, .ref x9), (0, .ref h), (1, .int l9), (2, .int r9), (3, .int k9), (4, .int q9), (5, .ref o)]) hx hb de_L_entry_21 hl (by decide) rfl (fun ls hl => ?_)
  refine lv_iconst (v := nI 2) hx hb de_L_entry_23 (by decide) ?_
  exact dk_iret hQ hx hb hr hlocks hP hS (by first | exact Nat.le_of_ble_eq_true rfl | omega) (by first | exact Nat.le_of_ble_eq_true rfl | omega) (⟨rfl, hp9⟩) de_L_entry_24
theorem cwi_count : Cond.codeWith my_L_count mb_L_count 5 (some .int) [(0, 10, 13, 13)] ∈ wd_all := wd_m 698 (by decide +kernel) (by decide +kernel)
abbrev rw_L_count : Room := { frames := 3, cells := 0, slots := 0, locals := 64 }
abbrev rx_L_count : Room := { frames := 7, cells := 1, slots := 6, locals := 104 }
set_option maxHeartbeats 4000000 in
set_option maxRecDepth 100000 in
theorem l_count (l : Launch) (G : dk_G) (w : dk_H) (h : Nat) (fs9 : List Value) (o : Nat) (f : Nat → Int64) (q9 k9 : Int32) (post : Int32 → dk_H → Prop) (hM : dk_Mi l my_K_count (wd_c my_K_count mb_K_count 3 (some .int)) rm_K_count G w [.ref h, .int q9, .int k9] post 0 0) (hh : w h = some (1, .inr (cx_K, fs9))) (ho : w o = some (90, dk_cl G 1 f)) (hfr : ∀ r u, post r u → dk_fr kp_T w u) : dk_Mi l my_L_count (wd_h my_L_count mb_L_count 5 (some .int) [(0, 10, 13, 13)]) rw_L_count G w [.ref h, .int q9, .int k9, .ref o] (fun r w1 => r = nI 0 ∧ ∃ (r0 : Int32) (u : dk_H), post r0 u ∧ w1 = va_up u o (some (90, dk_cl G 1 (vp_updL f 0 (r0.toInt64))))) 0 0 := by
  refine dk_enterH (lv := [(0, .ref h), (1, .int q9), (2, .int k9), (3, .ref o)]) (by decide) (Nat.le_of_ble_eq_true rfl) rfl (fun p e s m args below meth c ls Q hQ C hexc hP hS hl => ?_)
  obtain ⟨hx, hb, hr, hml, hlocks, hown, hnm, hts, hE⟩ := C
  have hK := hE.1
  have hN := hE.2.1
  refine lv_aload_n hx hb de_L_count_0 rfl (lv_at hl 3 rfl) ?_
  refine lv_iconst (v := nI 0) hx hb de_L_count_1 (by decide) ?_
  refine lv_aload_n hx hb de_L_count_2 rfl (lv_at hl 0 rfl) ?_
  refine lv_iload_n hx hb de_L_count_3 rfl (lv_at hl 1 rfl) ?_
  refine lv_iload_n hx hb de_L_count_4 rfl (lv_at hl 2 rfl) ?_
  refine dk_calli (va_runV (As := [.int q9, .int k9]) (rest := [.int (nI 0), .ref o]) ⟨hx, hb, hml, hown, hts⟩ hM (cwV 2 hts (wd_gV (C := "RunKeeper") wi_702 wi_699 wi_700 wi_701 wi_1) rfl rfl rfl (by decide +kernel) ⟨Nat.le_of_ble_eq_true rfl, Nat.le_of_ble_eq_true rfl⟩) (dk_preV (kn_K, kt_K, 12) hE hP hS hh rfl) rfl rfl hl.1 rfl (lv_room (Nat.le_of_ble_eq_true rfl)) de_L_count_5 ⟨(by first | exact Nat.le_of_ble_eq_true rfl | exact Nat.le_of_eq (Nat.zero_add _) | (simp only [Nat.zero_add]; omega) | omega), (by first | exact Nat.le_of_ble_eq_true rfl | exact Nat.le_of_eq (Nat.zero_add _) | (simp only [Nat.zero_add]; omega) | omega)⟩) hS (fun r_8595 w_8593 H locs hq_8594 hP hS => ?_)
  have ho1 : w_8593 o = some (90, dk_cl G 1 f) := hfr _ _ hq_8594 _ _ _ ho (by unfold kp_T; omega)
  refine lv_i2l (v := r_8595.toInt64) hx hb de_L_count_8 rfl ?_
  refine dk_last (a := o) (x := (r_8595.toInt64)) hx hb hK hP hS ho1 0 rfl (by omega) (by omega) de_L_count_9 (fun H locs w_8596 hw_8597 hP hS => ?_)
  have h_8598 : w_8596 o = some (90, dk_cl G 1 (vp_updL f 0 (r_8595.toInt64))) := dk_here hw_8597
  refine lv_goto (tgt := 17) hx hb de_L_count_10 (by decide) ?_
  refine lv_iconst (v := nI 0) hx hb de_L_count_17 (by decide) ?_
  exact dk_iret hQ hx hb hr hlocks hP hS (by omega) (by omega) (⟨rfl, r_8595, w_8593, hq_8594, hw_8597⟩) de_L_count_18
set_option maxHeartbeats 4000000 in
set_option maxRecDepth 100000 in
theorem l_count_1 (l : Launch) (G : dk_G) (w : dk_H) (h : Nat) (fs9 : List Value) (o : Nat) (q9 k9 : Int32) (post : dk_H → Prop) (hM : dk_Mt l my_K_count (wd_c my_K_count mb_K_count 3 (some .int)) rt_K_count G w [.ref h, .int q9, .int k9] "java/lang/IllegalArgumentException" post 1 6) (hh : w h = some (1, .inr (cx_K, fs9))) : dk_Mi l my_L_count (wd_h my_L_count mb_L_count 5 (some .int) [(0, 10, 13, 13)]) rx_L_count G w [.ref h, .int q9, .int k9, .ref o] (fun r w1 => r = nI 1 ∧ post w1) 1 6 := by
  refine dk_enterH (lv := [(0, .ref h), (1, .int q9), (2, .int k9), (3, .ref o)]) (by decide) (Nat.le_of_ble_eq_true rfl) rfl (fun p e s m args below meth c ls Q hQ C hexc hP hS hl => ?_)
  obtain ⟨hx, hb, hr, hml, hlocks, hown, hnm, hts, hE⟩ := C
  have hK := hE.1
  have hN := hE.2.1
  refine lv_aload_n hx hb de_L_count_0 rfl (lv_at hl 3 rfl) ?_
  refine lv_iconst (v := nI 0) hx hb de_L_count_1 (by decide) ?_
  refine lv_aload_n hx hb de_L_count_2 rfl (lv_at hl 0 rfl) ?_
  refine lv_iload_n hx hb de_L_count_3 rfl (lv_at hl 1 rfl) ?_
  refine lv_iload_n hx hb de_L_count_4 rfl (lv_at hl 2 rfl) ?_
  refine dk_catch1 (dk_runT (As := [.int q9, .int k9]) (rest := [.int (nI 0), .ref o]) ⟨hx, hb, hml, hown, hts⟩ hM (cwV 2 hts (wd_gV (C := "RunKeeper") wi_702 wi_699 wi_700 wi_701 wi_1) rfl rfl rfl (by decide +kernel) ⟨Nat.le_of_ble_eq_true rfl, Nat.le_of_ble_eq_true rfl⟩) (dk_preV (kn_K, kt_K, 12) hE hP hS hh rfl) hS rfl rfl hl.1 rfl (lv_room (Nat.le_of_ble_eq_true rfl)) de_L_count_5 ⟨(by first | exact Nat.le_of_ble_eq_true rfl | exact Nat.le_of_eq (Nat.zero_add _) | (simp only [Nat.zero_add]; omega) | omega), (by first | exact Nat.le_of_ble_eq_true rfl | exact Nat.le_of_eq (Nat.zero_add _) | (simp only [Nat.zero_add]; omega) | omega)⟩) hown hts hexc ⟨by decide, by decide⟩ (by decide) wi_329 (fun x9 w9 H locs hp9 hP hS => ?_)
  refine lv_astore (lv' := [(4, .ref x9), (0, .ref h), (1, .int q9), (2, .int k9), (3, .ref o)]) hx hb de_L_count_13 hl (by decide) rfl (fun ls hl => ?_)
  refine lv_iconst (v := nI 1) hx hb de_L_count_15 (by decide) ?_
  exact dk_iret hQ hx hb hr hlocks hP hS (by first | exact Nat.le_of_ble_eq_true rfl | omega) (by first | exact Nat.le_of_ble_eq_true rfl | omega) (⟨rfl, hp9⟩) de_L_count_16
