/-! RunKeeper$Row, walked (printed by gen/c_row2.py) -/
abbrev rm_R_size : Room := { frames := 0, cells := 0, slots := 0, locals := 0 }
set_option maxHeartbeats 4000000 in
set_option maxRecDepth 100000 in
theorem c_R_size (l : Launch) (G : dk_G) (w : dk_H) (h t0 t1 cap : Nat) (L : List en_T) (hr0 : rw_at G w h t0 t1 cap L) : dk_Mi l my_R_size (wd_c my_R_size mb_R_size 1 (some .int)) rm_R_size G w [.ref h] (fun r w1 => r = nI L.length ∧ w1 = w) 0 0 := by
  obtain ⟨sl, f, hh, hsl, hle, hcap, hf⟩ := hr0
  refine dk_enter (lv := [(0, .ref h)]) (by decide) (Nat.le_of_ble_eq_true rfl) rfl (fun p e s m args below meth c ls Q hQ C hP hS hl => ?_)
  obtain ⟨hx, hb, hr, hml, hlocks, hown, hnm, hts, hE⟩ := C
  have hK := hE.1
  have hN := hE.2.1
  refine lv_aload_n hx hb de_R_size_0 rfl (lv_at hl 0 rfl) ?_
  refine dk_get (a := h) (v := .int (nI L.length)) (C := kn_R) (T := kt_R) (N := 2) hx hb hts ki_R hown hK hP hh rfl 1 (by decide) (hts _ wi_41) (fun _ h9 => h9) rfl de_R_size_1 ?_
  exact dk_iret hQ hx hb hr hlocks hP hS (Nat.le_refl _) (Nat.le_refl _) (⟨rfl, rfl⟩) de_R_size_4
abbrev rm_R_isFull : Room := { frames := 0, cells := 0, slots := 0, locals := 0 }
set_option maxHeartbeats 4000000 in
set_option maxRecDepth 100000 in
theorem c_R_isFull (l : Launch) (G : dk_G) (w : dk_H) (h t0 t1 cap : Nat) (L : List en_T) (hr0 : rw_at G w h t0 t1 cap L) : dk_Mi l my_R_isFull (wd_c my_R_isFull mb_R_isFull 1 (some .boolean)) rm_R_isFull G w [.ref h] (fun r w1 => r = bo_i (decide (cap ≤ L.length)) ∧ w1 = w) 0 0 := by
  obtain ⟨sl, f, hh, hsl, hle, hcap, hf⟩ := hr0
  refine dk_enter (lv := [(0, .ref h)]) (by decide) (Nat.le_of_ble_eq_true rfl) rfl (fun p e s m args below meth c ls Q hQ C hP hS hl => ?_)
  obtain ⟨hx, hb, hr, hml, hlocks, hown, hnm, hts, hE⟩ := C
  have hK := hE.1
  have hN := hE.2.1
  refine lv_aload_n hx hb de_R_isFull_0 rfl (lv_at hl 0 rfl) ?_
  refine dk_get (a := h) (v := .int (nI L.length)) (C := kn_R) (T := kt_R) (N := 2) hx hb hts ki_R hown hK hP hh rfl 1 (by decide) (hts _ wi_41) (fun _ h9 => h9) rfl de_R_isFull_1 ?_
  refine lv_aload_n hx hb de_R_isFull_4 rfl (lv_at hl 0 rfl) ?_
  refine dk_get (a := h) (v := .ref sl) (C := kn_R) (T := kt_R) (N := 2) hx hb hts ki_R hown hK hP hh rfl 0 (by decide) (hts _ wi_40) (fun _ h9 => h9) rfl de_R_isFull_5 ?_
  refine dk_alen (a := sl) hx hb hK hP hsl 3 rfl de_R_isFull_8 ?_
  refine nx_icmp_lt (a := L.length) (b := cap) (tgt := 16) hx hb (by omega) (by omega) de_R_isFull_9 (by decide) (fun c_29 => ?_) (fun c_29 => ?_)
  · refine lv_iconst (v := nI 0) hx hb de_R_isFull_16 (by decide) ?_
    exact dk_zret hQ hx hb hr hlocks hP hS (Nat.le_refl _) (Nat.le_refl _) (by decide +kernel) (⟨bo_of0 (by simp; omega), rfl⟩) de_R_isFull_17
  · refine lv_iconst (v := nI 1) hx hb de_R_isFull_12 (by decide) ?_
    refine lv_goto (tgt := 17) hx hb de_R_isFull_13 (by decide) ?_
    exact dk_zret hQ hx hb hr hlocks hP hS (Nat.le_refl _) (Nat.le_refl _) (by decide +kernel) (⟨bo_of1 (by simp; omega), rfl⟩) de_R_isFull_17
abbrev rm_R_at : Room := { frames := 0, cells := 0, slots := 0, locals := 0 }
set_option maxHeartbeats 4000000 in
set_option maxRecDepth 100000 in
theorem c_R_at (l : Launch) (G : dk_G) (w : dk_H) (h t0 t1 cap : Nat) (L : List en_T) (hr0 : rw_at G w h t0 t1 cap L) (k : Int32) : dk_Mq l my_R_at (wd_c my_R_at mb_R_at 2 (some (.object "RunKeeper$Entry"))) rm_R_at G w [.ref h, .int k] (fun r w1 => w1 = w ∧ ((r = none ∧ ∀ j, k = nI j → j < 2 ^ 31 → L.length ≤ j) ∨ ∃ j x, k = nI j ∧ L[j]? = some x ∧ en_q w r (some x))) 0 0 := by
  obtain ⟨sl, f, hh, hsl, hle, hcap, hf⟩ := hr0
  refine dk_enter (lv := [(0, .ref h), (1, .int k)]) (by decide) (Nat.le_of_ble_eq_true rfl) rfl (fun p e s m args below meth c ls Q hQ C hP hS hl => ?_)
  obtain ⟨hx, hb, hr, hml, hlocks, hown, hnm, hts, hE⟩ := C
  have hK := hE.1
  have hN := hE.2.1
  refine lv_iload_n hx hb de_R_at_0 rfl (lv_at hl 1 rfl) ?_
  refine lv_if_lt (tgt := 21) hx hb de_R_at_1 (by decide) (fun c_30 => ?_) (fun c_30 => ?_)
  · refine lv_null hx hb de_R_at_21 ?_
    exact dk_aret (r := none) hQ hx hb hr (Or.inl ⟨_, rfl⟩) hlocks hP hS (Nat.le_refl _) (Nat.le_refl _) (⟨rfl, Or.inl ⟨rfl, fun j hj h3 => absurd c_30 (by rw [hj]; exact nI_pos h3)⟩⟩) de_R_at_22
  · obtain ⟨j0, hj0, rfl⟩ := nI_of c_30
    refine lv_iload_n hx hb de_R_at_4 rfl (lv_at hl 1 rfl) ?_
    refine lv_aload_n hx hb de_R_at_5 rfl (lv_at hl 0 rfl) ?_
    refine dk_get (a := h) (v := .int (nI L.length)) (C := kn_R) (T := kt_R) (N := 2) hx hb hts ki_R hown hK hP hh rfl 1 (by decide) (hts _ wi_41) (fun _ h9 => h9) rfl de_R_at_6 ?_
    refine nx_icmp_ge (a := j0) (b := L.length) (tgt := 21) hx hb (by omega) (by omega) de_R_at_9 (by decide) (fun c_31 => ?_) (fun c_31 => ?_)
    · refine lv_null hx hb de_R_at_21 ?_
      exact dk_aret (r := none) hQ hx hb hr (Or.inl ⟨_, rfl⟩) hlocks hP hS (Nat.le_refl _) (Nat.le_refl _) (⟨rfl, Or.inl ⟨rfl, fun j hj h3 => by have := (nI_eq hj0 h3).mp hj; omega⟩⟩) de_R_at_22
    · refine lv_aload_n hx hb de_R_at_12 rfl (lv_at hl 0 rfl) ?_
      refine dk_get (a := h) (v := .ref sl) (C := kn_R) (T := kt_R) (N := 2) hx hb hts ki_R hown hK hP hh rfl 0 (by decide) (hts _ wi_40) (fun _ h9 => h9) rfl de_R_at_13 ?_
      refine lv_iload_n hx hb de_R_at_16 rfl (lv_at hl 1 rfl) ?_
      obtain ⟨x, hx9⟩ := ge_at c_31
      obtain ⟨a9, ha9, ha8⟩ := hf _ _ hx9
      refine dk_aald (a := sl) (r := some a9) (C := dk_nE) hx hb hK hP hsl rfl j0 rfl (by omega) (by omega) ha9 de_R_at_17 ?_
      refine lv_goto (tgt := 22) hx hb de_R_at_18 (by decide) ?_
      exact dk_aret (r := some a9) hQ hx hb hr (Or.inl ⟨_, rfl⟩) hlocks hP hS (Nat.le_refl _) (Nat.le_refl _) (⟨rfl, Or.inr ⟨j0, x, rfl, hx9, a9, rfl, ha8⟩⟩) de_R_at_22
abbrev rm_R_add : Room := { frames := 0, cells := 0, slots := 0, locals := 0 }
set_option maxHeartbeats 4000000 in
set_option maxRecDepth 100000 in
theorem c_R_add (l : Launch) (G : dk_G) (w : dk_H) (h t0 t1 cap : Nat) (L : List en_T) (hr0 : rw_at G w h t0 t1 cap L) (ht : t0 ≠ 0 ∧ t1 ≠ 0 ∧ t0 ≠ t1) (a : Nat) (x : en_T) (ha : en_at w a x) (hc : L.length < cap) : dk_Mv l my_R_add (wd_c my_R_add mb_R_add 2 none) rm_R_add G w [.ref h, .ref a] (fun w1 => rw_at G w1 h t0 t1 cap (L ++ [x]) ∧ dk_fr (fun t => t = t0 ∨ t = t1) w w1) 0 0 := by
  obtain ⟨sl, f, hh, hsl, hle, hcap, hf⟩ := hr0
  obtain ⟨ht0, ht1, ht2⟩ := ht
  refine dk_enter (lv := [(0, .ref h), (1, .ref a)]) (by decide) (Nat.le_of_ble_eq_true rfl) rfl (fun p e s m args below meth c ls Q hQ C hP hS hl => ?_)
  obtain ⟨hx, hb, hr, hml, hlocks, hown, hnm, hts, hE⟩ := C
  have hK := hE.1
  have hN := hE.2.1
  refine lv_aload_n hx hb de_R_add_0 rfl (lv_at hl 1 rfl) ?_
  refine lv_ifnull hx hb de_R_add_1 ?_
  refine lv_aload_n hx hb de_R_add_4 rfl (lv_at hl 0 rfl) ?_
  refine dk_get (a := h) (v := .int (nI L.length)) (C := kn_R) (T := kt_R) (N := 2) hx hb hts ki_R hown hK hP hh rfl 1 (by decide) (hts _ wi_41) (fun _ h9 => h9) rfl de_R_add_5 ?_
  refine lv_aload_n hx hb de_R_add_8 rfl (lv_at hl 0 rfl) ?_
  refine dk_get (a := h) (v := .ref sl) (C := kn_R) (T := kt_R) (N := 2) hx hb hts ki_R hown hK hP hh rfl 0 (by decide) (hts _ wi_40) (fun _ h9 => h9) rfl de_R_add_9 ?_
  refine dk_alen (a := sl) hx hb hK hP hsl 3 rfl de_R_add_12 ?_
  refine nx_icmp_ge (a := L.length) (b := cap) (tgt := 36) hx hb (by omega) (by omega) de_R_add_13 (by decide) (fun c_33 => ?_) (fun c_33 => ?_)
  · exact absurd c_33 (by omega)
  · refine lv_aload_n hx hb de_R_add_16 rfl (lv_at hl 0 rfl) ?_
    refine dk_get (a := h) (v := .ref sl) (C := kn_R) (T := kt_R) (N := 2) hx hb hts ki_R hown hK hP hh rfl 0 (by decide) (hts _ wi_40) (fun _ h9 => h9) rfl de_R_add_17 ?_
    refine lv_aload_n hx hb de_R_add_20 rfl (lv_at hl 0 rfl) ?_
    refine dk_get (a := h) (v := .int (nI L.length)) (C := kn_R) (T := kt_R) (N := 2) hx hb hts ki_R hown hK hP hh rfl 1 (by decide) (hts _ wi_41) (fun _ h9 => h9) rfl de_R_add_21 ?_
    refine lv_aload_n hx hb de_R_add_24 rfl (lv_at hl 1 rfl) ?_
    refine dk_aast (a := sl) (v := a) (r := (kn_E, kt_E, 4)) hx hb hK hP hS hsl rfl ha rfl L.length rfl (by omega) (by omega) de_R_add_25 (fun H locs w_34 hw_35 hP hS => ?_)
    have h_36 : w_34 sl = some (t1, dk_ca G 3 cap (va_up f L.length (some a))) := dk_here hw_35
    have h_37 : w_34 h = some (t0, .inr (cx_R, [.ref sl, .int (nI L.length)])) := dk_keep hw_35 hsl hh (by omega)
    have h_38 : w_34 a = some (0, .inr (cx_E, [.int (nI x.1), .int (nI x.2.1), .long x.2.2.1, .int (bo_i x.2.2.2)])) := dk_keep hw_35 hsl ha (by omega)
    refine lv_aload_n hx hb de_R_add_26 rfl (lv_at hl 0 rfl) ?_
    refine lv_dup hx hb de_R_add_27 rfl ?_
    refine dk_get (a := h) (v := .int (nI L.length)) (C := kn_R) (T := kt_R) (N := 2) hx hb hts ki_R hown hK hP h_37 rfl 1 (by decide) (hts _ wi_41) (fun _ h9 => h9) rfl de_R_add_28 ?_
    refine lv_iconst (v := nI 1) hx hb de_R_add_31 (by decide) ?_
    refine nx_iadd (a := L.length) (b := 1) hx hb de_R_add_32 ?_
    refine dk_put (a := h) (v := .int (nI (L.length + 1))) (ty := .int) (C := kn_R) (T := kt_R) (N := 2) hx hb hts ki_R ky_R kk_R kd_R hown hK hP hS h_37 rfl 1 (by decide) (hts _ wi_41) (fun _ h9 => h9) rfl (by decide +kernel) rfl rfl (Nat.le_of_ble_eq_true rfl) de_R_add_33 (fun H locs w_39 hw_40 hP hS => ?_)
    have h_41 : w_39 h = some (t0, .inr (cx_R, [.ref sl, .int (nI (L.length + 1))])) := dk_here hw_40
    have h_42 : w_39 sl = some (t1, dk_ca G 3 cap (va_up f L.length (some a))) := dk_keep hw_40 h_37 h_36 (by omega)
    have h_43 : w_39 a = some (0, .inr (cx_E, [.int (nI x.1), .int (nI x.2.1), .long x.2.2.1, .int (bo_i x.2.2.2)])) := dk_keep hw_40 h_37 h_38 (by omega)
    have hfr : dk_fr (fun t => t = t0 ∨ t = t1) w w_39 := ((dk_fr.rf).tr ((dk_fr.up (T := _) hsl (Or.inr rfl)).eq hw_35)).tr ((dk_fr.up (T := _) h_37 (Or.inl rfl)).eq hw_40)
    exact dk_vret hQ hx hb hr hlocks hP hS (Nat.le_refl _) (Nat.le_refl _) (⟨⟨sl, va_up f L.length (some a), by rw [show (L ++ [x]).length = L.length + 1 by simp]; exact h_41, h_42, by simp; omega, hcap, (hf.app ha).fr hfr (by omega)⟩, hfr⟩) de_R_add_36
abbrev rm_R_cutTo : Room := { frames := 0, cells := 0, slots := 0, locals := 0 }
set_option maxHeartbeats 4000000 in
set_option maxRecDepth 100000 in
theorem c_R_cutTo (l : Launch) (G : dk_G) (w : dk_H) (h t0 t1 cap : Nat) (L : List en_T) (hr0 : rw_at G w h t0 t1 cap L) (ht : t0 ≠ 0 ∧ t1 ≠ 0 ∧ t0 ≠ t1) (k : Nat) (hk : k < 2 ^ 31) : dk_Mv l my_R_cutTo (wd_c my_R_cutTo mb_R_cutTo 2 none) rm_R_cutTo G w [.ref h, .int (nI k)] (fun w1 => rw_at G w1 h t0 t1 cap (L.take k) ∧ dk_fr (fun t => t = t0 ∨ t = t1) w w1) 0 0 := by
  obtain ⟨sl, f, hh, hsl, hle, hcap, hf⟩ := hr0
  obtain ⟨ht0, ht1, ht2⟩ := ht
  refine dk_enter (lv := [(0, .ref h), (1, .int (nI k))]) (by decide) (Nat.le_of_ble_eq_true rfl) rfl (fun p e s m args below meth c ls Q hQ C hP hS hl => ?_)
  obtain ⟨hx, hb, hr, hml, hlocks, hown, hnm, hts, hE⟩ := C
  have hK := hE.1
  have hN := hE.2.1
  refine lv_iload_n hx hb de_R_cutTo_0 rfl (lv_at hl 1 rfl) ?_
  refine nx_if_lt (a := k) (tgt := 17) hx hb (by omega) de_R_cutTo_1 (by decide) ?_
  refine lv_iload_n hx hb de_R_cutTo_4 rfl (lv_at hl 1 rfl) ?_
  refine lv_aload_n hx hb de_R_cutTo_5 rfl (lv_at hl 0 rfl) ?_
  refine dk_get (a := h) (v := .int (nI L.length)) (C := kn_R) (T := kt_R) (N := 2) hx hb hts ki_R hown hK hP hh rfl 1 (by decide) (hts _ wi_41) (fun _ h9 => h9) rfl de_R_cutTo_6 ?_
  refine nx_icmp_ge (a := k) (b := L.length) (tgt := 17) hx hb (by omega) (by omega) de_R_cutTo_9 (by decide) (fun c_45 => ?_) (fun c_45 => ?_)
  · exact dk_vret hQ hx hb hr hlocks hP hS (Nat.le_refl _) (Nat.le_refl _) (⟨⟨sl, f, by rw [List.take_of_length_le c_45]; exact hh, hsl, by rw [List.take_of_length_le c_45]; exact hle, hcap, hf.take k⟩, dk_fr.rf⟩) de_R_cutTo_17
  · refine lv_aload_n hx hb de_R_cutTo_12 rfl (lv_at hl 0 rfl) ?_
    refine lv_iload_n hx hb de_R_cutTo_13 rfl (lv_at hl 1 rfl) ?_
    refine dk_put (a := h) (v := .int (nI k)) (ty := .int) (C := kn_R) (T := kt_R) (N := 2) hx hb hts ki_R ky_R kk_R kd_R hown hK hP hS hh rfl 1 (by decide) (hts _ wi_41) (fun _ h9 => h9) rfl (by decide +kernel) rfl rfl (Nat.le_of_ble_eq_true rfl) de_R_cutTo_14 (fun H locs w_46 hw_47 hP hS => ?_)
    have h_48 : w_46 h = some (t0, .inr (cx_R, [.ref sl, .int (nI k)])) := dk_here hw_47
    have h_49 : w_46 sl = some (t1, dk_ca G 3 cap f) := dk_keep hw_47 hh hsl (by omega)
    have hfr : dk_fr (fun t => t = t0 ∨ t = t1) w w_46 := (dk_fr.rf).tr ((dk_fr.up (T := _) hh (Or.inl rfl)).eq hw_47)
    exact dk_vret hQ hx hb hr hlocks hP hS (Nat.le_refl _) (Nat.le_refl _) (⟨⟨sl, f, by rw [List.length_take, Nat.min_eq_left (by omega)]; exact h_48, h_49, by rw [List.length_take]; omega, hcap, (hf.take k).fr hfr (by omega)⟩, hfr⟩) de_R_cutTo_17
abbrev rm_R_init (n : Nat) : Room := { frames := 1, cells := 1, slots := n, locals := 20 }
set_option maxHeartbeats 4000000 in
set_option maxRecDepth 100000 in
theorem c_R_init (l : Launch) (G : dk_G) (w : dk_H) (h t0 t1 n : Nat) (hh : w h = some (t0, .inr (cx_R, [.null, .int 0]))) (ht0 : t0 ≠ 0) (ht2 : t0 ≠ t1) (hn : n ≤ 1024) : dk_Mv l my_R_init (wd_c my_R_init mb_R_init 2 none) (rm_R_init n) G w [.ref h, .int (nI n)] (fun w1 => rw_at G w1 h t0 t1 n [] ∧ dk_fr (fun t => t = t0) w w1) 1 n := by
  refine dk_enter (lv := [(0, .ref h), (1, .int (nI n))]) (by decide) (Nat.le_of_ble_eq_true rfl) rfl (fun p e s m args below meth c ls Q hQ C hP hS hl => ?_)
  obtain ⟨hx, hb, hr, hml, hlocks, hown, hnm, hts, hE⟩ := C
  have hK := hE.1
  have hN := hE.2.1
  refine lv_aload_n hx hb de_R_init_0 rfl (lv_at hl 0 rfl) ?_
  refine W.objInit hx hb hown (hts _ wi_37) (hts _ wi_30) (hts _ wi_31) rfl (by rw [hml]; exact hl.1) rfl de_R_init_1 (Nat.le_of_ble_eq_true rfl) (Nat.le_of_ble_eq_true rfl) ?_
  refine W.eq (g2 := F0 m 4 ls []) rfl ?_
  refine lv_aload_n hx hb de_R_init_4 rfl (lv_at hl 0 rfl) ?_
  refine lv_iconst (v := nI 0) hx hb de_R_init_5 (by decide) ?_
  refine dk_put (a := h) (v := .int (nI 0)) (ty := .int) (C := kn_R) (T := kt_R) (N := 2) hx hb hts ki_R ky_R kk_R kd_R hown hK hP hS hh rfl 1 (by decide) (hts _ wi_41) (fun _ h9 => h9) rfl (by decide +kernel) rfl rfl (Nat.le_of_ble_eq_true rfl) de_R_init_6 (fun H locs w_50 hw_51 hP hS => ?_)
  have h_52 : w_50 h = some (t0, .inr (cx_R, [.null, .int (nI 0)])) := dk_here hw_51
  refine lv_aload_n hx hb de_R_init_9 rfl (lv_at hl 0 rfl) ?_
  refine lv_iload_n hx hb de_R_init_10 rfl (lv_at hl 1 rfl) ?_
  refine dk_newq t1 3 (C := "RunKeeper$Entry") (N' := n) hx hb hown (hts _ wi_38) (va_AO.use hE.2.2.1.2.2.2.2.2.2.2.1) hK hP hS hE.2.2.2 rfl rfl (by omega) (by omega) (by first | exact Nat.le_of_ble_eq_true rfl | (simp only [Nat.zero_add]; omega) | omega) (by first | exact Nat.le_of_ble_eq_true rfl | (simp only [Nat.zero_add]; omega) | omega) de_R_init_11 (fun q_53 H w_54 hn_56 hw_55 hP hS => ?_)
  have h_57 : w_54 q_53 = some (t1, dk_ca G 3 n (fun _ => none)) := dk_here hw_55
  have h_58 : w_54 h = some (t0, .inr (cx_R, [.null, .int (nI 0)])) := dk_keepN hw_55 hn_56 h_52
  refine dk_putF (a := h) (v := .ref q_53) (ty := (.array (.object "RunKeeper$Entry"))) (C := kn_R) (T := kt_R) (N := 2) hx hb hts ki_R ky_R kk_R kd_R hown hK hP hS h_58 rfl 0 (by decide) (hts _ wi_40) (fun _ h9 => h9) rfl hnm rfl (by decide +kernel) rfl rfl (Nat.le_of_ble_eq_true rfl) de_R_init_14 (fun H locs w_59 hw_60 hP hS => ?_)
  have h_61 : w_59 h = some (t0, .inr (cx_R, [.ref q_53, .int (nI 0)])) := dk_here hw_60
  have h_62 : w_59 q_53 = some (t1, dk_ca G 3 n (fun _ => none)) := dk_keep hw_60 h_58 h_57 (by omega)
  have hfr : dk_fr (fun t => t = t0) w w_59 := (((dk_fr.rf).tr ((dk_fr.up (T := fun t => t = t0) hh rfl).eq hw_51)).tr ((dk_fr.upN hn_56).eq hw_55)).tr ((dk_fr.up (T := fun t => t = t0) h_58 rfl).eq hw_60)
  exact dk_vret hQ hx hb hr hlocks hP hS (by omega) (by omega) (⟨⟨q_53, _, h_61, h_62, Nat.zero_le _, hn, ra_ok.nil⟩, hfr⟩) de_R_init_17
abbrev rm_R_addAll : Room := { frames := 1, cells := 0, slots := 0, locals := 21 }
set_option maxHeartbeats 4000000 in
set_option maxRecDepth 100000 in
theorem c_R_addAll (l : Launch) (G : dk_G) (w : dk_H) (h t0 t1 cap : Nat) (L : List en_T) (hr0 : rw_at G w h t0 t1 cap L) (ht : t0 ≠ 0 ∧ t1 ≠ 0 ∧ t0 ≠ t1) (h2 u0 u1 cap2 : Nat) (M : List en_T) (hm0 : rw_at G w h2 u0 u1 cap2 M) (hu : u0 ≠ t0 ∧ u0 ≠ t1 ∧ u1 ≠ t0 ∧ u1 ≠ t1) (hc : L.length + M.length ≤ cap) : dk_Mv l my_R_addAll (wd_c my_R_addAll mb_R_addAll 3 none) rm_R_addAll G w [.ref h, .ref h2] (fun w1 => rw_at G w1 h t0 t1 cap (L ++ M) ∧ dk_fr (fun t => t = t0 ∨ t = t1) w w1) 0 0 := by
  have hcap : cap ≤ 1024 := hr0.choose_spec.choose_spec.2.2.2.1
  obtain ⟨ht0, ht1, ht2⟩ := ht
  obtain ⟨hu1, hu2, hu3, hu4⟩ := hu
  refine dk_enter (lv := [(0, .ref h), (1, .ref h2)]) (by decide) (Nat.le_of_ble_eq_true rfl) rfl (fun p e s m args below meth c ls Q hQ C hP hS hl => ?_)
  obtain ⟨hx, hb, hr, hml, hlocks, hown, hnm, hts, hE⟩ := C
  have hK := hE.1
  have hN := hE.2.1
  refine lv_iconst (v := nI 0) hx hb de_R_addAll_0 (by decide) ?_
  refine lv_istore_n (lv' := [(2, .int (nI 0)), (0, .ref h), (1, .ref h2)]) hx hb de_R_addAll_1 rfl hl (by decide) rfl (fun ls hl => ?_)
  have lp : ∀ (zk : Nat) (i : Nat), M.length - i < zk → (i ≤ M.length) → ∀ (H : Heap) (locs : List Loc) (v : dk_H), (rw_at G v h t0 t1 cap (L ++ M.take i)) → (dk_fr (fun t => t = t0 ∨ t = t1) w v) → dk_P G v H → dk_S G s.heap H locs → ∀ (ls : Array Slot), lv_has ls 3 [(0, .ref h), (1, .ref h2), (2, .int (nI i))] → W p l e rm_R_addAll s m args below meth c H locs 0 0 Q (F0 m 2 ls []) := by
    intro zk
    induction zk with
    | zero =>
      intro i hk
      exact absurd hk (by omega)
    | succ zk ih =>
      intro i hk hi
      intro H locs v hv hg hP hS
      intro ls hl
      have hm1 := hm0.fr hg (by omega) (by omega) (by omega)
      obtain ⟨sm, fm, hh2, hsm, hlm, hcm, hfm⟩ := hm1
      refine lv_iload_n hx hb de_R_addAll_2 rfl (lv_at hl 2 rfl) ?_
      refine lv_aload_n hx hb de_R_addAll_3 rfl (lv_at hl 1 rfl) ?_
      refine dk_get (a := h2) (v := .int (nI M.length)) (C := kn_R) (T := kt_R) (N := 2) hx hb hts ki_R hown hK hP hh2 rfl 1 (by decide) (hts _ wi_41) (fun _ h9 => h9) rfl de_R_addAll_4 ?_
      refine nx_icmp_ge (a := i) (b := M.length) (tgt := 26) hx hb (by omega) (by omega) de_R_addAll_7 (by decide) (fun c_63 => ?_) (fun c_63 => ?_)
      · have e9 : M.take i = M := List.take_of_length_le c_63
        rw [e9] at hv
        exact dk_vret hQ hx hb hr hlocks hP hS (Nat.le_refl _) (Nat.le_refl _) (⟨hv, hg⟩) de_R_addAll_26
      · refine lv_aload_n hx hb de_R_addAll_10 rfl (lv_at hl 0 rfl) ?_
        refine lv_aload_n hx hb de_R_addAll_11 rfl (lv_at hl 1 rfl) ?_
        refine dk_get (a := h2) (v := .ref sm) (C := kn_R) (T := kt_R) (N := 2) hx hb hts ki_R hown hK hP hh2 rfl 0 (by decide) (hts _ wi_40) (fun _ h9 => h9) rfl de_R_addAll_12 ?_
        refine lv_iload_n hx hb de_R_addAll_15 rfl (lv_at hl 2 rfl) ?_
        obtain ⟨x, hx9⟩ := ge_at c_63
        obtain ⟨a9, ha9, ha8⟩ := hfm _ _ hx9
        refine dk_aald (a := sm) (r := some a9) (C := dk_nE) hx hb hK hP hsm rfl i rfl (by omega) (by omega) ha9 de_R_addAll_16 ?_
        obtain ⟨sr, fr, hhr, hsr⟩ := id hv
        refine dk_callv (va_runV (As := [.ref a9]) (rest := []) ⟨hx, hb, hml, hown, hts⟩ (c_R_add l G v h t0 t1 cap (L ++ M.take i) hv ⟨ht0, ht1, ht2⟩ a9 x ha8 (by rw [List.length_append, List.length_take]; omega)) (cwV 1 hts (wd_gV (C := "RunKeeper$Row") wi_187 wi_184 wi_185 wi_186 wi_2) rfl rfl rfl (by decide +kernel) ⟨Nat.le_of_ble_eq_true rfl, Nat.le_of_ble_eq_true rfl⟩) (dk_preV (kn_R, kt_R, 2) hE hP hS hhr rfl) rfl rfl hl.1 rfl (lv_room (Nat.le_of_ble_eq_true rfl)) de_R_addAll_17 ⟨(by first | exact Nat.le_of_ble_eq_true rfl | (simp only [Nat.zero_add]; omega) | omega), (by first | exact Nat.le_of_ble_eq_true rfl | (simp only [Nat.zero_add]; omega) | omega)⟩) hS (fun w_64 H locs hq_65 hP hS => ?_)
        have e9 : L ++ M.take (i + 1) = L ++ M.take i ++ [x] := by rw [ta_s hx9, List.append_assoc]
        refine lv_iinc (v := nI (i + 1)) (lv' := [(2, .int (nI (i + 1))), (0, .ref h), (1, .ref h2)]) hx hb de_R_addAll_20 hl (k := 2) rfl (nx_inc i) (by decide) rfl (fun ls hl => ?_)
        refine lv_goto (tgt := 2) hx hb de_R_addAll_23 (by decide) ?_
        exact ih (i + 1) (by omega) (by omega) _ _ _ (by rw [e9]; exact hq_65.1) (hg.tr hq_65.2) hP hS _ (lv_sub hl [1, 2, 0] rfl)
  exact lp (M.length + 1) 0 (by omega) (Nat.zero_le _) _ _ _ (by simpa using hr0) dk_fr.rf hP hS _ (lv_sub hl [1, 2, 0] rfl)
abbrev rm_R_cutDeletedTail : Room := { frames := 0, cells := 0, slots := 0, locals := 0 }
set_option maxHeartbeats 4000000 in
set_option maxRecDepth 100000 in
theorem c_R_cutDeletedTail (l : Launch) (G : dk_G) (w : dk_H) (h t0 t1 cap : Nat) (L : List en_T) (hr0 : rw_at G w h t0 t1 cap L) (ht : t0 ≠ 0 ∧ t1 ≠ 0 ∧ t0 ≠ t1) : dk_Mv l my_R_cutDeletedTail (wd_c my_R_cutDeletedTail mb_R_cutDeletedTail 1 none) rm_R_cutDeletedTail G w [.ref h] (fun w1 => rw_at G w1 h t0 t1 cap (L.take (cd_L L L.length)) ∧ dk_fr (fun t => t = t0 ∨ t = t1) w w1) 0 0 := by
  obtain ⟨sl, f, hh, hsl, hle, hcap, hf⟩ := hr0
  obtain ⟨ht0, ht1, ht2⟩ := ht
  refine dk_enter (lv := [(0, .ref h)]) (by decide) (Nat.le_of_ble_eq_true rfl) rfl (fun p e s m args below meth c ls Q hQ C hP hS hl => ?_)
  obtain ⟨hx, hb, hr, hml, hlocks, hown, hnm, hts, hE⟩ := C
  have hK := hE.1
  have hN := hE.2.1
  have lp : ∀ (zk : Nat) (n : Nat), n < zk → (n ≤ L.length) → (cd_L L n = cd_L L L.length) → ∀ (H : Heap) (locs : List Loc) (v : dk_H), v h = some (t0, .inr (cx_R, [.ref sl, .int (nI n)])) → v sl = some (t1, dk_ca G 3 cap f) → (dk_fr (fun t => t = t0 ∨ t = t1) w v) → dk_P G v H → dk_S G s.heap H locs → ∀ (ls : Array Slot), lv_has ls 1 [(0, .ref h)] → W p l e rm_R_cutDeletedTail s m args below meth c H locs 0 0 Q (F0 m 0 ls []) := by
    intro zk
    induction zk with
    | zero =>
      intro n hk
      exact absurd hk (by omega)
    | succ zk ih =>
      intro n hk hn hcd
      intro H locs v hh hsl hg hP hS
      intro ls hl
      refine lv_aload_n hx hb de_R_cutDeletedTail_0 rfl (lv_at hl 0 rfl) ?_
      refine dk_get (a := h) (v := .int (nI n)) (C := kn_R) (T := kt_R) (N := 2) hx hb hts ki_R hown hK hP hh rfl 1 (by decide) (hts _ wi_41) (fun _ h9 => h9) rfl de_R_cutDeletedTail_1 ?_
      refine nx_if_le (a := n) (tgt := 37) hx hb (by omega) de_R_cutDeletedTail_4 (by decide) (fun c_67 => ?_) (fun c_67 => ?_)
      · have e9 : cd_L L L.length = n := by rw [← hcd, c_67]; rfl
        exact dk_vret hQ hx hb hr hlocks hP hS (Nat.le_refl _) (Nat.le_refl _) (⟨⟨sl, f, by rw [e9, List.length_take, Nat.min_eq_left (by omega)]; exact hh, hsl, by rw [List.length_take]; omega, hcap, (hf.take _).fr hg (by omega)⟩, hg⟩) de_R_cutDeletedTail_37
      · obtain ⟨n, rfl⟩ : ∃ k, n = k + 1 := ⟨n - 1, by omega⟩
        refine lv_aload_n hx hb de_R_cutDeletedTail_7 rfl (lv_at hl 0 rfl) ?_
        refine dk_get (a := h) (v := .ref sl) (C := kn_R) (T := kt_R) (N := 2) hx hb hts ki_R hown hK hP hh rfl 0 (by decide) (hts _ wi_40) (fun _ h9 => h9) rfl de_R_cutDeletedTail_8 ?_
        refine lv_aload_n hx hb de_R_cutDeletedTail_11 rfl (lv_at hl 0 rfl) ?_
        refine dk_get (a := h) (v := .int (nI (n + 1))) (C := kn_R) (T := kt_R) (N := 2) hx hb hts ki_R hown hK hP hh rfl 1 (by decide) (hts _ wi_41) (fun _ h9 => h9) rfl de_R_cutDeletedTail_12 ?_
        refine lv_iconst (v := nI 1) hx hb de_R_cutDeletedTail_15 (by decide) ?_
        refine nx_isub (a := n + 1) (b := 1) hx hb (by omega) de_R_cutDeletedTail_16 ?_
        obtain ⟨x, hx9⟩ := ge_at (L := L) (i := n) (by omega)
        obtain ⟨a9, ha9, ha8⟩ := hf _ _ hx9
        have ha7 := ha8.fr hg (by omega)
        refine dk_aald (a := sl) (r := some a9) (C := dk_nE) hx hb hK hP hsl rfl (n + 1 - 1) rfl (by omega) (by omega) (by rw [Nat.add_sub_cancel]; exact ha9) de_R_cutDeletedTail_17 ?_
        refine dk_getN (a := a9) (v := .int (bo_i x.2.2.2)) (C := kn_E) (T := kt_E) (N := 4) (host := "RunKeeper") hx hb hts ki_E hown hK hP ha7 rfl 3 (by decide) (hN.use (dn_m 454 (by decide +kernel) rfl)) (fun _ h9 => h9) rfl de_R_cutDeletedTail_18 ?_
        refine bo_if_eq (b := x.2.2.2) (tgt := 37) hx hb de_R_cutDeletedTail_21 (by decide) (fun c_68 => ?_) (fun c_68 => ?_)
        · have e9 : cd_L L L.length = n + 1 := by rw [← hcd, cd_k hx9 c_68]
          exact dk_vret hQ hx hb hr hlocks hP hS (Nat.le_refl _) (Nat.le_refl _) (⟨⟨sl, f, by rw [e9, List.length_take, Nat.min_eq_left (by omega)]; exact hh, hsl, by rw [List.length_take]; omega, hcap, (hf.take _).fr hg (by omega)⟩, hg⟩) de_R_cutDeletedTail_37
        · refine lv_aload_n hx hb de_R_cutDeletedTail_24 rfl (lv_at hl 0 rfl) ?_
          refine lv_dup hx hb de_R_cutDeletedTail_25 rfl ?_
          refine dk_get (a := h) (v := .int (nI (n + 1))) (C := kn_R) (T := kt_R) (N := 2) hx hb hts ki_R hown hK hP hh rfl 1 (by decide) (hts _ wi_41) (fun _ h9 => h9) rfl de_R_cutDeletedTail_26 ?_
          refine lv_iconst (v := nI 1) hx hb de_R_cutDeletedTail_29 (by decide) ?_
          refine nx_isub (a := n + 1) (b := 1) hx hb (by omega) de_R_cutDeletedTail_30 ?_
          refine dk_put (a := h) (v := .int (nI (n + 1 - 1))) (ty := .int) (C := kn_R) (T := kt_R) (N := 2) hx hb hts ki_R ky_R kk_R kd_R hown hK hP hS hh rfl 1 (by decide) (hts _ wi_41) (fun _ h9 => h9) rfl (by decide +kernel) rfl rfl (Nat.le_of_ble_eq_true rfl) de_R_cutDeletedTail_31 (fun H locs w_69 hw_70 hP hS => ?_)
          have h_71 : w_69 h = some (t0, .inr (cx_R, [.ref sl, .int (nI (n + 1 - 1))])) := dk_here hw_70
          have h_72 : w_69 sl = some (t1, dk_ca G 3 cap f) := dk_keep hw_70 hh hsl (by omega)
          have h_73 : w_69 a9 = some (0, .inr (cx_E, [.int (nI x.1), .int (nI x.2.1), .long x.2.2.1, .int (bo_i x.2.2.2)])) := dk_keep hw_70 hh ha7 (by omega)
          refine lv_goto (tgt := 0) hx hb de_R_cutDeletedTail_34 (by decide) ?_
          have hg2 := hg.tr ((dk_fr.rf).tr ((dk_fr.up (T := (fun t => t = t0 ∨ t = t1)) hh (Or.inl rfl)).eq hw_70))
          have hz9 : w_69 h = some (t0, .inr (cx_R, [.ref sl, .int (nI n)])) := h_71
          exact ih n (by omega) (by omega) (by rw [← hcd, cd_s hx9 c_68]) _ _ _ hz9 h_72 hg2 hP hS _ (lv_sub hl [0] rfl)
  exact lp (L.length + 1) L.length (by omega) (Nat.le_refl _) rfl _ _ _ hh hsl dk_fr.rf hP hS _ (lv_sub hl [0] rfl)
abbrev rm_R_hasKey : Room := { frames := 0, cells := 0, slots := 0, locals := 0 }
set_option maxHeartbeats 4000000 in
set_option maxRecDepth 100000 in
theorem c_R_hasKey (l : Launch) (G : dk_G) (w : dk_H) (h t0 t1 cap : Nat) (L : List en_T) (hr0 : rw_at G w h t0 t1 cap L) (k : Nat) (hk0 : k < 2 ^ 31) (hok : ∀ x ∈ L, en_ok x) : dk_Mi l my_R_hasKey (wd_c my_R_hasKey mb_R_hasKey 3 (some .boolean)) rm_R_hasKey G w [.ref h, .int (nI k)] (fun r w1 => r = bo_i (L.any (fun x => decide (x.1 = k))) ∧ w1 = w) 0 0 := by
  obtain ⟨sl, f, hh, hsl, hle, hcap, hf⟩ := hr0
  refine dk_enter (lv := [(0, .ref h), (1, .int (nI k))]) (by decide) (Nat.le_of_ble_eq_true rfl) rfl (fun p e s m args below meth c ls Q hQ C hP hS hl => ?_)
  obtain ⟨hx, hb, hr, hml, hlocks, hown, hnm, hts, hE⟩ := C
  have hK := hE.1
  have hN := hE.2.1
  refine lv_iconst (v := nI 0) hx hb de_R_hasKey_0 (by decide) ?_
  refine lv_istore_n (lv' := [(2, .int (nI 0)), (0, .ref h), (1, .int (nI k))]) hx hb de_R_hasKey_1 rfl hl (by decide) rfl (fun ls hl => ?_)
  have lp : ∀ (zk : Nat) (i : Nat), L.length - i < zk → (i ≤ L.length) → ((L.take i).any (fun x => decide (x.1 = k)) = false) → ∀ (ls : Array Slot), lv_has ls 3 [(0, .ref h), (1, .int (nI k)), (2, .int (nI i))] → W p l e rm_R_hasKey s m args below meth c s.heap [] 0 0 Q (F0 m 2 ls []) := by
    intro zk
    induction zk with
    | zero =>
      intro i hk
      exact absurd hk (by omega)
    | succ zk ih =>
      intro i hk hi hno
      intro ls hl
      refine lv_iload_n hx hb de_R_hasKey_2 rfl (lv_at hl 2 rfl) ?_
      refine lv_aload_n hx hb de_R_hasKey_3 rfl (lv_at hl 0 rfl) ?_
      refine dk_get (a := h) (v := .int (nI L.length)) (C := kn_R) (T := kt_R) (N := 2) hx hb hts ki_R hown hK hP hh rfl 1 (by decide) (hts _ wi_41) (fun _ h9 => h9) rfl de_R_hasKey_4 ?_
      refine nx_icmp_ge (a := i) (b := L.length) (tgt := 31) hx hb (by omega) (by omega) de_R_hasKey_7 (by decide) (fun c_74 => ?_) (fun c_74 => ?_)
      · refine lv_iconst (v := nI 0) hx hb de_R_hasKey_31 (by decide) ?_
        rw [List.take_of_length_le c_74] at hno
        exact dk_zret hQ hx hb hr hlocks hP hS (Nat.le_refl _) (Nat.le_refl _) (by decide +kernel) (⟨bo_of0 hno, rfl⟩) de_R_hasKey_32
      · refine lv_aload_n hx hb de_R_hasKey_10 rfl (lv_at hl 0 rfl) ?_
        refine dk_get (a := h) (v := .ref sl) (C := kn_R) (T := kt_R) (N := 2) hx hb hts ki_R hown hK hP hh rfl 0 (by decide) (hts _ wi_40) (fun _ h9 => h9) rfl de_R_hasKey_11 ?_
        refine lv_iload_n hx hb de_R_hasKey_14 rfl (lv_at hl 2 rfl) ?_
        obtain ⟨x, hx9⟩ := ge_at c_74
        obtain ⟨a9, ha9, ha8⟩ := hf _ _ hx9
        have hxk := (hok x (List.mem_of_getElem? hx9)).1
        refine dk_aald (a := sl) (r := some a9) (C := dk_nE) hx hb hK hP hsl rfl i rfl (by omega) (by omega) ha9 de_R_hasKey_15 ?_
        refine dk_getN (a := a9) (v := .int (nI x.1)) (C := kn_E) (T := kt_E) (N := 4) (host := "RunKeeper") hx hb hts ki_E hown hK hP ha8 rfl 0 (by decide) (hN.use (dn_m 446 (by decide +kernel) rfl)) (fun _ h9 => h9) rfl de_R_hasKey_16 ?_
        refine lv_iload_n hx hb de_R_hasKey_19 rfl (lv_at hl 1 rfl) ?_
        refine nx_icmp_ne (a := x.1) (b := k) (tgt := 25) hx hb (by omega) (by omega) de_R_hasKey_20 (by decide) (fun c_75 => ?_) (fun c_75 => ?_)
        · refine lv_iinc (v := nI (i + 1)) (lv' := [(2, .int (nI (i + 1))), (0, .ref h), (1, .int (nI k))]) hx hb de_R_hasKey_25 hl (k := 2) rfl (nx_inc i) (by decide) rfl (fun ls hl => ?_)
          refine lv_goto (tgt := 2) hx hb de_R_hasKey_28 (by decide) ?_
          exact ih (i + 1) (by omega) (by omega) (by rw [ta_s hx9, List.any_append, hno]; simp [c_75]) _ (lv_sub hl [1, 2, 0] rfl)
        · refine lv_iconst (v := nI 1) hx hb de_R_hasKey_23 (by decide) ?_
          exact dk_zret hQ hx hb hr hlocks hP hS (Nat.le_refl _) (Nat.le_refl _) (by decide +kernel) (⟨bo_of1 (List.any_eq_true.mpr ⟨x, List.mem_of_getElem? hx9, by simp [c_75]⟩), rfl⟩) de_R_hasKey_24
  exact lp (L.length + 1) 0 (by omega) (Nat.zero_le _) rfl _ (lv_sub hl [1, 2, 0] rfl)
abbrev rm_R_latestOf : Room := { frames := 0, cells := 0, slots := 0, locals := 0 }
set_option maxHeartbeats 4000000 in
set_option maxRecDepth 100000 in
theorem c_R_latestOf (l : Launch) (G : dk_G) (w : dk_H) (h t0 t1 cap : Nat) (L : List en_T) (hr0 : rw_at G w h t0 t1 cap L) (k u : Nat) (hk0 : k < 2 ^ 31) (hu0 : u < 2 ^ 31) (hok : ∀ x ∈ L, en_ok x) : dk_Mq l my_R_latestOf (wd_c my_R_latestOf mb_R_latestOf 6 (some (.object "RunKeeper$Entry"))) rm_R_latestOf G w [.ref h, .int (nI k), .int (nI u)] (fun r w1 => en_q w r (la_L k u L) ∧ w1 = w) 0 0 := by
  obtain ⟨sl, f, hh, hsl, hle, hcap, hf⟩ := hr0
  refine dk_enter (lv := [(0, .ref h), (1, .int (nI k)), (2, .int (nI u))]) (by decide) (Nat.le_of_ble_eq_true rfl) rfl (fun p e s m args below meth c ls Q hQ C hP hS hl => ?_)
  obtain ⟨hx, hb, hr, hml, hlocks, hown, hnm, hts, hE⟩ := C
  have hK := hE.1
  have hN := hE.2.1
  refine lv_null hx hb de_R_latestOf_0 ?_
  refine lv_astore_nN (lv' := [(3, .null), (0, .ref h), (1, .int (nI k)), (2, .int (nI u))]) hx hb de_R_latestOf_1 rfl hl (by decide) rfl (fun ls hl => ?_)
  refine lv_iconst (v := nI 0) hx hb de_R_latestOf_2 (by decide) ?_
  refine lv_istore (lv' := [(4, .int (nI 0)), (3, .null), (0, .ref h), (1, .int (nI k)), (2, .int (nI u))]) hx hb de_R_latestOf_3 hl (by decide) rfl (fun ls hl => ?_)
  have lp : ∀ (zk : Nat) (i : Nat) (r : Option Nat), L.length - i < zk → (i ≤ L.length) → (en_q w r (la_L k u (L.take i))) → ∀ (ls : Array Slot), lv_has ls 6 [(0, .ref h), (1, .int (nI k)), (2, .int (nI u)), (3, va_rf r), (4, .int (nI i))] → W p l e rm_R_latestOf s m args below meth c s.heap [] 0 0 Q (F0 m 5 ls []) := by
    intro zk
    induction zk with
    | zero =>
      intro i r hk
      exact absurd hk (by omega)
    | succ zk ih =>
      intro i r hk hi hq
      intro ls hl
      refine lv_iload hx hb de_R_latestOf_5 (lv_at hl 4 rfl) ?_
      refine lv_aload_n hx hb de_R_latestOf_7 rfl (lv_at hl 0 rfl) ?_
      refine dk_get (a := h) (v := .int (nI L.length)) (C := kn_R) (T := kt_R) (N := 2) hx hb hts ki_R hown hK hP hh rfl 1 (by decide) (hts _ wi_41) (fun _ h9 => h9) rfl de_R_latestOf_8 ?_
      refine nx_icmp_ge (a := i) (b := L.length) (tgt := 66) hx hb (by omega) (by omega) de_R_latestOf_11 (by decide) (fun c_76 => ?_) (fun c_76 => ?_)
      · rw [List.take_of_length_le c_76] at hq
        cases r with
        | none =>
          refine lv_aload_nN hx hb de_R_latestOf_66 rfl (lv_at hl 3 rfl) ?_
          exact dk_aret (r := none) hQ hx hb hr (Or.inl ⟨_, rfl⟩) hlocks hP hS (Nat.le_refl _) (Nat.le_refl _) (⟨hq, rfl⟩) de_R_latestOf_67
        | some b =>
          refine lv_aload_n hx hb de_R_latestOf_66 rfl (lv_at hl 3 rfl) ?_
          exact dk_aret (r := some b) hQ hx hb hr (Or.inl ⟨_, rfl⟩) hlocks hP hS (Nat.le_refl _) (Nat.le_refl _) (⟨hq, rfl⟩) de_R_latestOf_67
      · refine lv_aload_n hx hb de_R_latestOf_14 rfl (lv_at hl 0 rfl) ?_
        refine dk_get (a := h) (v := .ref sl) (C := kn_R) (T := kt_R) (N := 2) hx hb hts ki_R hown hK hP hh rfl 0 (by decide) (hts _ wi_40) (fun _ h9 => h9) rfl de_R_latestOf_15 ?_
        refine lv_iload hx hb de_R_latestOf_18 (lv_at hl 4 rfl) ?_
        obtain ⟨x, hx9⟩ := ge_at c_76
        obtain ⟨a9, ha9, ha8⟩ := hf _ _ hx9
        have hxk := (hok x (List.mem_of_getElem? hx9)).1
        have hxs := (hok x (List.mem_of_getElem? hx9)).2
        have hsn := la_snoc k u (L.take i) x
        rw [← ta_s hx9] at hsn
        refine dk_aald (a := sl) (r := some a9) (C := dk_nE) hx hb hK hP hsl rfl i rfl (by omega) (by omega) ha9 de_R_latestOf_20 ?_
        refine lv_astore (lv' := [(5, .ref a9), (0, .ref h), (1, .int (nI k)), (2, .int (nI u)), (3, va_rf r), (4, .int (nI i))]) hx hb de_R_latestOf_21 hl (by decide) (by cases r <;> rfl) (fun ls hl => ?_)
        refine lv_aload hx hb de_R_latestOf_23 (lv_at hl 0 rfl) ?_
        refine dk_getN (a := a9) (v := .int (nI x.1)) (C := kn_E) (T := kt_E) (N := 4) (host := "RunKeeper") hx hb hts ki_E hown hK hP ha8 rfl 0 (by decide) (hN.use (dn_m 446 (by decide +kernel) rfl)) (fun _ h9 => h9) rfl de_R_latestOf_25 ?_
        refine lv_iload_n hx hb de_R_latestOf_28 rfl (lv_at hl 2 rfl) ?_
        refine nx_icmp_ne (a := x.1) (b := k) (tgt := 60) hx hb (by omega) (by omega) de_R_latestOf_29 (by decide) (fun c_77 => ?_) (fun c_77 => ?_)
        · refine lv_iinc (v := nI (i + 1)) (lv' := [(4, .int (nI (i + 1))), (5, .ref a9), (0, .ref h), (1, .int (nI k)), (2, .int (nI u)), (3, va_rf r)]) hx hb de_R_latestOf_60 hl (k := 5) rfl (nx_inc i) (by decide) (by cases r <;> rfl) (fun ls hl => ?_)
          refine lv_goto (tgt := 5) hx hb de_R_latestOf_63 (by decide) ?_
          exact ih (i + 1) r (by omega) (by omega) (by rw [hsn, la_f, if_neg (fun z => c_77 z.1)]; exact hq) _ (lv_sub hl [2, 3, 4, 5, 0] rfl)
        · refine lv_aload hx hb de_R_latestOf_32 (lv_at hl 0 rfl) ?_
          refine dk_getN (a := a9) (v := .int (nI x.2.1)) (C := kn_E) (T := kt_E) (N := 4) (host := "RunKeeper") hx hb hts ki_E hown hK hP ha8 rfl 1 (by decide) (hN.use (dn_m 449 (by decide +kernel) rfl)) (fun _ h9 => h9) rfl de_R_latestOf_34 ?_
          refine lv_iload_n hx hb de_R_latestOf_37 rfl (lv_at hl 3 rfl) ?_
          refine nx_icmp_gt (a := x.2.1) (b := u) (tgt := 60) hx hb (by omega) (by omega) de_R_latestOf_38 (by decide) (fun c_78 => ?_) (fun c_78 => ?_)
          · refine lv_iinc (v := nI (i + 1)) (lv' := [(4, .int (nI (i + 1))), (5, .ref a9), (0, .ref h), (1, .int (nI k)), (2, .int (nI u)), (3, va_rf r)]) hx hb de_R_latestOf_60 hl (k := 5) rfl (nx_inc i) (by decide) (by cases r <;> rfl) (fun ls hl => ?_)
            refine lv_goto (tgt := 5) hx hb de_R_latestOf_63 (by decide) ?_
            exact ih (i + 1) r (by omega) (by omega) (by rw [hsn, la_f, if_neg (fun z => absurd z.2.1 (by omega))]; exact hq) _ (lv_sub hl [2, 3, 4, 5, 0] rfl)
          · cases hla : la_L k u (L.take i) with
            | none =>
              rw [hla] at hq hsn
              have hq0 : r = none := hq
              subst hq0
              refine lv_aload_nN hx hb de_R_latestOf_41 rfl (lv_at hl 4 rfl) ?_
              refine lv_ifnullN (tgt := 57) hx hb de_R_latestOf_42 (by decide) ?_
              refine lv_aload hx hb de_R_latestOf_57 (lv_at hl 0 rfl) ?_
              refine lv_astore_n (lv' := [(3, .ref a9), (5, .ref a9), (0, .ref h), (1, .int (nI k)), (2, .int (nI u)), (4, .int (nI i))]) hx hb de_R_latestOf_59 rfl hl (by decide) rfl (fun ls hl => ?_)
              refine lv_iinc (v := nI (i + 1)) (lv' := [(4, .int (nI (i + 1))), (3, .ref a9), (5, .ref a9), (0, .ref h), (1, .int (nI k)), (2, .int (nI u))]) hx hb de_R_latestOf_60 hl (k := 5) rfl (nx_inc i) (by decide) rfl (fun ls hl => ?_)
              refine lv_goto (tgt := 5) hx hb de_R_latestOf_63 (by decide) ?_
              exact ih (i + 1) (some a9) (by omega) (by omega) (by rw [hsn, la_f, if_pos ⟨c_77, c_78, rfl⟩]; exact ⟨a9, rfl, ha8⟩) _ (lv_sub hl [3, 4, 5, 1, 0] rfl)
            | some y =>
              rw [hla] at hq hsn
              obtain ⟨b, hb9, hb8⟩ := id hq
              subst hb9
              have hys : en_ok y := hok y (la_mem hla)
              have hys := hys.2
              refine lv_aload_n hx hb de_R_latestOf_41 rfl (lv_at hl 4 rfl) ?_
              refine lv_ifnull hx hb de_R_latestOf_42 ?_
              refine lv_aload_n hx hb de_R_latestOf_45 rfl (lv_at hl 4 rfl) ?_
              refine dk_getN (a := b) (v := .int (nI y.2.1)) (C := kn_E) (T := kt_E) (N := 4) (host := "RunKeeper") hx hb hts ki_E hown hK hP hb8 rfl 1 (by decide) (hN.use (dn_m 449 (by decide +kernel) rfl)) (fun _ h9 => h9) rfl de_R_latestOf_46 ?_
              refine lv_aload hx hb de_R_latestOf_49 (lv_at hl 0 rfl) ?_
              refine dk_getN (a := a9) (v := .int (nI x.2.1)) (C := kn_E) (T := kt_E) (N := 4) (host := "RunKeeper") hx hb hts ki_E hown hK hP ha8 rfl 1 (by decide) (hN.use (dn_m 449 (by decide +kernel) rfl)) (fun _ h9 => h9) rfl de_R_latestOf_51 ?_
              refine nx_icmp_ge (a := y.2.1) (b := x.2.1) (tgt := 60) hx hb (by omega) (by omega) de_R_latestOf_54 (by decide) (fun c_81 => ?_) (fun c_81 => ?_)
              · refine lv_iinc (v := nI (i + 1)) (lv' := [(4, .int (nI (i + 1))), (5, .ref a9), (0, .ref h), (1, .int (nI k)), (2, .int (nI u)), (3, .ref b)]) hx hb de_R_latestOf_60 hl (k := 5) rfl (nx_inc i) (by decide) rfl (fun ls hl => ?_)
                refine lv_goto (tgt := 5) hx hb de_R_latestOf_63 (by decide) ?_
                exact ih (i + 1) (some b) (by omega) (by omega) (by rw [hsn, la_f, if_neg (fun z => by have := z.2.2; simp at this; omega)]; exact hq) _ (lv_sub hl [2, 3, 4, 5, 0] rfl)
              · refine lv_aload hx hb de_R_latestOf_57 (lv_at hl 0 rfl) ?_
                refine lv_astore_n (lv' := [(3, .ref a9), (5, .ref a9), (0, .ref h), (1, .int (nI k)), (2, .int (nI u)), (4, .int (nI i))]) hx hb de_R_latestOf_59 rfl hl (by decide) rfl (fun ls hl => ?_)
                refine lv_iinc (v := nI (i + 1)) (lv' := [(4, .int (nI (i + 1))), (3, .ref a9), (5, .ref a9), (0, .ref h), (1, .int (nI k)), (2, .int (nI u))]) hx hb de_R_latestOf_60 hl (k := 5) rfl (nx_inc i) (by decide) rfl (fun ls hl => ?_)
                refine lv_goto (tgt := 5) hx hb de_R_latestOf_63 (by decide) ?_
                exact ih (i + 1) (some a9) (by omega) (by omega) (by rw [hsn, la_f, if_pos ⟨c_77, c_78, by simp; omega⟩]; exact ⟨a9, rfl, ha8⟩) _ (lv_sub hl [3, 4, 5, 1, 0] rfl)
  exact lp (L.length + 1) 0 none (by omega) (Nat.zero_le _) rfl _ (lv_sub hl [2, 3, 4, 1, 0] rfl)
