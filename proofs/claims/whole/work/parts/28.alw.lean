/-! ArrayList, walked (printed by gen/c_al.py) -/
abbrev rm_C_init : Room := { frames := 1, cells := 0, slots := 0, locals := 20 }
set_option maxHeartbeats 4000000 in
set_option maxRecDepth 100000 in
theorem c_C_init (l : Launch) (G : dk_G) (w : dk_H) (h : Nat) : dk_Mv l my_C_init (wd_c my_C_init mb_C_init 1 none) rm_C_init G w [.ref h] (fun w1 => w1 = w) 0 0 := by
  refine dk_enter (lv := [(0, .ref h)]) (by decide) (Nat.le_of_ble_eq_true rfl) rfl (fun p e s m args below meth c ls Q hQ C hP hS hl => ?_)
  obtain ⟨hx, hb, hr, hml, hlocks, hown, hnm, hts, hE⟩ := C
  have hK := hE.1
  have hN := hE.2.1
  refine lv_aload_n hx hb de_C_init_0 rfl (lv_at hl 0 rfl) ?_
  refine W.objInit hx hb hown (hts _ wi_81) (hts _ wi_30) (hts _ wi_31) rfl (by rw [hml]; exact hl.1) rfl de_C_init_1 (Nat.le_of_ble_eq_true rfl) (Nat.le_of_ble_eq_true rfl) ?_
  refine W.eq (g2 := F0 m 4 ls []) rfl ?_
  exact dk_vret hQ hx hb hr hlocks hP hS (Nat.le_refl _) (Nat.le_refl _) rfl de_C_init_4
abbrev rm_B_init : Room := { frames := 2, cells := 0, slots := 0, locals := 40 }
set_option maxHeartbeats 4000000 in
set_option maxRecDepth 100000 in
theorem c_B_init (l : Launch) (G : dk_G) (w : dk_H) (h t0 : Nat) (hh : w h = some (t0, .inr (cx_A, [.int 0, .null, .int 0]))) : dk_Mv l my_B_init (wd_c my_B_init mb_B_init 1 none) rm_B_init G w [.ref h] (fun w1 => w1 = va_up w h (some (t0, .inr (cx_A, [.int (nI 0), .null, .int 0])))) 0 0 := by
  refine dk_enter (lv := [(0, .ref h)]) (by decide) (Nat.le_of_ble_eq_true rfl) rfl (fun p e s m args below meth c ls Q hQ C hP hS hl => ?_)
  obtain ⟨hx, hb, hr, hml, hlocks, hown, hnm, hts, hE⟩ := C
  have hK := hE.1
  have hN := hE.2.1
  refine lv_aload_n hx hb de_B_init_0 rfl (lv_at hl 0 rfl) ?_
  refine dk_callv (va_runI (As := []) (rest := []) ⟨hx, hb, hml, hown, hts⟩ (c_C_init l G w h) (cwI 0 hts (wd_g wi_80) rfl rfl rfl (hts _ wi_5) (hts _ wi_78) (hts _ wi_79) rfl (by decide +kernel) ⟨Nat.le_of_ble_eq_true rfl, Nat.le_of_ble_eq_true rfl⟩) (dk_preS hE hP hS) rfl rfl hl.1 rfl (lv_room (Nat.le_of_ble_eq_true rfl)) de_B_init_1 ⟨(by first | exact Nat.le_of_ble_eq_true rfl | (simp only [Nat.zero_add]; omega) | omega), (by first | exact Nat.le_of_ble_eq_true rfl | (simp only [Nat.zero_add]; omega) | omega)⟩) hS (fun w_175 H locs hq_176 hP hS => ?_)
  rw [hq_176] at hP
  refine lv_aload_n hx hb de_B_init_4 rfl (lv_at hl 0 rfl) ?_
  refine lv_iconst (v := nI 0) hx hb de_B_init_5 (by decide) ?_
  refine dk_put (a := h) (v := .int (nI 0)) (ty := .int) (C := kn_A) (T := kt_A) (N := 3) hx hb hts ki_A ky_A kk_A kd_A hown hK hP hS hh rfl 0 (by decide) (hts _ wi_86) (fun _ h9 => h9) rfl (by decide +kernel) rfl rfl (Nat.le_of_ble_eq_true rfl) de_B_init_6 (fun H locs w_178 hw_179 hP hS => ?_)
  have h_180 : w_178 h = some (t0, .inr (cx_A, [.int (nI 0), .null, .int 0])) := dk_here hw_179
  exact dk_vret hQ hx hb hr hlocks hP hS (Nat.le_refl _) (Nat.le_refl _) (by rw [hw_179]; rfl) de_B_init_9
abbrev rm_A_init : Room := { frames := 3, cells := 0, slots := 0, locals := 60 }
set_option maxHeartbeats 4000000 in
set_option maxRecDepth 100000 in
theorem c_A_init (l : Launch) (G : dk_G) (w : dk_H) (h t0 t1 : Nat) (hh : w h = some (t0, .inr (cx_A, [.int 0, .null, .int 0]))) : dk_Mv l my_A_init (wd_c my_A_init mb_A_init 1 none) rm_A_init G w [.ref h] (fun w1 => al_at G w1 h t0 t1 [] ∧ dk_fr (fun t => t = t0) w w1) 0 0 := by
  refine dk_enter (lv := [(0, .ref h)]) (by decide) (Nat.le_of_ble_eq_true rfl) rfl (fun p e s m args below meth c ls Q hQ C hP hS hl => ?_)
  obtain ⟨hx, hb, hr, hml, hlocks, hown, hnm, hts, hE⟩ := C
  have hK := hE.1
  have hN := hE.2.1
  refine lv_aload_n hx hb de_A_init_0 rfl (lv_at hl 0 rfl) ?_
  refine dk_callv (va_runI (As := []) (rest := []) ⟨hx, hb, hml, hown, hts⟩ (c_B_init l G w h t0 hh) (cwI 0 hts (wd_g wi_77) rfl rfl rfl (hts _ wi_6) (hts _ wi_75) (hts _ wi_76) rfl (by decide +kernel) ⟨Nat.le_of_ble_eq_true rfl, Nat.le_of_ble_eq_true rfl⟩) (dk_preS hE hP hS) rfl rfl hl.1 rfl (lv_room (Nat.le_of_ble_eq_true rfl)) de_A_init_1 ⟨(by first | exact Nat.le_of_ble_eq_true rfl | (simp only [Nat.zero_add]; omega) | omega), (by first | exact Nat.le_of_ble_eq_true rfl | (simp only [Nat.zero_add]; omega) | omega)⟩) hS (fun w_181 H locs hq_182 hP hS => ?_)
  have h_184 : w_181 h = some (t0, .inr (cx_A, [.int (nI 0), .null, .int 0])) := dk_here hq_182
  refine lv_aload_n hx hb de_A_init_4 rfl (lv_at hl 0 rfl) ?_
  refine va_gets hx hb hE.2.2.1.2.1.1 hS hown (hts _ wi_82) (fun _ h9 => h9) de_A_init_5 ?_
  refine dk_put (a := h) (v := .ref (G.2.2.2 1)) (ty := (.array (.object "java/lang/Object"))) (C := kn_A) (T := kt_A) (N := 3) hx hb hts ki_A ky_A kk_A kd_A hown hK hP hS h_184 rfl 1 (by decide) (hts _ wi_84) (fun _ h9 => h9) rfl (by decide +kernel) rfl rfl (Nat.le_of_ble_eq_true rfl) de_A_init_8 (fun H locs w_185 hw_186 hP hS => ?_)
  have h_187 : w_185 h = some (t0, .inr (cx_A, [.int (nI 0), .ref (G.2.2.2 1), .int 0])) := dk_here hw_186
  exact dk_vret hQ hx hb hr hlocks hP hS (Nat.le_refl _) (Nat.le_refl _) (⟨⟨nI 0, G.2.2.2 1, h_187, Or.inl ⟨rfl, rfl⟩⟩, ((dk_fr.rf).tr ((dk_fr.up (T := fun t => t = t0) hh rfl).eq hq_182)).tr ((dk_fr.up (T := fun t => t = t0) h_184 rfl).eq hw_186)⟩) de_A_init_11
abbrev rm_A_size : Room := { frames := 0, cells := 0, slots := 0, locals := 0 }
set_option maxHeartbeats 4000000 in
set_option maxRecDepth 100000 in
theorem c_A_size (l : Launch) (G : dk_G) (w : dk_H) (h t0 t1 : Nat) (xs : List Nat) (ha0 : al_at G w h t0 t1 xs) : dk_Mi l my_A_size (wd_c my_A_size mb_A_size 1 (some .int)) rm_A_size G w [.ref h] (fun r w1 => r = nI xs.length ∧ w1 = w) 0 0 := by
  obtain ⟨mo, ed, hh, he⟩ := ha0
  refine dk_enter (lv := [(0, .ref h)]) (by decide) (Nat.le_of_ble_eq_true rfl) rfl (fun p e s m args below meth c ls Q hQ C hP hS hl => ?_)
  obtain ⟨hx, hb, hr, hml, hlocks, hown, hnm, hts, hE⟩ := C
  have hK := hE.1
  have hN := hE.2.1
  refine lv_aload_n hx hb de_A_size_0 rfl (lv_at hl 0 rfl) ?_
  refine dk_get (a := h) (v := .int (nI xs.length)) (C := kn_A) (T := kt_A) (N := 3) hx hb hts ki_A hown hK hP hh rfl 2 (by decide) (hts _ wi_85) (fun _ h9 => h9) rfl de_A_size_1 ?_
  exact dk_iret hQ hx hb hr hlocks hP hS (Nat.le_refl _) (Nat.le_refl _) (⟨rfl, rfl⟩) de_A_size_4
abbrev rm_P_checkIndex : Room := { frames := 0, cells := 0, slots := 0, locals := 0 }
set_option maxHeartbeats 4000000 in
set_option maxRecDepth 100000 in
theorem c_P_checkIndex (l : Launch) (G : dk_G) (w : dk_H) (i n : Nat) (hi : i < n) (hn : n < 2 ^ 31) : dk_Mi l my_P_checkIndex (wd_c my_P_checkIndex mb_P_checkIndex 3 (some .int)) rm_P_checkIndex G w [.int (nI i), .int (nI n), .null] (fun r w1 => r = nI i ∧ w1 = w) 0 0 := by
  refine dk_enter (lv := [(0, .int (nI i)), (1, .int (nI n)), (2, .null)]) (by decide) (Nat.le_of_ble_eq_true rfl) rfl (fun p e s m args below meth c ls Q hQ C hP hS hl => ?_)
  obtain ⟨hx, hb, hr, hml, hlocks, hown, hnm, hts, hE⟩ := C
  have hK := hE.1
  have hN := hE.2.1
  refine lv_iload_n hx hb de_P_checkIndex_0 rfl (lv_at hl 0 rfl) ?_
  refine nx_if_lt (a := i) (tgt := 9) hx hb (by omega) de_P_checkIndex_1 (by decide) ?_
  refine lv_iload_n hx hb de_P_checkIndex_4 rfl (lv_at hl 0 rfl) ?_
  refine lv_iload_n hx hb de_P_checkIndex_5 rfl (lv_at hl 1 rfl) ?_
  refine nx_icmp_lt (a := i) (b := n) (tgt := 16) hx hb (by omega) (by omega) de_P_checkIndex_6 (by decide) (fun c_189 => ?_) (fun c_189 => ?_)
  · refine lv_iload_n hx hb de_P_checkIndex_16 rfl (lv_at hl 0 rfl) ?_
    exact dk_iret hQ hx hb hr hlocks hP hS (Nat.le_refl _) (Nat.le_refl _) (⟨rfl, rfl⟩) de_P_checkIndex_17
  · exact absurd c_189 (by omega)
abbrev rm_O_checkIndex : Room := { frames := 1, cells := 0, slots := 0, locals := 22 }
set_option maxHeartbeats 4000000 in
set_option maxRecDepth 100000 in
theorem c_O_checkIndex (l : Launch) (G : dk_G) (w : dk_H) (i n : Nat) (hi : i < n) (hn : n < 2 ^ 31) : dk_Mi l my_O_checkIndex (wd_c my_O_checkIndex mb_O_checkIndex 2 (some .int)) rm_O_checkIndex G w [.int (nI i), .int (nI n)] (fun r w1 => r = nI i ∧ w1 = w) 0 0 := by
  refine dk_enter (lv := [(0, .int (nI i)), (1, .int (nI n))]) (by decide) (Nat.le_of_ble_eq_true rfl) rfl (fun p e s m args below meth c ls Q hQ C hP hS hl => ?_)
  obtain ⟨hx, hb, hr, hml, hlocks, hown, hnm, hts, hE⟩ := C
  have hK := hE.1
  have hN := hE.2.1
  refine lv_iload_n hx hb de_O_checkIndex_0 rfl (lv_at hl 0 rfl) ?_
  refine lv_iload_n hx hb de_O_checkIndex_1 rfl (lv_at hl 1 rfl) ?_
  refine lv_null hx hb de_O_checkIndex_2 ?_
  refine dk_calli (va_runS (As := [.int (nI i), .int (nI n), .null]) (rest := []) ⟨hx, hb, hml, hown, hts⟩ (c_P_checkIndex l G w i n hi hn) (va_cwS 3 hts (wd_gS wi_314 wi_312 wi_313 wi_22) rfl rfl rfl (by decide +kernel) ⟨Nat.le_of_ble_eq_true rfl, Nat.le_of_ble_eq_true rfl⟩) (dk_preS hE hP hS) rfl rfl hl.1 rfl (lv_room (Nat.le_of_ble_eq_true rfl)) de_O_checkIndex_3 ⟨(by first | exact Nat.le_of_ble_eq_true rfl | (simp only [Nat.zero_add]; omega) | omega), (by first | exact Nat.le_of_ble_eq_true rfl | (simp only [Nat.zero_add]; omega) | omega)⟩) hS (fun r_192 w_190 H locs hq_191 hP hS => ?_)
  obtain ⟨hr_193, he_194⟩ := hq_191
  subst hr_193
  rw [he_194] at hP
  exact dk_iret hQ hx hb hr hlocks hP hS (Nat.le_refl _) (Nat.le_refl _) (⟨rfl, rfl⟩) de_O_checkIndex_6
abbrev rm_A_elementData : Room := { frames := 0, cells := 0, slots := 0, locals := 0 }
set_option maxHeartbeats 4000000 in
set_option maxRecDepth 100000 in
theorem c_A_elementData (l : Launch) (G : dk_G) (w : dk_H) (h t0 t1 : Nat) (xs : List Nat) (ha0 : al_at G w h t0 t1 xs) (i x : Nat) (hx0 : xs[i]? = some x) : dk_Mq l my_A_elementData (wd_c my_A_elementData mb_A_elementData 2 (some (.object "java/lang/Object"))) rm_A_elementData G w [.ref h, .int (nI i)] (fun r w1 => r = some x ∧ w1 = w) 0 0 := by
  obtain ⟨mo, ed, hh, he⟩ := ha0
  have hil := (List.getElem?_eq_some_iff.mp hx0).1
  rcases he with ⟨h1, h2⟩ | ⟨cap, f, hed, h3, h4, h5, hf⟩
  · subst h2; simp at hx0
  refine dk_enter (lv := [(0, .ref h), (1, .int (nI i))]) (by decide) (Nat.le_of_ble_eq_true rfl) rfl (fun p e s m args below meth c ls Q hQ C hP hS hl => ?_)
  obtain ⟨hx, hb, hr, hml, hlocks, hown, hnm, hts, hE⟩ := C
  have hK := hE.1
  have hN := hE.2.1
  refine lv_aload_n hx hb de_A_elementData_0 rfl (lv_at hl 0 rfl) ?_
  refine dk_get (a := h) (v := .ref ed) (C := kn_A) (T := kt_A) (N := 3) hx hb hts ki_A hown hK hP hh rfl 1 (by decide) (hts _ wi_84) (fun _ h9 => h9) rfl de_A_elementData_1 ?_
  refine lv_iload_n hx hb de_A_elementData_4 rfl (lv_at hl 1 rfl) ?_
  refine dk_aald (a := ed) (r := some x) (C := dk_nO) hx hb hK hP hed rfl i rfl (by omega) (by omega) (hf i x hx0) de_A_elementData_5 ?_
  exact dk_aret (r := some x) hQ hx hb hr (Or.inl ⟨_, rfl⟩) hlocks hP hS (Nat.le_refl _) (Nat.le_refl _) (⟨rfl, rfl⟩) de_A_elementData_6
abbrev rm_A_get : Room := { frames := 2, cells := 0, slots := 0, locals := 43 }
set_option maxHeartbeats 4000000 in
set_option maxRecDepth 100000 in
theorem c_A_get (l : Launch) (G : dk_G) (w : dk_H) (h t0 t1 : Nat) (xs : List Nat) (ha0 : al_at G w h t0 t1 xs) (i x : Nat) (hx0 : xs[i]? = some x) (hlen : xs.length < 2 ^ 31) : dk_Mq l my_A_get (wd_c my_A_get mb_A_get 2 (some (.object "java/lang/Object"))) rm_A_get G w [.ref h, .int (nI i)] (fun r w1 => r = some x ∧ w1 = w) 0 0 := by
  have ha1 := ha0
  obtain ⟨mo, ed, hh, he⟩ := ha0
  have hil := (List.getElem?_eq_some_iff.mp hx0).1
  refine dk_enter (lv := [(0, .ref h), (1, .int (nI i))]) (by decide) (Nat.le_of_ble_eq_true rfl) rfl (fun p e s m args below meth c ls Q hQ C hP hS hl => ?_)
  obtain ⟨hx, hb, hr, hml, hlocks, hown, hnm, hts, hE⟩ := C
  have hK := hE.1
  have hN := hE.2.1
  refine lv_iload_n hx hb de_A_get_0 rfl (lv_at hl 1 rfl) ?_
  refine lv_aload_n hx hb de_A_get_1 rfl (lv_at hl 0 rfl) ?_
  refine dk_get (a := h) (v := .int (nI xs.length)) (C := kn_A) (T := kt_A) (N := 3) hx hb hts ki_A hown hK hP hh rfl 2 (by decide) (hts _ wi_85) (fun _ h9 => h9) rfl de_A_get_2 ?_
  refine dk_calli (va_runS (As := [.int (nI i), .int (nI xs.length)]) (rest := []) ⟨hx, hb, hml, hown, hts⟩ (c_O_checkIndex l G w i xs.length hil hlen) (va_cwS 2 hts (wd_gS wi_311 wi_309 wi_310 wi_21) rfl rfl rfl (by decide +kernel) ⟨Nat.le_of_ble_eq_true rfl, Nat.le_of_ble_eq_true rfl⟩) (dk_preS hE hP hS) rfl rfl hl.1 rfl (lv_room (Nat.le_of_ble_eq_true rfl)) de_A_get_5 ⟨(by first | exact Nat.le_of_ble_eq_true rfl | (simp only [Nat.zero_add]; omega) | omega), (by first | exact Nat.le_of_ble_eq_true rfl | (simp only [Nat.zero_add]; omega) | omega)⟩) hS (fun r_197 w_195 H locs hq_196 hP hS => ?_)
  obtain ⟨hr_198, he_199⟩ := hq_196
  subst hr_198
  rw [he_199] at hP
  refine lv_pop hx hb de_A_get_8 rfl ?_
  refine lv_aload_n hx hb de_A_get_9 rfl (lv_at hl 0 rfl) ?_
  refine lv_iload_n hx hb de_A_get_10 rfl (lv_at hl 1 rfl) ?_
  refine dk_callq (va_runV (As := [.int (nI i)]) (rest := []) ⟨hx, hb, hml, hown, hts⟩ (c_A_elementData l G w h t0 t1 xs ha1 i x hx0) (cwV 1 hts (wd_gV (C := "java/util/ArrayList") wi_318 wi_315 wi_316 wi_317 wi_7) rfl rfl rfl (by decide +kernel) ⟨Nat.le_of_ble_eq_true rfl, Nat.le_of_ble_eq_true rfl⟩) (dk_preV (kn_A, kt_A, 3) hE hP hS hh rfl) rfl rfl hl.1 rfl (lv_room (Nat.le_of_ble_eq_true rfl)) de_A_get_11 ⟨(by first | exact Nat.le_of_ble_eq_true rfl | (simp only [Nat.zero_add]; omega) | omega), (by first | exact Nat.le_of_ble_eq_true rfl | (simp only [Nat.zero_add]; omega) | omega)⟩) hS (fun r_202 w_200 H locs hq_201 hP hS => ?_)
  exact dk_aret (r := r_202) hQ hx hb hr (Or.inl ⟨_, rfl⟩) hlocks hP hS (Nat.le_refl _) (Nat.le_refl _) (⟨hq_201.1, hq_201.2⟩) de_A_get_14
