/-! ArrayList, the rest (printed by gen/c_al2.py) -/
theorem al_snoc {xs : List Nat} {f : Nat → Option Nat} {z : Nat} (hf : ∀ i x, xs[i]? = some x → f i = some x) : ∀ i x, (xs ++ [z])[i]? = some x → va_up f xs.length (some z) i = some x := by
  intro i x h
  by_cases hi : i < xs.length
  · rw [List.getElem?_append_left hi] at h
    rw [dk_un (by omega)]
    exact hf i x h
  · rw [List.getElem?_append_right (by omega)] at h
    have hz : i - xs.length < 1 := (List.getElem?_eq_some_iff.mp h).1
    have e : i = xs.length := by omega
    subst e
    rw [Nat.sub_self] at h
    cases h
    exact dk_us
abbrev rm_D_newLength : Room := { frames := 1, cells := 0, slots := 0, locals := 24 }
set_option maxHeartbeats 4000000 in
set_option maxRecDepth 100000 in
theorem c_D_newLength (l : Launch) (G : dk_G) (w : dk_H) (n : Nat) (hn : n ≤ 600) (h10 : 10 ≤ n) : dk_Mi l my_D_newLength (wd_c my_D_newLength mb_D_newLength 4 (some .int)) rm_D_newLength G w [.int (nI n), .int (nI 1), .int (nI (n / 2))] (fun r w1 => r = nI (n + n / 2) ∧ w1 = w) 0 0 := by
  refine dk_enter (lv := [(0, .int (nI n)), (1, .int (nI 1)), (2, .int (nI (n / 2)))]) (by decide) (Nat.le_of_ble_eq_true rfl) rfl (fun p e s m args below meth c ls Q hQ C hP hS hl => ?_)
  obtain ⟨hx, hb, hr, hml, hlocks, hown, hnm, hts, hE⟩ := C
  have hK := hE.1
  have hN := hE.2.1
  refine lv_iload_n hx hb de_D_newLength_0 rfl (lv_at hl 0 rfl) ?_
  refine lv_iload_n hx hb de_D_newLength_1 rfl (lv_at hl 1 rfl) ?_
  refine lv_iload_n hx hb de_D_newLength_2 rfl (lv_at hl 2 rfl) ?_
  refine va_mmax hx hb (by rw [hml]; exact hl.1.symm) hown (hts _ wi_231) (hts _ wi_232) (hts _ wi_17) (hts _ wi_233) (Nat.le_of_ble_eq_true rfl) (Nat.le_of_ble_eq_true rfl) (by first | exact Nat.le_of_ble_eq_true rfl | (simp only [Nat.zero_add]; omega) | omega) (by first | exact Nat.le_of_ble_eq_true rfl | (simp only [Nat.zero_add]; omega) | omega) (x := nI 1) (y := nI (n / 2)) (rest := [.int (nI n)]) de_D_newLength_3 ?_
  rw [nx_max (a := 1) (b := n / 2) (by omega) (by omega)]
  refine nx_iadd (a := n) (b := max 1 (n / 2)) hx hb de_D_newLength_6 ?_
  refine lv_istore_n (lv' := [(3, .int (nI (n + (max 1 (n / 2))))), (0, .int (nI n)), (1, .int (nI 1)), (2, .int (nI (n / 2)))]) hx hb de_D_newLength_7 rfl hl (by decide) rfl (fun ls hl => ?_)
  refine lv_iconst (v := nI 0) hx hb de_D_newLength_8 (by decide) ?_
  refine lv_iload_n hx hb de_D_newLength_9 rfl (lv_at hl 0 rfl) ?_
  refine nx_icmp_ge (a := 0) (b := n + (max 1 (n / 2))) (tgt := 21) hx hb (by omega) (by omega) de_D_newLength_10 (by decide) (fun c_203 => ?_) (fun c_203 => ?_)
  · exact absurd c_203 (by omega)
  · refine lv_iload_n hx hb de_D_newLength_13 rfl (lv_at hl 0 rfl) ?_
    refine lv_ldc (v := nI 2147483639) hx hb hown (hts _ wi_234) de_D_newLength_14 ?_
    refine nx_icmp_gt (a := n + (max 1 (n / 2))) (b := 2147483639) (tgt := 21) hx hb (by omega) (by omega) de_D_newLength_16 (by decide) (fun c_204 => ?_) (fun c_204 => ?_)
    · exact absurd c_204 (by omega)
    · refine lv_iload_n hx hb de_D_newLength_19 rfl (lv_at hl 0 rfl) ?_
      exact dk_iret hQ hx hb hr hlocks hP hS (Nat.le_refl _) (Nat.le_refl _) (⟨by congr 1; omega, rfl⟩) de_D_newLength_20
abbrev rm_G_copyOf2 (n : Nat) : Room := { frames := 1, cells := 1, slots := (n + n / 2), locals := 40 }
set_option maxHeartbeats 4000000 in
set_option maxRecDepth 100000 in
theorem c_G_copyOf2 (l : Launch) (G : dk_G) (w : dk_H) (a t1 n : Nat) (f : Nat → Option Nat) (ha : w a = some (t1, dk_ca G 5 n f)) (hn : n ≤ 600) (h10 : 10 ≤ n) (hel : ∀ i, i < n → ∀ y, f i = some y → ∃ fs, w y = some (0, .inr (cx_U, fs))) : dk_Mq l my_G_copyOf2 (wd_c my_G_copyOf2 mb_G_copyOf2 4 (some (.array (.object "java/lang/Object")))) (rm_G_copyOf2 n) G w [.ref a, .int (nI (n + n / 2)), .ref (G.2.2.2 2)] (fun r w1 => ∃ q, r = some q ∧ w q = none ∧ w1 = va_up w q (some (t1, dk_ca G 5 (n + n / 2) (va_cpy f (fun _ => none) 0 0 n)))) 1 (n + n / 2) := by
  refine dk_enter (lv := [(0, .ref a), (1, .int (nI (n + n / 2))), (2, .ref (G.2.2.2 2))]) (by decide) (Nat.le_of_ble_eq_true rfl) rfl (fun p e s m args below meth c ls Q hQ C hP hS hl => ?_)
  obtain ⟨hx, hb, hr, hml, hlocks, hown, hnm, hts, hE⟩ := C
  have hK := hE.1
  have hN := hE.2.1
  refine lv_aload_n hx hb de_G_copyOf2_0 rfl (lv_at hl 2 rfl) ?_
  refine va_ldcM hx hb hown (hts _ wi_260) hE.2.2.1.2.2.2.2.2.2.1 de_G_copyOf2_1 ?_
  refine lv_acmp_ne (rx := some (G.2.2.2 2)) (ry := some (G.2.2.2 2)) (tgt := 13) hx hb de_G_copyOf2_3 (by decide) (fun z => absurd rfl z) (fun _ => ?_)
  refine lv_iload_n hx hb de_G_copyOf2_6 rfl (lv_at hl 1 rfl) ?_
  refine dk_newq t1 5 (C := "java/lang/Object") (N' := (n + n / 2)) hx hb hown (hts _ wi_262) (va_AO.use hE.2.2.1.2.2.2.2.2.2.2.2.2) hK hP hS hE.2.2.2 rfl rfl (by omega) (by omega) (by first | exact Nat.le_of_ble_eq_true rfl | (simp only [Nat.zero_add]; omega) | omega) (by first | exact Nat.le_of_ble_eq_true rfl | (simp only [Nat.zero_add]; omega) | omega) de_G_copyOf2_7 (fun q_205 H w_206 hn_208 hw_207 hP hS => ?_)
  have h_209 : w_206 q_205 = some (t1, dk_ca G 5 (n + n / 2) (fun _ => none)) := dk_here hw_207
  have h_210 : w_206 a = some (t1, dk_ca G 5 n f) := dk_keepN hw_207 hn_208 ha
  refine lv_goto (tgt := 24) hx hb de_G_copyOf2_10 (by decide) ?_
  refine lv_astore_n (lv' := [(3, .ref q_205), (0, .ref a), (1, .int (nI (n + n / 2))), (2, .ref (G.2.2.2 2))]) hx hb de_G_copyOf2_24 rfl hl (by decide) rfl (fun ls hl => ?_)
  refine lv_aload_n hx hb de_G_copyOf2_25 rfl (lv_at hl 1 rfl) ?_
  refine lv_iconst (v := nI 0) hx hb de_G_copyOf2_26 (by decide) ?_
  refine lv_aload_n hx hb de_G_copyOf2_27 rfl (lv_at hl 0 rfl) ?_
  refine lv_iconst (v := nI 0) hx hb de_G_copyOf2_28 (by decide) ?_
  refine lv_aload_n hx hb de_G_copyOf2_29 rfl (lv_at hl 1 rfl) ?_
  refine dk_alen (a := a) hx hb hK hP h_210 5 rfl de_G_copyOf2_30 ?_
  refine lv_iload_n hx hb de_G_copyOf2_31 rfl (lv_at hl 2 rfl) ?_
  refine va_mmin hx hb (by rw [hml]; exact hl.1.symm) hown (hts _ wi_263) (hts _ wi_264) (hts _ wi_17) (hts _ wi_265) (Nat.le_of_ble_eq_true rfl) (Nat.le_of_ble_eq_true rfl) (by first | exact Nat.le_of_ble_eq_true rfl | (simp only [Nat.zero_add]; omega) | omega) (by first | exact Nat.le_of_ble_eq_true rfl | (simp only [Nat.zero_add]; omega) | omega) (x := nI n) (y := nI (n + n / 2)) (rest := [.int (nI 0), .ref q_205, .int (nI 0), .ref a]) de_G_copyOf2_32 ?_
  rw [nx_min (a := n) (b := n + n / 2) (by omega) (by omega)]
  rw [show min n (n + n / 2) = n by omega]
  have hne : a ≠ q_205 := dk_nn ha hn_208
  refine dk_copyM (a := q_205) (a0 := a) hx hb (by rw [hml]; exact hl.1.symm) hown (hts _ wi_266) (hts _ wi_268) (hts _ wi_267) (hts _ wi_19) hK hP hS h_210 h_209 hne n (by omega) (by omega) (by omega) (fun i hi y hy => ?_) (Nat.le_of_ble_eq_true rfl) (Nat.le_of_ble_eq_true rfl) de_G_copyOf2_35 (fun H locs w_211 hw_212 hP hS => ?_)
  · obtain ⟨fs, hfs⟩ := hel i hi y hy
    exact dk_any hK hP (dk_keepN hw_207 hn_208 hfs) (r := (kn_U, kt_U, 2)) rfl (hN _ (dn_m 927 (by decide +kernel) rfl))
  · refine lv_aload_n hx hb de_G_copyOf2_38 rfl (lv_at hl 0 rfl) ?_
    exact dk_aret (r := some q_205) hQ hx hb hr (Or.inr ⟨_, rfl⟩) hlocks hP hS (by omega) (by omega) (⟨q_205, rfl, hn_208, by rw [hw_212, hw_207, bx_uu]⟩) de_G_copyOf2_39
abbrev rm_G_copyOf (n : Nat) : Room := { frames := 2, cells := 1, slots := (n + n / 2), locals := 63 }
set_option maxHeartbeats 4000000 in
set_option maxRecDepth 100000 in
theorem c_G_copyOf (l : Launch) (G : dk_G) (w : dk_H) (a t1 n : Nat) (f : Nat → Option Nat) (ha : w a = some (t1, dk_ca G 5 n f)) (hn : n ≤ 600) (h10 : 10 ≤ n) (hel : ∀ i, i < n → ∀ y, f i = some y → ∃ fs, w y = some (0, .inr (cx_U, fs))) : dk_Mq l my_G_copyOf (wd_c my_G_copyOf mb_G_copyOf 2 (some (.array (.object "java/lang/Object")))) (rm_G_copyOf n) G w [.ref a, .int (nI (n + n / 2))] (fun r w1 => ∃ q, r = some q ∧ w q = none ∧ w1 = va_up w q (some (t1, dk_ca G 5 (n + n / 2) (va_cpy f (fun _ => none) 0 0 n)))) 1 (n + n / 2) := by
  refine dk_enter (lv := [(0, .ref a), (1, .int (nI (n + n / 2)))]) (by decide) (Nat.le_of_ble_eq_true rfl) rfl (fun p e s m args below meth c ls Q hQ C hP hS hl => ?_)
  obtain ⟨hx, hb, hr, hml, hlocks, hown, hnm, hts, hE⟩ := C
  have hK := hE.1
  have hN := hE.2.1
  refine lv_aload_n hx hb de_G_copyOf_0 rfl (lv_at hl 0 rfl) ?_
  refine lv_iload_n hx hb de_G_copyOf_1 rfl (lv_at hl 1 rfl) ?_
  refine lv_aload_n hx hb de_G_copyOf_2 rfl (lv_at hl 0 rfl) ?_
  refine va_getC (a := a) (C := "[Ljava/lang/Object;") hx hb (by rw [hml]; exact hl.1.symm) hown (hts _ wi_241) (hN.use (dn_m 920 (by decide +kernel) rfl)) (hts _ wi_919) (hts _ wi_242) (hts _ wi_256) hE.2.2.1.2.2.2.2.2.2.1 ⟨_, (hP a t1 _ ha).2, rfl, va_nmO (hK.2 5 _ rfl).2 rfl⟩ (Nat.le_of_ble_eq_true rfl) (Nat.le_of_ble_eq_true rfl) de_G_copyOf_3 ?_
  refine dk_callq (va_runS (As := [.ref a, .int (nI (n + n / 2)), .ref (G.2.2.2 2)]) (rest := []) ⟨hx, hb, hml, hown, hts⟩ (c_G_copyOf2 l G w a t1 n f ha hn h10 hel) (va_cwS 3 hts (wd_gS wi_259 wi_257 wi_258 wi_18) rfl rfl rfl (by decide +kernel) ⟨Nat.le_of_ble_eq_true rfl, Nat.le_of_ble_eq_true rfl⟩) (dk_preS hE hP hS) rfl rfl hl.1 rfl (lv_room (Nat.le_of_ble_eq_true rfl)) de_G_copyOf_6 ⟨(by first | exact Nat.le_of_ble_eq_true rfl | (simp only [Nat.zero_add]; omega) | omega), (by first | exact Nat.le_of_ble_eq_true rfl | (simp only [Nat.zero_add]; omega) | omega)⟩) hS (fun r_215 w_213 H locs hq_214 hP hS => ?_)
  exact dk_aret (r := r_215) hQ hx hb hr (Or.inr ⟨_, rfl⟩) hlocks hP hS (by omega) (by omega) hq_214 de_G_copyOf_9
abbrev rm_A_grow2 : Room := { frames := 3, cells := 1, slots := 900, locals := 84 }
set_option maxHeartbeats 4000000 in
set_option maxRecDepth 100000 in
theorem c_A_grow2 (l : Launch) (G : dk_G) (w : dk_H) (h t0 t1 : Nat) (xs : List Nat) (mo : Int32) (ed : Nat) (ht : t0 ≠ 0 ∧ t1 ≠ 0 ∧ t0 ≠ t1) (hh : w h = some (t0, al_c mo ed xs.length)) (he : (ed = G.2.2.2 1 ∧ xs = []) ∨ ∃ f, w ed = some (t1, dk_ca G 5 xs.length f) ∧ 10 ≤ xs.length ∧ ∀ i x, xs[i]? = some x → f i = some x) (hlen : xs.length ≤ 600) (hel : al_el w xs) : dk_Mq l my_A_grow2 (wd_c my_A_grow2 mb_A_grow2 4 (some (.array (.object "java/lang/Object")))) rm_A_grow2 G w [.ref h, .int (nI (xs.length + 1))] (fun r w1 => ∃ q cap f, r = some q ∧ w1 h = some (t0, al_c mo q xs.length) ∧ w1 q = some (t1, dk_ca G 5 cap f) ∧ xs.length < cap ∧ 10 ≤ cap ∧ cap ≤ 900 ∧ (∀ i x, xs[i]? = some x → f i = some x) ∧ dk_fr (fun t => t = t0 ∨ t = t1) w w1) 1 900 := by
  obtain ⟨ht0, ht1, ht2⟩ := ht
  rcases he with ⟨h1, h2⟩ | ⟨f, hed, h10, hf⟩
  · subst h1; subst h2
    refine dk_enter (lv := [(0, .ref h), (1, .int (nI (([] : List Nat).length + 1)))]) (by decide) (Nat.le_of_ble_eq_true rfl) rfl (fun p e s m args below meth c ls Q hQ C hP hS hl => ?_)
    obtain ⟨hx, hb, hr, hml, hlocks, hown, hnm, hts, hE⟩ := C
    have hK := hE.1
    have hN := hE.2.1
    refine lv_aload_n hx hb de_A_grow2_0 rfl (lv_at hl 0 rfl) ?_
    refine dk_get (a := h) (v := .ref (G.2.2.2 1)) (C := kn_A) (T := kt_A) (N := 3) hx hb hts ki_A hown hK hP hh rfl 1 (by decide) (hts _ wi_84) (fun _ h9 => h9) rfl de_A_grow2_1 ?_
    refine va_tlen hx hb hE.2.2.1.2.1.2 hS (v := nI 0) rfl de_A_grow2_4 ?_
    refine lv_istore_n (lv' := [(2, .int (nI 0)), (0, .ref h), (1, .int (nI (([] : List Nat).length + 1)))]) hx hb de_A_grow2_5 rfl hl (by decide) rfl (fun ls hl => ?_)
    refine lv_iload_n hx hb de_A_grow2_6 rfl (lv_at hl 0 rfl) ?_
    refine nx_if_gt (a := 0) (tgt := 20) hx hb (by omega) de_A_grow2_7 (by decide) (fun c_216 => ?_) (fun c_216 => ?_)
    · exact absurd c_216 (by omega)
    · refine lv_aload_n hx hb de_A_grow2_10 rfl (lv_at hl 1 rfl) ?_
      refine dk_get (a := h) (v := .ref (G.2.2.2 1)) (C := kn_A) (T := kt_A) (N := 3) hx hb hts ki_A hown hK hP hh rfl 1 (by decide) (hts _ wi_84) (fun _ h9 => h9) rfl de_A_grow2_11 ?_
      refine va_gets hx hb hE.2.2.1.2.1.1 hS hown (hts _ wi_82) (fun _ h9 => h9) de_A_grow2_14 ?_
      refine lv_acmp_eq (rx := some (G.2.2.2 1)) (ry := some (G.2.2.2 1)) (tgt := 45) hx hb de_A_grow2_17 (by decide) (fun _ => ?_) (fun z => absurd rfl z)
      refine lv_aload_n hx hb de_A_grow2_45 rfl (lv_at hl 1 rfl) ?_
      refine lv_bipush (v := nI 10) hx hb de_A_grow2_46 (by decide) ?_
      refine lv_iload_n hx hb de_A_grow2_48 rfl (lv_at hl 2 rfl) ?_
      refine va_mmax hx hb (by rw [hml]; exact hl.1.symm) hown (hts _ wi_269) (hts _ wi_232) (hts _ wi_17) (hts _ wi_233) (Nat.le_of_ble_eq_true rfl) (Nat.le_of_ble_eq_true rfl) (by first | exact Nat.le_of_ble_eq_true rfl | (simp only [Nat.zero_add]; omega) | omega) (by first | exact Nat.le_of_ble_eq_true rfl | (simp only [Nat.zero_add]; omega) | omega) (x := nI 10) (y := nI (([] : List Nat).length + 1)) (rest := [.ref h]) de_A_grow2_49 ?_
      rw [nx_max (a := 10) (b := ([] : List Nat).length + 1) (by omega) (by omega)]
      rw [show max 10 (([] : List Nat).length + 1) = 10 from rfl]
      refine dk_newq t1 5 (C := "java/lang/Object") (N' := 10) hx hb hown (hts _ wi_270) (va_AO.use hE.2.2.1.2.2.2.2.2.2.2.2.2) hK hP hS hE.2.2.2 rfl rfl (by omega) (by omega) (by first | exact Nat.le_of_ble_eq_true rfl | (simp only [Nat.zero_add]; omega) | omega) (by first | exact Nat.le_of_ble_eq_true rfl | (simp only [Nat.zero_add]; omega) | omega) de_A_grow2_52 (fun q_217 H w_218 hn_220 hw_219 hP hS => ?_)
      have h_221 : w_218 q_217 = some (t1, dk_ca G 5 10 (fun _ => none)) := dk_here hw_219
      have h_222 : w_218 h = some (t0, .inr (cx_A, [.int mo, .ref (G.2.2.2 1), .int (nI ([] : List Nat).length)])) := dk_keepN hw_219 hn_220 hh
      refine lv_dup_x1 hx hb de_A_grow2_55 rfl rfl ?_
      refine dk_put (a := h) (v := .ref q_217) (ty := (.array (.object "java/lang/Object"))) (C := kn_A) (T := kt_A) (N := 3) hx hb hts ki_A ky_A kk_A kd_A hown hK hP hS h_222 rfl 1 (by decide) (hts _ wi_84) (fun _ h9 => h9) rfl (by decide +kernel) rfl rfl (Nat.le_of_ble_eq_true rfl) de_A_grow2_56 (fun H locs w_223 hw_224 hP hS => ?_)
      have h_225 : w_223 h = some (t0, .inr (cx_A, [.int mo, .ref q_217, .int (nI ([] : List Nat).length)])) := dk_here hw_224
      have h_226 : w_223 q_217 = some (t1, dk_ca G 5 10 (fun _ => none)) := dk_keep hw_224 h_222 h_221 (by omega)
      exact dk_aret (r := some q_217) hQ hx hb hr (Or.inr ⟨_, rfl⟩) hlocks hP hS (by omega) (by omega) (⟨q_217, 10, _, rfl, h_225, h_226, by decide, by decide, by decide, fun i x z => by simp at z, ((dk_fr.rf).tr ((dk_fr.upN hn_220).eq hw_219)).tr ((dk_fr.up (T := (fun t => t = t0 ∨ t = t1)) h_222 (Or.inl rfl)).eq hw_224)⟩) de_A_grow2_59
  · refine dk_enter (lv := [(0, .ref h), (1, .int (nI (xs.length + 1)))]) (by decide) (Nat.le_of_ble_eq_true rfl) rfl (fun p e s m args below meth c ls Q hQ C hP hS hl => ?_)
    obtain ⟨hx, hb, hr, hml, hlocks, hown, hnm, hts, hE⟩ := C
    have hK := hE.1
    have hN := hE.2.1
    refine lv_aload_n hx hb de_A_grow2_0 rfl (lv_at hl 0 rfl) ?_
    refine dk_get (a := h) (v := .ref ed) (C := kn_A) (T := kt_A) (N := 3) hx hb hts ki_A hown hK hP hh rfl 1 (by decide) (hts _ wi_84) (fun _ h9 => h9) rfl de_A_grow2_1 ?_
    refine dk_alen (a := ed) hx hb hK hP hed 5 rfl de_A_grow2_4 ?_
    refine lv_istore_n (lv' := [(2, .int (nI xs.length)), (0, .ref h), (1, .int (nI (xs.length + 1)))]) hx hb de_A_grow2_5 rfl hl (by decide) rfl (fun ls hl => ?_)
    refine lv_iload_n hx hb de_A_grow2_6 rfl (lv_at hl 0 rfl) ?_
    refine nx_if_gt (a := xs.length) (tgt := 20) hx hb (by omega) de_A_grow2_7 (by decide) (fun c_227 => ?_) (fun c_227 => ?_)
    · refine lv_iload_n hx hb de_A_grow2_20 rfl (lv_at hl 0 rfl) ?_
      refine lv_iload_n hx hb de_A_grow2_21 rfl (lv_at hl 2 rfl) ?_
      refine lv_iload_n hx hb de_A_grow2_22 rfl (lv_at hl 0 rfl) ?_
      refine nx_isub (a := xs.length + 1) (b := xs.length) hx hb (by omega) de_A_grow2_23 ?_
      refine lv_iload_n hx hb de_A_grow2_24 rfl (lv_at hl 0 rfl) ?_
      refine lv_iconst (v := nI 1) hx hb de_A_grow2_25 (by decide) ?_
      refine lv_ishr hx hb de_A_grow2_26 ?_
      rw [show nI xs.length >>> ((nI 1) &&& 31) = nI (xs.length / 2) from (pk_shrN (n := xs.length) (by omega) ((1 : Int32) &&& 31) 1 (by decide)).trans (by rw [Nat.pow_one])]
      rw [show xs.length + 1 - xs.length = 1 by omega]
      refine dk_calli (va_runS (As := [.int (nI xs.length), .int (nI 1), .int (nI (xs.length / 2))]) (rest := []) ⟨hx, hb, hml, hown, hts⟩ (c_D_newLength l G w xs.length hlen h10) (va_cwS 3 hts (wd_gS wi_230 wi_228 wi_229 wi_16) rfl rfl rfl (by decide +kernel) ⟨Nat.le_of_ble_eq_true rfl, Nat.le_of_ble_eq_true rfl⟩) (dk_preS hE hP hS) rfl rfl hl.1 rfl (lv_room (Nat.le_of_ble_eq_true rfl)) de_A_grow2_27 ⟨(by first | exact Nat.le_of_ble_eq_true rfl | (simp only [Nat.zero_add]; omega) | omega), (by first | exact Nat.le_of_ble_eq_true rfl | (simp only [Nat.zero_add]; omega) | omega)⟩) hS (fun r_230 w_228 H locs hq_229 hP hS => ?_)
      obtain ⟨hr_231, he_232⟩ := hq_229
      subst hr_231
      rw [he_232] at hP
      refine lv_istore_n (lv' := [(3, .int (nI (xs.length + xs.length / 2))), (2, .int (nI xs.length)), (0, .ref h), (1, .int (nI (xs.length + 1)))]) hx hb de_A_grow2_30 rfl hl (by decide) rfl (fun ls hl => ?_)
      refine lv_aload_n hx hb de_A_grow2_31 rfl (lv_at hl 2 rfl) ?_
      refine lv_aload_n hx hb de_A_grow2_32 rfl (lv_at hl 2 rfl) ?_
      refine dk_get (a := h) (v := .ref ed) (C := kn_A) (T := kt_A) (N := 3) hx hb hts ki_A hown hK hP hh rfl 1 (by decide) (hts _ wi_84) (fun _ h9 => h9) rfl de_A_grow2_33 ?_
      refine lv_iload_n hx hb de_A_grow2_36 rfl (lv_at hl 0 rfl) ?_
      refine dk_callq (va_runS (As := [.ref ed, .int (nI (xs.length + xs.length / 2))]) (rest := [.ref h]) ⟨hx, hb, hml, hown, hts⟩ (c_G_copyOf l G w ed t1 xs.length f hed hlen h10 (fun i hi y hy => by obtain ⟨x, hx9⟩ := ge_at hi; rw [hf i x hx9] at hy; cases hy; exact hel _ (List.mem_of_getElem? hx9))) (va_cwS 2 hts (wd_gS wi_240 wi_238 wi_239 wi_18) rfl rfl rfl (by decide +kernel) ⟨Nat.le_of_ble_eq_true rfl, Nat.le_of_ble_eq_true rfl⟩) (dk_preS hE hP hS) rfl rfl hl.1 rfl (lv_room (Nat.le_of_ble_eq_true rfl)) de_A_grow2_37 ⟨(by first | exact Nat.le_of_ble_eq_true rfl | (simp only [Nat.zero_add]; omega) | omega), (by first | exact Nat.le_of_ble_eq_true rfl | (simp only [Nat.zero_add]; omega) | omega)⟩) hS (fun r_235 w_233 H locs hq_234 hP hS => ?_)
      obtain ⟨q_c, hr_c, hq_c, hw_c⟩ := hq_234
      subst hr_c
      have h_236 : w_233 q_c = some (t1, dk_ca G 5 (xs.length + xs.length / 2) (va_cpy f (fun _ => none) 0 0 xs.length)) := dk_here hw_c
      have h_237 : w_233 h = some (t0, .inr (cx_A, [.int mo, .ref ed, .int (nI xs.length)])) := dk_keepN hw_c hq_c hh
      have h_238 : w_233 ed = some (t1, dk_ca G 5 xs.length f) := dk_keepN hw_c hq_c hed
      refine lv_dup_x1 hx hb de_A_grow2_40 rfl rfl ?_
      refine dk_put (a := h) (v := .ref q_c) (ty := (.array (.object "java/lang/Object"))) (C := kn_A) (T := kt_A) (N := 3) hx hb hts ki_A ky_A kk_A kd_A hown hK hP hS h_237 rfl 1 (by decide) (hts _ wi_84) (fun _ h9 => h9) rfl (by decide +kernel) rfl rfl (Nat.le_of_ble_eq_true rfl) de_A_grow2_41 (fun H locs w_239 hw_240 hP hS => ?_)
      have h_241 : w_239 h = some (t0, .inr (cx_A, [.int mo, .ref q_c, .int (nI xs.length)])) := dk_here hw_240
      have h_242 : w_239 ed = some (t1, dk_ca G 5 xs.length f) := dk_keep hw_240 h_237 h_238 (by omega)
      have h_243 : w_239 q_c = some (t1, dk_ca G 5 (xs.length + xs.length / 2) (va_cpy f (fun _ => none) 0 0 xs.length)) := dk_keep hw_240 h_237 h_236 (by omega)
      exact dk_aret (r := some q_c) hQ hx hb hr (Or.inr ⟨_, rfl⟩) hlocks hP hS (by omega) (by omega) (⟨q_c, _, _, rfl, h_241, h_243, by omega, by omega, by omega, fun i x z => by rw [pk_cpy_in (Nat.zero_le _) (by have := (List.getElem?_eq_some_iff.mp z).1; omega), Nat.sub_zero, Nat.zero_add]; exact hf i x z, ((dk_fr.rf).tr ((dk_fr.upN hq_c).eq hw_c)).tr ((dk_fr.up (T := (fun t => t = t0 ∨ t = t1)) h_237 (Or.inl rfl)).eq hw_240)⟩) de_A_grow2_44
    · exact absurd c_227 (by omega)
abbrev rm_A_grow : Room := { frames := 4, cells := 1, slots := 900, locals := 107 }
set_option maxHeartbeats 4000000 in
set_option maxRecDepth 100000 in
theorem c_A_grow (l : Launch) (G : dk_G) (w : dk_H) (h t0 t1 : Nat) (xs : List Nat) (mo : Int32) (ed : Nat) (ht : t0 ≠ 0 ∧ t1 ≠ 0 ∧ t0 ≠ t1) (hh : w h = some (t0, al_c mo ed xs.length)) (he : (ed = G.2.2.2 1 ∧ xs = []) ∨ ∃ f, w ed = some (t1, dk_ca G 5 xs.length f) ∧ 10 ≤ xs.length ∧ ∀ i x, xs[i]? = some x → f i = some x) (hlen : xs.length ≤ 600) (hel : al_el w xs) : dk_Mq l my_A_grow (wd_c my_A_grow mb_A_grow 1 (some (.array (.object "java/lang/Object")))) rm_A_grow G w [.ref h] (fun r w1 => ∃ q cap f, r = some q ∧ w1 h = some (t0, al_c mo q xs.length) ∧ w1 q = some (t1, dk_ca G 5 cap f) ∧ xs.length < cap ∧ 10 ≤ cap ∧ cap ≤ 900 ∧ (∀ i x, xs[i]? = some x → f i = some x) ∧ dk_fr (fun t => t = t0 ∨ t = t1) w w1) 1 900 := by
  refine dk_enter (lv := [(0, .ref h)]) (by decide) (Nat.le_of_ble_eq_true rfl) rfl (fun p e s m args below meth c ls Q hQ C hP hS hl => ?_)
  obtain ⟨hx, hb, hr, hml, hlocks, hown, hnm, hts, hE⟩ := C
  have hK := hE.1
  have hN := hE.2.1
  refine lv_aload_n hx hb de_A_grow_0 rfl (lv_at hl 0 rfl) ?_
  refine lv_aload_n hx hb de_A_grow_1 rfl (lv_at hl 0 rfl) ?_
  refine dk_get (a := h) (v := .int (nI xs.length)) (C := kn_A) (T := kt_A) (N := 3) hx hb hts ki_A hown hK hP hh rfl 2 (by decide) (hts _ wi_85) (fun _ h9 => h9) rfl de_A_grow_2 ?_
  refine lv_iconst (v := nI 1) hx hb de_A_grow_5 (by decide) ?_
  refine nx_iadd (a := xs.length) (b := 1) hx hb de_A_grow_6 ?_
  refine dk_callq (va_runV (As := [.int (nI (xs.length + 1))]) (rest := []) ⟨hx, hb, hml, hown, hts⟩ (c_A_grow2 l G w h t0 t1 xs mo ed ht hh he hlen hel) (cwV 1 hts (wd_gV (C := "java/util/ArrayList") wi_227 wi_224 wi_226 (wd_p (q := (⟨"java/util/ArrayList", "grow", "(I)[Ljava/lang/Object;"⟩, 3)) (by decide +kernel) (by decide +kernel)) wi_7) rfl rfl rfl (by decide +kernel) ⟨Nat.le_of_ble_eq_true rfl, Nat.le_of_ble_eq_true rfl⟩) (dk_preV (kn_A, kt_A, 3) hE hP hS hh rfl) rfl rfl hl.1 rfl (lv_room (Nat.le_of_ble_eq_true rfl)) de_A_grow_7 ⟨(by first | exact Nat.le_of_ble_eq_true rfl | (simp only [Nat.zero_add]; omega) | omega), (by first | exact Nat.le_of_ble_eq_true rfl | (simp only [Nat.zero_add]; omega) | omega)⟩) hS (fun r_246 w_244 H locs hq_245 hP hS => ?_)
  exact dk_aret (r := r_246) hQ hx hb hr (Or.inr ⟨_, rfl⟩) hlocks hP hS (by omega) (by omega) hq_245 de_A_grow_10
abbrev rm_A_add2 : Room := { frames := 5, cells := 1, slots := 900, locals := 127 }
set_option maxHeartbeats 4000000 in
set_option maxRecDepth 100000 in
theorem c_A_add2 (l : Launch) (G : dk_G) (w : dk_H) (h t0 t1 : Nat) (xs : List Nat) (mo : Int32) (ed : Nat) (ht : t0 ≠ 0 ∧ t1 ≠ 0 ∧ t0 ≠ t1) (hh : w h = some (t0, al_c mo ed xs.length)) (he : (ed = G.2.2.2 1 ∧ xs = []) ∨ ∃ cap f, w ed = some (t1, dk_ca G 5 cap f) ∧ xs.length ≤ cap ∧ 10 ≤ cap ∧ cap ≤ 900 ∧ ∀ i x, xs[i]? = some x → f i = some x) (hlen : xs.length ≤ 600) (hel : al_el w xs) (z : Nat) (fz : List Value) (hz : w z = some (0, .inr (cx_U, fz))) : dk_Mv l my_A_add2 (wd_c my_A_add2 mb_A_add2 4 none) rm_A_add2 G w [.ref h, .ref z, .ref ed, .int (nI xs.length)] (fun w1 => al_at G w1 h t0 t1 (xs ++ [z]) ∧ dk_fr (fun t => t = t0 ∨ t = t1) w w1) 1 900 := by
  have ht9 := ht
  obtain ⟨ht0, ht1, ht2⟩ := ht
  rcases he with ⟨h1, h2⟩ | ⟨cap, f, hed, h8, h10, h9, hf⟩
  · have h3 := h1
    have h4 := h2
    refine dk_enter (lv := [(0, .ref h), (1, .ref z), (2, .ref ed), (3, .int (nI xs.length))]) (by decide) (Nat.le_of_ble_eq_true rfl) rfl (fun p e s m args below meth c ls Q hQ C hP hS hl => ?_)
    obtain ⟨hx, hb, hr, hml, hlocks, hown, hnm, hts, hE⟩ := C
    have hK := hE.1
    have hN := hE.2.1
    refine lv_iload_n hx hb de_A_add2_0 rfl (lv_at hl 3 rfl) ?_
    refine lv_aload_n hx hb de_A_add2_1 rfl (lv_at hl 2 rfl) ?_
    rw [h3]
    refine va_tlen hx hb hE.2.2.1.2.1.2 hS (v := nI 0) rfl de_A_add2_2 ?_
    have hl0 : xs.length = 0 := by rw [h4]; rfl
    refine nx_icmp_ne (a := xs.length) (b := 0) (tgt := 11) hx hb (by omega) (by omega) de_A_add2_3 (by decide) (fun c_247 => ?_) (fun c_247 => ?_)
    · exact absurd c_247 (by omega)
    · refine lv_aload_n hx hb de_A_add2_6 rfl (lv_at hl 0 rfl) ?_
      refine dk_callq (va_runV (As := []) (rest := []) ⟨hx, hb, hml, hown, hts⟩ (c_A_grow l G w h t0 t1 xs mo ed ht9 hh (Or.inl ⟨h3, h4⟩) hlen hel) (cwV 0 hts (wd_gV (C := "java/util/ArrayList") wi_223 wi_220 wi_222 (wd_p (q := (⟨"java/util/ArrayList", "grow", "()[Ljava/lang/Object;"⟩, 3)) (by decide +kernel) (by decide +kernel)) wi_7) rfl rfl rfl (by decide +kernel) ⟨Nat.le_of_ble_eq_true rfl, Nat.le_of_ble_eq_true rfl⟩) (dk_preV (kn_A, kt_A, 3) hE hP hS hh rfl) rfl rfl hl.1 rfl (lv_room (Nat.le_of_ble_eq_true rfl)) de_A_add2_7 ⟨(by first | exact Nat.le_of_ble_eq_true rfl | (simp only [Nat.zero_add]; omega) | omega), (by first | exact Nat.le_of_ble_eq_true rfl | (simp only [Nat.zero_add]; omega) | omega)⟩) hS (fun r_250 w_248 H locs hq_249 hP hS => ?_)
      obtain ⟨qg, cg, fg, hr_c, hg1, hg2, hg3, hg4, hg5, hg6, hg7⟩ := hq_249
      subst hr_c
      have hz1 := hg7 _ _ _ hz (by omega)
      refine lv_astore_n (lv' := [(2, .ref qg), (0, .ref h), (1, .ref z), (3, .int (nI xs.length))]) hx hb de_A_add2_10 rfl hl (by decide) rfl (fun ls hl => ?_)
      refine lv_aload_n hx hb de_A_add2_11 rfl (lv_at hl 0 rfl) ?_
      refine lv_iload_n hx hb de_A_add2_12 rfl (lv_at hl 3 rfl) ?_
      refine lv_aload_n hx hb de_A_add2_13 rfl (lv_at hl 2 rfl) ?_
      refine dk_aastO (a := qg) (v := z) (r := (kn_U, kt_U, 2)) (E := dk_nO) hx hb hK hP hS hg2 rfl (hN _ (dn_m 927 (by decide +kernel) rfl)) hz1 rfl xs.length rfl (by omega) (by omega) de_A_add2_14 (fun H locs w_251 hw_252 hP hS => ?_)
      have h_253 : w_251 qg = some (t1, dk_ca G 5 cg (va_up fg xs.length (some z))) := dk_here hw_252
      have h_254 : w_251 h = some (t0, .inr (cx_A, [.int mo, .ref qg, .int (nI xs.length)])) := dk_keep hw_252 hg2 hg1 (by omega)
      refine lv_aload_n hx hb de_A_add2_15 rfl (lv_at hl 1 rfl) ?_
      refine lv_iload_n hx hb de_A_add2_16 rfl (lv_at hl 3 rfl) ?_
      refine lv_iconst (v := nI 1) hx hb de_A_add2_17 (by decide) ?_
      refine nx_iadd (a := xs.length) (b := 1) hx hb de_A_add2_18 ?_
      refine dk_put (a := h) (v := .int (nI (xs.length + 1))) (ty := .int) (C := kn_A) (T := kt_A) (N := 3) hx hb hts ki_A ky_A kk_A kd_A hown hK hP hS h_254 rfl 2 (by decide) (hts _ wi_85) (fun _ h9 => h9) rfl (by decide +kernel) rfl rfl (Nat.le_of_ble_eq_true rfl) de_A_add2_19 (fun H locs w_255 hw_256 hP hS => ?_)
      have h_257 : w_255 h = some (t0, .inr (cx_A, [.int mo, .ref qg, .int (nI (xs.length + 1))])) := dk_here hw_256
      have h_258 : w_255 qg = some (t1, dk_ca G 5 cg (va_up fg xs.length (some z))) := dk_keep hw_256 h_254 h_253 (by omega)
      exact dk_vret hQ hx hb hr hlocks hP hS (by omega) (by omega) (⟨⟨mo, qg, by rw [show (xs ++ [z]).length = xs.length + 1 by simp]; exact h_257, Or.inr ⟨cg, _, h_258, by simp; omega, hg4, hg5, al_snoc hg6⟩⟩, (((dk_fr.rf).tr (hg7)).tr ((dk_fr.up (T := (fun t => t = t0 ∨ t = t1)) hg2 (Or.inr rfl)).eq hw_252)).tr ((dk_fr.up (T := (fun t => t = t0 ∨ t = t1)) h_254 (Or.inl rfl)).eq hw_256)⟩) de_A_add2_22
  · refine dk_enter (lv := [(0, .ref h), (1, .ref z), (2, .ref ed), (3, .int (nI xs.length))]) (by decide) (Nat.le_of_ble_eq_true rfl) rfl (fun p e s m args below meth c ls Q hQ C hP hS hl => ?_)
    obtain ⟨hx, hb, hr, hml, hlocks, hown, hnm, hts, hE⟩ := C
    have hK := hE.1
    have hN := hE.2.1
    refine lv_iload_n hx hb de_A_add2_0 rfl (lv_at hl 3 rfl) ?_
    refine lv_aload_n hx hb de_A_add2_1 rfl (lv_at hl 2 rfl) ?_
    refine dk_alen (a := ed) hx hb hK hP hed 5 rfl de_A_add2_2 ?_
    refine nx_icmp_ne (a := xs.length) (b := cap) (tgt := 11) hx hb (by omega) (by omega) de_A_add2_3 (by decide) (fun c_259 => ?_) (fun c_259 => ?_)
    · refine lv_aload_n hx hb de_A_add2_11 rfl (lv_at hl 2 rfl) ?_
      refine lv_iload_n hx hb de_A_add2_12 rfl (lv_at hl 3 rfl) ?_
      refine lv_aload_n hx hb de_A_add2_13 rfl (lv_at hl 1 rfl) ?_
      refine dk_aastO (a := ed) (v := z) (r := (kn_U, kt_U, 2)) (E := dk_nO) hx hb hK hP hS hed rfl (hN _ (dn_m 927 (by decide +kernel) rfl)) hz rfl xs.length rfl (by omega) (by omega) de_A_add2_14 (fun H locs w_260 hw_261 hP hS => ?_)
      have h_262 : w_260 ed = some (t1, dk_ca G 5 cap (va_up f xs.length (some z))) := dk_here hw_261
      have h_263 : w_260 h = some (t0, .inr (cx_A, [.int mo, .ref ed, .int (nI xs.length)])) := dk_keep hw_261 hed hh (by omega)
      refine lv_aload_n hx hb de_A_add2_15 rfl (lv_at hl 0 rfl) ?_
      refine lv_iload_n hx hb de_A_add2_16 rfl (lv_at hl 3 rfl) ?_
      refine lv_iconst (v := nI 1) hx hb de_A_add2_17 (by decide) ?_
      refine nx_iadd (a := xs.length) (b := 1) hx hb de_A_add2_18 ?_
      refine dk_put (a := h) (v := .int (nI (xs.length + 1))) (ty := .int) (C := kn_A) (T := kt_A) (N := 3) hx hb hts ki_A ky_A kk_A kd_A hown hK hP hS h_263 rfl 2 (by decide) (hts _ wi_85) (fun _ h9 => h9) rfl (by decide +kernel) rfl rfl (Nat.le_of_ble_eq_true rfl) de_A_add2_19 (fun H locs w_264 hw_265 hP hS => ?_)
      have h_266 : w_264 h = some (t0, .inr (cx_A, [.int mo, .ref ed, .int (nI (xs.length + 1))])) := dk_here hw_265
      have h_267 : w_264 ed = some (t1, dk_ca G 5 cap (va_up f xs.length (some z))) := dk_keep hw_265 h_263 h_262 (by omega)
      exact dk_vret hQ hx hb hr hlocks hP hS (by omega) (by omega) (⟨⟨mo, ed, by rw [show (xs ++ [z]).length = xs.length + 1 by simp]; exact h_266, Or.inr ⟨cap, _, h_267, by simp; omega, h10, h9, al_snoc hf⟩⟩, ((dk_fr.rf).tr ((dk_fr.up (T := (fun t => t = t0 ∨ t = t1)) hed (Or.inr rfl)).eq hw_261)).tr ((dk_fr.up (T := (fun t => t = t0 ∨ t = t1)) h_263 (Or.inl rfl)).eq hw_265)⟩) de_A_add2_22
    · subst c_259
      refine lv_aload_n hx hb de_A_add2_6 rfl (lv_at hl 0 rfl) ?_
      refine dk_callq (va_runV (As := []) (rest := []) ⟨hx, hb, hml, hown, hts⟩ (c_A_grow l G w h t0 t1 xs mo ed ht9 hh (Or.inr ⟨f, hed, h10, hf⟩) hlen hel) (cwV 0 hts (wd_gV (C := "java/util/ArrayList") wi_223 wi_220 wi_222 (wd_p (q := (⟨"java/util/ArrayList", "grow", "()[Ljava/lang/Object;"⟩, 3)) (by decide +kernel) (by decide +kernel)) wi_7) rfl rfl rfl (by decide +kernel) ⟨Nat.le_of_ble_eq_true rfl, Nat.le_of_ble_eq_true rfl⟩) (dk_preV (kn_A, kt_A, 3) hE hP hS hh rfl) rfl rfl hl.1 rfl (lv_room (Nat.le_of_ble_eq_true rfl)) de_A_add2_7 ⟨(by first | exact Nat.le_of_ble_eq_true rfl | (simp only [Nat.zero_add]; omega) | omega), (by first | exact Nat.le_of_ble_eq_true rfl | (simp only [Nat.zero_add]; omega) | omega)⟩) hS (fun r_270 w_268 H locs hq_269 hP hS => ?_)
      obtain ⟨qg, cg, fg, hr_c, hg1, hg2, hg3, hg4, hg5, hg6, hg7⟩ := hq_269
      subst hr_c
      have hz1 := hg7 _ _ _ hz (by omega)
      refine lv_astore_n (lv' := [(2, .ref qg), (0, .ref h), (1, .ref z), (3, .int (nI xs.length))]) hx hb de_A_add2_10 rfl hl (by decide) rfl (fun ls hl => ?_)
      refine lv_aload_n hx hb de_A_add2_11 rfl (lv_at hl 0 rfl) ?_
      refine lv_iload_n hx hb de_A_add2_12 rfl (lv_at hl 3 rfl) ?_
      refine lv_aload_n hx hb de_A_add2_13 rfl (lv_at hl 2 rfl) ?_
      refine dk_aastO (a := qg) (v := z) (r := (kn_U, kt_U, 2)) (E := dk_nO) hx hb hK hP hS hg2 rfl (hN _ (dn_m 927 (by decide +kernel) rfl)) hz1 rfl xs.length rfl (by omega) (by omega) de_A_add2_14 (fun H locs w_271 hw_272 hP hS => ?_)
      have h_273 : w_271 qg = some (t1, dk_ca G 5 cg (va_up fg xs.length (some z))) := dk_here hw_272
      have h_274 : w_271 h = some (t0, .inr (cx_A, [.int mo, .ref qg, .int (nI xs.length)])) := dk_keep hw_272 hg2 hg1 (by omega)
      refine lv_aload_n hx hb de_A_add2_15 rfl (lv_at hl 1 rfl) ?_
      refine lv_iload_n hx hb de_A_add2_16 rfl (lv_at hl 3 rfl) ?_
      refine lv_iconst (v := nI 1) hx hb de_A_add2_17 (by decide) ?_
      refine nx_iadd (a := xs.length) (b := 1) hx hb de_A_add2_18 ?_
      refine dk_put (a := h) (v := .int (nI (xs.length + 1))) (ty := .int) (C := kn_A) (T := kt_A) (N := 3) hx hb hts ki_A ky_A kk_A kd_A hown hK hP hS h_274 rfl 2 (by decide) (hts _ wi_85) (fun _ h9 => h9) rfl (by decide +kernel) rfl rfl (Nat.le_of_ble_eq_true rfl) de_A_add2_19 (fun H locs w_275 hw_276 hP hS => ?_)
      have h_277 : w_275 h = some (t0, .inr (cx_A, [.int mo, .ref qg, .int (nI (xs.length + 1))])) := dk_here hw_276
      have h_278 : w_275 qg = some (t1, dk_ca G 5 cg (va_up fg xs.length (some z))) := dk_keep hw_276 h_274 h_273 (by omega)
      exact dk_vret hQ hx hb hr hlocks hP hS (by omega) (by omega) (⟨⟨mo, qg, by rw [show (xs ++ [z]).length = xs.length + 1 by simp]; exact h_277, Or.inr ⟨cg, _, h_278, by simp; omega, hg4, hg5, al_snoc hg6⟩⟩, (((dk_fr.rf).tr (hg7)).tr ((dk_fr.up (T := (fun t => t = t0 ∨ t = t1)) hg2 (Or.inr rfl)).eq hw_272)).tr ((dk_fr.up (T := (fun t => t = t0 ∨ t = t1)) h_274 (Or.inl rfl)).eq hw_276)⟩) de_A_add2_22
abbrev rm_A_add : Room := { frames := 6, cells := 1, slots := 900, locals := 150 }
set_option maxHeartbeats 4000000 in
set_option maxRecDepth 100000 in
theorem c_A_add (l : Launch) (G : dk_G) (w : dk_H) (h t0 t1 : Nat) (xs : List Nat) (ha0 : al_at G w h t0 t1 xs) (ht : t0 ≠ 0 ∧ t1 ≠ 0 ∧ t0 ≠ t1) (hlen : xs.length ≤ 600) (hel : al_el w xs) (z : Nat) (fz : List Value) (hz : w z = some (0, .inr (cx_U, fz))) : dk_Mi l my_A_add (wd_c my_A_add mb_A_add 2 (some .boolean)) rm_A_add G w [.ref h, .ref z] (fun r w1 => al_at G w1 h t0 t1 (xs ++ [z]) ∧ dk_fr (fun t => t = t0 ∨ t = t1) w w1) 1 900 := by
  have ht9 := ht
  obtain ⟨ht0, ht1, ht2⟩ := ht
  have h0T : ¬ ((0 : Nat) = t0 ∨ (0 : Nat) = t1) := by omega
  obtain ⟨mo, ed, hh, he⟩ := ha0
  refine dk_enter (lv := [(0, .ref h), (1, .ref z)]) (by decide) (Nat.le_of_ble_eq_true rfl) rfl (fun p e s m args below meth c ls Q hQ C hP hS hl => ?_)
  obtain ⟨hx, hb, hr, hml, hlocks, hown, hnm, hts, hE⟩ := C
  have hK := hE.1
  have hN := hE.2.1
  refine lv_aload_n hx hb de_A_add_0 rfl (lv_at hl 0 rfl) ?_
  refine lv_dup hx hb de_A_add_1 rfl ?_
  refine dk_get (a := h) (v := .int mo) (C := kn_A) (T := kt_A) (N := 3) hx hb hts ki_A hown hK hP hh rfl 0 (by decide) (hts _ wi_87) (u_same (hts _ wi_88)) rfl de_A_add_2 ?_
  refine lv_iconst (v := nI 1) hx hb de_A_add_5 (by decide) ?_
  refine lv_iadd hx hb de_A_add_6 ?_
  refine dk_put (a := h) (v := .int (mo + (nI 1))) (ty := .int) (C := kn_A) (T := kt_A) (N := 3) hx hb hts ki_A ky_A kk_A kd_A hown hK hP hS hh rfl 0 (by decide) (hts _ wi_87) (u_same (hts _ wi_88)) rfl (by decide +kernel) rfl rfl (Nat.le_of_ble_eq_true rfl) de_A_add_7 (fun H locs w_279 hw_280 hP hS => ?_)
  have h_281 : w_279 h = some (t0, .inr (cx_A, [.int (mo + (nI 1)), .ref ed, .int (nI xs.length)])) := dk_here hw_280
  refine lv_aload_n hx hb de_A_add_10 rfl (lv_at hl 0 rfl) ?_
  refine lv_aload_n hx hb de_A_add_11 rfl (lv_at hl 1 rfl) ?_
  refine lv_aload_n hx hb de_A_add_12 rfl (lv_at hl 0 rfl) ?_
  refine dk_get (a := h) (v := .ref ed) (C := kn_A) (T := kt_A) (N := 3) hx hb hts ki_A hown hK hP h_281 rfl 1 (by decide) (hts _ wi_84) (fun _ h9 => h9) rfl de_A_add_13 ?_
  refine lv_aload_n hx hb de_A_add_16 rfl (lv_at hl 0 rfl) ?_
  refine dk_get (a := h) (v := .int (nI xs.length)) (C := kn_A) (T := kt_A) (N := 3) hx hb hts ki_A hown hK hP h_281 rfl 2 (by decide) (hts _ wi_85) (fun _ h9 => h9) rfl de_A_add_17 ?_
  have hfr : dk_fr (fun t => t = t0 ∨ t = t1) w w_279 := (dk_fr.rf).tr ((dk_fr.up (T := (fun t => t = t0 ∨ t = t1)) hh (Or.inl rfl)).eq hw_280)
  have he2 : (ed = G.2.2.2 1 ∧ xs = []) ∨ ∃ cap f, w_279 ed = some (t1, dk_ca G 5 cap f) ∧ xs.length ≤ cap ∧ 10 ≤ cap ∧ cap ≤ 900 ∧ ∀ i x, xs[i]? = some x → f i = some x := by
    rcases he with he | ⟨cap, f, h1, h2⟩
    · exact Or.inl he
    · exact Or.inr ⟨cap, f, dk_keep hw_280 hh h1 (by omega), h2⟩
  refine dk_callv (va_runV (As := [.ref z, .ref ed, .int (nI xs.length)]) (rest := []) ⟨hx, hb, hml, hown, hts⟩ (c_A_add2 l G w_279 h t0 t1 xs (mo + nI 1) ed ht9 h_281 he2 hlen (hel.fr hfr h0T) z fz (hfr _ _ _ hz h0T)) (cwV 3 hts (wd_gV (C := "java/util/ArrayList") wi_219 wi_216 wi_218 (wd_p (q := (⟨"java/util/ArrayList", "add", "(Ljava/lang/Object;[Ljava/lang/Object;I)V"⟩, 3)) (by decide +kernel) (by decide +kernel)) wi_7) rfl rfl rfl (by decide +kernel) ⟨Nat.le_of_ble_eq_true rfl, Nat.le_of_ble_eq_true rfl⟩) (dk_preV (kn_A, kt_A, 3) hE hP hS h_281 rfl) rfl rfl hl.1 rfl (lv_room (Nat.le_of_ble_eq_true rfl)) de_A_add_20 ⟨(by first | exact Nat.le_of_ble_eq_true rfl | (simp only [Nat.zero_add]; omega) | omega), (by first | exact Nat.le_of_ble_eq_true rfl | (simp only [Nat.zero_add]; omega) | omega)⟩) hS (fun w_282 H locs hq_283 hP hS => ?_)
  refine lv_iconst (v := nI 1) hx hb de_A_add_23 (by decide) ?_
  exact dk_zret hQ hx hb hr hlocks hP hS (by omega) (by omega) (by decide +kernel) (⟨hq_283.1, hfr.tr hq_283.2⟩) de_A_add_24
abbrev rm_A_clear : Room := { frames := 0, cells := 0, slots := 0, locals := 0 }
set_option maxHeartbeats 4000000 in
set_option maxRecDepth 100000 in
theorem c_A_clear (l : Launch) (G : dk_G) (w : dk_H) (h t0 t1 : Nat) (xs : List Nat) (ha0 : al_at G w h t0 t1 xs) (ht : t0 ≠ 0 ∧ t1 ≠ 0 ∧ t0 ≠ t1) (hlen : xs.length < 2 ^ 31) : dk_Mv l my_A_clear (wd_c my_A_clear mb_A_clear 4 none) rm_A_clear G w [.ref h] (fun w1 => al_at G w1 h t0 t1 [] ∧ dk_fr (fun t => t = t0 ∨ t = t1) w w1) 0 0 := by
  obtain ⟨ht0, ht1, ht2⟩ := ht
  obtain ⟨mo, ed, hh, he⟩ := ha0
  rcases he with ⟨h1, h2⟩ | ⟨cap, f, hed, h8, h10, h9, hf⟩
  · subst h2
    refine dk_enter (lv := [(0, .ref h)]) (by decide) (Nat.le_of_ble_eq_true rfl) rfl (fun p e s m args below meth c ls Q hQ C hP hS hl => ?_)
    obtain ⟨hx, hb, hr, hml, hlocks, hown, hnm, hts, hE⟩ := C
    have hK := hE.1
    have hN := hE.2.1
    refine lv_aload_n hx hb de_A_clear_0 rfl (lv_at hl 0 rfl) ?_
    refine lv_dup hx hb de_A_clear_1 rfl ?_
    refine dk_get (a := h) (v := .int mo) (C := kn_A) (T := kt_A) (N := 3) hx hb hts ki_A hown hK hP hh rfl 0 (by decide) (hts _ wi_87) (u_same (hts _ wi_88)) rfl de_A_clear_2 ?_
    refine lv_iconst (v := nI 1) hx hb de_A_clear_5 (by decide) ?_
    refine lv_iadd hx hb de_A_clear_6 ?_
    refine dk_put (a := h) (v := .int (mo + (nI 1))) (ty := .int) (C := kn_A) (T := kt_A) (N := 3) hx hb hts ki_A ky_A kk_A kd_A hown hK hP hS hh rfl 0 (by decide) (hts _ wi_87) (u_same (hts _ wi_88)) rfl (by decide +kernel) rfl rfl (Nat.le_of_ble_eq_true rfl) de_A_clear_7 (fun H locs w_285 hw_286 hP hS => ?_)
    have h_287 : w_285 h = some (t0, .inr (cx_A, [.int (mo + (nI 1)), .ref ed, .int (nI ([] : List Nat).length)])) := dk_here hw_286
    refine lv_aload_n hx hb de_A_clear_10 rfl (lv_at hl 0 rfl) ?_
    refine dk_get (a := h) (v := .ref ed) (C := kn_A) (T := kt_A) (N := 3) hx hb hts ki_A hown hK hP h_287 rfl 1 (by decide) (hts _ wi_84) (fun _ h9 => h9) rfl de_A_clear_11 ?_
    refine lv_astore_n (lv' := [(1, .ref ed), (0, .ref h)]) hx hb de_A_clear_14 rfl hl (by decide) rfl (fun ls hl => ?_)
    refine lv_aload_n hx hb de_A_clear_15 rfl (lv_at hl 1 rfl) ?_
    refine dk_get (a := h) (v := .int (nI ([] : List Nat).length)) (C := kn_A) (T := kt_A) (N := 3) hx hb hts ki_A hown hK hP h_287 rfl 2 (by decide) (hts _ wi_85) (fun _ h9 => h9) rfl de_A_clear_16 ?_
    refine lv_istore_n (lv' := [(2, .int (nI ([] : List Nat).length)), (1, .ref ed), (0, .ref h)]) hx hb de_A_clear_19 rfl hl (by decide) rfl (fun ls hl => ?_)
    refine lv_aload_n hx hb de_A_clear_20 rfl (lv_at hl 2 rfl) ?_
    refine lv_iconst (v := nI 0) hx hb de_A_clear_21 (by decide) ?_
    refine lv_dup_x1 hx hb de_A_clear_22 rfl rfl ?_
    refine dk_put (a := h) (v := .int (nI 0)) (ty := .int) (C := kn_A) (T := kt_A) (N := 3) hx hb hts ki_A ky_A kk_A kd_A hown hK hP hS h_287 rfl 2 (by decide) (hts _ wi_85) (fun _ h9 => h9) rfl (by decide +kernel) rfl rfl (Nat.le_of_ble_eq_true rfl) de_A_clear_23 (fun H locs w_288 hw_289 hP hS => ?_)
    have h_290 : w_288 h = some (t0, .inr (cx_A, [.int (mo + (nI 1)), .ref ed, .int (nI 0)])) := dk_here hw_289
    refine lv_istore_n (lv' := [(3, .int (nI 0)), (2, .int (nI ([] : List Nat).length)), (1, .ref ed), (0, .ref h)]) hx hb de_A_clear_26 rfl hl (by decide) rfl (fun ls hl => ?_)
    refine lv_iload_n hx hb de_A_clear_27 rfl (lv_at hl 0 rfl) ?_
    refine lv_iload_n hx hb de_A_clear_28 rfl (lv_at hl 1 rfl) ?_
    refine nx_icmp_ge (a := 0) (b := ([] : List Nat).length) (tgt := 42) hx hb (by omega) (by omega) de_A_clear_29 (by decide) (fun c_291 => ?_) (fun c_291 => ?_)
    · exact dk_vret hQ hx hb hr hlocks hP hS (Nat.le_refl _) (Nat.le_refl _) (⟨⟨_, ed, h_290, Or.inl ⟨h1, rfl⟩⟩, ((dk_fr.rf).tr ((dk_fr.up (T := (fun t => t = t0 ∨ t = t1)) hh (Or.inl rfl)).eq hw_286)).tr ((dk_fr.up (T := (fun t => t = t0 ∨ t = t1)) h_287 (Or.inl rfl)).eq hw_289)⟩) de_A_clear_42
    · exact absurd c_291 (by simp)
  · refine dk_enter (lv := [(0, .ref h)]) (by decide) (Nat.le_of_ble_eq_true rfl) rfl (fun p e s m args below meth c ls Q hQ C hP hS hl => ?_)
    obtain ⟨hx, hb, hr, hml, hlocks, hown, hnm, hts, hE⟩ := C
    have hK := hE.1
    have hN := hE.2.1
    refine lv_aload_n hx hb de_A_clear_0 rfl (lv_at hl 0 rfl) ?_
    refine lv_dup hx hb de_A_clear_1 rfl ?_
    refine dk_get (a := h) (v := .int mo) (C := kn_A) (T := kt_A) (N := 3) hx hb hts ki_A hown hK hP hh rfl 0 (by decide) (hts _ wi_87) (u_same (hts _ wi_88)) rfl de_A_clear_2 ?_
    refine lv_iconst (v := nI 1) hx hb de_A_clear_5 (by decide) ?_
    refine lv_iadd hx hb de_A_clear_6 ?_
    refine dk_put (a := h) (v := .int (mo + (nI 1))) (ty := .int) (C := kn_A) (T := kt_A) (N := 3) hx hb hts ki_A ky_A kk_A kd_A hown hK hP hS hh rfl 0 (by decide) (hts _ wi_87) (u_same (hts _ wi_88)) rfl (by decide +kernel) rfl rfl (Nat.le_of_ble_eq_true rfl) de_A_clear_7 (fun H locs w_292 hw_293 hP hS => ?_)
    have h_294 : w_292 h = some (t0, .inr (cx_A, [.int (mo + (nI 1)), .ref ed, .int (nI xs.length)])) := dk_here hw_293
    have h_295 : w_292 ed = some (t1, dk_ca G 5 cap f) := dk_keep hw_293 hh hed (by omega)
    refine lv_aload_n hx hb de_A_clear_10 rfl (lv_at hl 0 rfl) ?_
    refine dk_get (a := h) (v := .ref ed) (C := kn_A) (T := kt_A) (N := 3) hx hb hts ki_A hown hK hP h_294 rfl 1 (by decide) (hts _ wi_84) (fun _ h9 => h9) rfl de_A_clear_11 ?_
    refine lv_astore_n (lv' := [(1, .ref ed), (0, .ref h)]) hx hb de_A_clear_14 rfl hl (by decide) rfl (fun ls hl => ?_)
    refine lv_aload_n hx hb de_A_clear_15 rfl (lv_at hl 1 rfl) ?_
    refine dk_get (a := h) (v := .int (nI xs.length)) (C := kn_A) (T := kt_A) (N := 3) hx hb hts ki_A hown hK hP h_294 rfl 2 (by decide) (hts _ wi_85) (fun _ h9 => h9) rfl de_A_clear_16 ?_
    refine lv_istore_n (lv' := [(2, .int (nI xs.length)), (1, .ref ed), (0, .ref h)]) hx hb de_A_clear_19 rfl hl (by decide) rfl (fun ls hl => ?_)
    refine lv_aload_n hx hb de_A_clear_20 rfl (lv_at hl 2 rfl) ?_
    refine lv_iconst (v := nI 0) hx hb de_A_clear_21 (by decide) ?_
    refine lv_dup_x1 hx hb de_A_clear_22 rfl rfl ?_
    refine dk_put (a := h) (v := .int (nI 0)) (ty := .int) (C := kn_A) (T := kt_A) (N := 3) hx hb hts ki_A ky_A kk_A kd_A hown hK hP hS h_294 rfl 2 (by decide) (hts _ wi_85) (fun _ h9 => h9) rfl (by decide +kernel) rfl rfl (Nat.le_of_ble_eq_true rfl) de_A_clear_23 (fun H locs w_296 hw_297 hP hS => ?_)
    have h_298 : w_296 h = some (t0, .inr (cx_A, [.int (mo + (nI 1)), .ref ed, .int (nI 0)])) := dk_here hw_297
    have h_299 : w_296 ed = some (t1, dk_ca G 5 cap f) := dk_keep hw_297 h_294 h_295 (by omega)
    refine lv_istore_n (lv' := [(3, .int (nI 0)), (2, .int (nI xs.length)), (1, .ref ed), (0, .ref h)]) hx hb de_A_clear_26 rfl hl (by decide) rfl (fun ls hl => ?_)
    have hfr0 : dk_fr (fun t => t = t0 ∨ t = t1) w w_296 := ((dk_fr.rf).tr ((dk_fr.up (T := (fun t => t = t0 ∨ t = t1)) hh (Or.inl rfl)).eq hw_293)).tr ((dk_fr.up (T := (fun t => t = t0 ∨ t = t1)) h_294 (Or.inl rfl)).eq hw_297)
    have lp : ∀ (zk : Nat) (i : Nat) (g : Nat → Option Nat), xs.length - i < zk → (i ≤ xs.length) → ∀ (H : Heap) (locs : List Loc) (v : dk_H), v h = some (t0, .inr (cx_A, [.int (mo + nI 1), .ref ed, .int (nI 0)])) → v ed = some (t1, dk_ca G 5 cap g) → (dk_fr (fun t => t = t0 ∨ t = t1) w v) → dk_P G v H → dk_S G s.heap H locs → ∀ (ls : Array Slot), lv_has ls 4 [(0, .ref h), (1, .ref ed), (2, .int (nI xs.length)), (3, .int (nI i))] → W p l e rm_A_clear s m args below meth c H locs 0 0 Q (F0 m 27 ls []) := by
      intro zk
      induction zk with
      | zero =>
        intro i g hk
        exact absurd hk (by omega)
      | succ zk ih =>
        intro i g hk hi
        intro H locs v hh hed hfr hP hS
        intro ls hl
        refine lv_iload_n hx hb de_A_clear_27 rfl (lv_at hl 3 rfl) ?_
        refine lv_iload_n hx hb de_A_clear_28 rfl (lv_at hl 2 rfl) ?_
        refine nx_icmp_ge (a := i) (b := xs.length) (tgt := 42) hx hb (by omega) (by omega) de_A_clear_29 (by decide) (fun c_300 => ?_) (fun c_300 => ?_)
        · exact dk_vret hQ hx hb hr hlocks hP hS (Nat.le_refl _) (Nat.le_refl _) (⟨⟨_, ed, hh, Or.inr ⟨cap, g, hed, Nat.zero_le _, h10, h9, fun i x z => by simp at z⟩⟩, hfr⟩) de_A_clear_42
        · refine lv_aload_n hx hb de_A_clear_32 rfl (lv_at hl 1 rfl) ?_
          refine lv_iload_n hx hb de_A_clear_33 rfl (lv_at hl 3 rfl) ?_
          refine lv_null hx hb de_A_clear_34 ?_
          refine dk_aastN (a := ed) (C := dk_nO) hx hb hK hP hS hed rfl i rfl (by omega) (by omega) de_A_clear_35 (fun H locs w_301 hw_302 hP hS => ?_)
          have h_303 : w_301 ed = some (t1, dk_ca G 5 cap (va_up g i none)) := dk_here hw_302
          have h_304 : w_301 h = some (t0, .inr (cx_A, [.int (mo + nI 1), .ref ed, .int (nI 0)])) := dk_keep hw_302 hed hh (by omega)
          have hfr3 := hfr.tr ((dk_fr.rf).tr ((dk_fr.up (T := (fun t => t = t0 ∨ t = t1)) hed (Or.inr rfl)).eq hw_302))
          refine lv_iinc (v := nI (i + 1)) (lv' := [(3, .int (nI (i + 1))), (0, .ref h), (1, .ref ed), (2, .int (nI xs.length))]) hx hb de_A_clear_36 hl (k := 3) rfl (nx_inc i) (by decide) rfl (fun ls hl => ?_)
          refine lv_goto (tgt := 27) hx hb de_A_clear_39 (by decide) ?_
          exact ih (i + 1) (va_up g i none) (by omega) (by omega) _ _ _ h_304 h_303 hfr3 hP hS _ (lv_sub hl [1, 2, 3, 0] rfl)
    exact lp (xs.length + 1) 0 f (by omega) (Nat.zero_le _) _ _ _ h_298 h_299 hfr0 hP hS _ (lv_sub hl [3, 2, 1, 0] rfl)
