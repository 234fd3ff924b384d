/-! RunKeeper: entry, count, merge where they do not throw (printed by gen/c_keep5.py) -/
/-- up to n steps of merging: how many there were, and the state behind them -/
def mg_n : Nat → kp_S → Nat × kp_S
  | 0, σ => (0, σ)
  | n + 1, σ => match mg_1 σ with
    | none => (0, σ)
    | some τ => ((mg_n n τ).1 + 1, (mg_n n τ).2)
theorem lv_ct_up {lv : Nat → List (List en_T)} {i : Nat} {Rs : List (List en_T)} : ∀ (n : Nat), lv_ct (va_up lv i Rs) n + (if i < n then le_ct (lv i) else 0) = lv_ct lv n + (if i < n then le_ct Rs else 0)
  | 0 => rfl
  | n + 1 => by
    have ih := lv_ct_up (lv := lv) (i := i) (Rs := Rs) n
    simp only [lv_ct]
    by_cases e : n = i
    · subst e
      rw [dk_us, if_pos (by omega), if_pos (by omega)]
      rw [if_neg (by omega), if_neg (by omega)] at ih
      omega
    · rw [dk_un e]
      by_cases h : i < n
      · rw [if_pos h, if_pos h] at ih
        rw [if_pos (by omega), if_pos (by omega)]
        omega
      · rw [if_neg h, if_neg h] at ih
        rw [if_neg (by omega), if_neg (by omega)]
        omega
theorem lv_ct_up6 {lv : Nat → List (List en_T)} {i : Nat} {Rs : List (List en_T)} (hi : i < 6) : lv_ct (va_up lv i Rs) 6 + le_ct (lv i) = lv_ct lv 6 + le_ct Rs := by
  have := lv_ct_up (lv := lv) (i := i) (Rs := Rs) 6
  rw [if_pos hi, if_pos hi] at this
  exact this
theorem mg_K_len (σ : kp_S) (j : Nat) : (mg_K σ j).length ≤ le_ct (σ.lv j) := Nat.le_trans (kw_len _ _ _ _) (by rw [mg_A, so_st_len, le_flat]; exact Nat.le_refl _)
theorem mg_Sn (σ : kp_S) {j : Nat} (hj : j < 5) : kp_n (mg_S σ j) ≤ kp_n σ := by
  have h1 := mg_K_len σ j
  have h2 := lv_ct_up6 (lv := σ.lv) (i := j) (Rs := []) (by omega)
  have h3 := lv_ct_up6 (lv := va_up σ.lv j []) (i := j + 1) (Rs := va_up σ.lv j [] (j + 1) ++ [mg_K σ j]) (by omega)
  rw [le_snoc] at h3
  have h4 : le_ct ([] : List (List en_T)) = 0 := rfl
  unfold mg_S lv_add kp_n
  split
  · show σ.tb.length + lv_ct (va_up σ.lv j []) 6 ≤ _
    omega
  · show σ.tb.length + lv_ct (va_up (va_up σ.lv j []) (j + 1) (va_up σ.lv j [] (j + 1) ++ [mg_K σ j])) 6 ≤ _
    omega
theorem mg_j5 {lv : Nat → List (List en_T)} {j : Nat} (h : mg_j lv = some j) : j < 5 := by
  have := List.mem_of_find?_eq_some h
  simp at this
  omega
theorem mg_1n {σ τ : kp_S} (h : mg_1 σ = some τ) : kp_n τ ≤ kp_n σ := by
  unfold mg_1 at h
  cases hj : mg_j σ.lv with
  | none => rw [hj] at h; cases h
  | some j =>
    rw [hj] at h
    cases h
    exact mg_Sn σ (mg_j5 hj)
abbrev rm_K_entry : Room := { frames := 4, cells := 0, slots := 0, locals := 85 }
set_option maxHeartbeats 4000000 in
set_option maxRecDepth 100000 in
theorem c_K_entry0 (l : Launch) (G : dk_G) (w : dk_H) (h : Nat) (D : kp_D) (σ : kp_S) (hkp : kp_at G w h D σ) (i j k : Nat) (hi : i < 6) (R : List en_T) (hR : (σ.lv i)[j]? = some R) (x : en_T) (hx9 : R[k]? = some x) : dk_Mi l my_K_entry (wd_c my_K_entry mb_K_entry 7 (some .int)) rm_K_entry G w [.ref h, .int (nI i), .int (nI j), .int (nI k), .int (nI 0)] (fun r w1 => r = nI x.1 ∧ w1 = w) 0 0 := by
  have hl9 : (σ.lv i).length ≤ 600 := (hkp.v i hi).2.choose_spec.choose_spec.2.2.2.1
  have hjl := (List.getElem?_eq_some_iff.mp hR).1
  have hkl := (List.getElem?_eq_some_iff.mp hx9).1
  refine dk_enter (lv := [(0, .ref h), (1, .int (nI i)), (2, .int (nI j)), (3, .int (nI k)), (4, .int (nI 0))]) (by decide) (Nat.le_of_ble_eq_true rfl) rfl (fun p e s m args below meth c ls Q hQ C hP hS hl => ?_)
  obtain ⟨hx, hb, hr, hml, hlocks, hown, hnm, hts, hE⟩ := C
  have hK := hE.1
  have hN := hE.2.1
  have hh_1108 : w h = some (1, .inr (cx_K, [.ref D.t, .ref D.a, .ref D.lv, .ref D.sn, .ref D.g, .ref D.k, .ref D.ne, .int (nI σ.sf), .int (bo_i σ.ib), .int (nI σ.sq), .int (nI σ.pr), .int (nI σ.mi)])) := hkp.o
  refine lv_iload_n hx hb de_K_entry_0 rfl (lv_at hl 1 rfl) ?_
  refine dk_calli (va_runS (As := [.int (nI i)]) (rest := []) ⟨hx, hb, hml, hown, hts⟩ (c_K_isLevel l G w (nI i)) (va_cwS 1 hts (wd_gS wi_170 wi_168 wi_169 wi_1) rfl rfl rfl (by decide +kernel) ⟨Nat.le_of_ble_eq_true rfl, Nat.le_of_ble_eq_true rfl⟩) (dk_preS hE hP hS) rfl rfl hl.1 rfl (lv_room (Nat.le_of_ble_eq_true rfl)) de_K_entry_1 ⟨(by first | exact Nat.le_of_ble_eq_true rfl | (simp only [Nat.zero_add]; omega) | omega), (by first | exact Nat.le_of_ble_eq_true rfl | (simp only [Nat.zero_add]; omega) | omega)⟩) hS (fun r_1111 w_1109 H locs hq_1110 hP hS => ?_)
  rw [in_nat (by omega) (by decide)] at hq_1110
  obtain ⟨hr_1112, he_1113⟩ := hq_1110
  subst hr_1112
  rw [he_1113] at hP
  refine bo_if_eq (b := (decide (i < 6))) (tgt := 18) hx hb de_K_entry_4 (by decide) (fun c_1114 => ?_) (fun c_1114 => ?_)
  · exact absurd c_1114 (by simp [hi])
  · refine lv_iload hx hb de_K_entry_7 (lv_at hl 4 rfl) ?_
    refine nx_if_lt (a := 0) (tgt := 18) hx hb (by omega) de_K_entry_9 (by decide) ?_
    refine lv_iload hx hb de_K_entry_12 (lv_at hl 4 rfl) ?_
    refine lv_iconst (v := nI 2) hx hb de_K_entry_14 (by decide) ?_
    refine nx_icmp_le (a := 0) (b := 2) (tgt := 28) hx hb (by omega) (by omega) de_K_entry_15 (by decide) (fun c_1116 => ?_) (fun c_1116 => ?_)
    · refine lv_aload_n hx hb de_K_entry_28 rfl (lv_at hl 0 rfl) ?_
      refine dk_get (a := h) (v := .ref D.lv) (C := kn_K) (T := kt_K) (N := 12) hx hb hts ki_K hown hK hP hh_1108 rfl 2 (by decide) (hts _ wi_105) (fun _ h9 => h9) rfl de_K_entry_29 ?_
      refine lv_iload_n hx hb de_K_entry_32 rfl (lv_at hl 1 rfl) ?_
      refine dk_aald (a := D.lv) (r := some (D.le i)) (C := dk_nL) hx hb hK hP hkp.l rfl i rfl (by omega) (by omega) ((hkp.v i (by omega)).1) de_K_entry_33 ?_
      obtain ⟨al_1117, _, hc_1118, -⟩ := id (hkp.v i (by omega)).2
      refine lv_iload_n hx hb de_K_entry_34 rfl (lv_at hl 2 rfl) ?_
      refine dk_callq (va_runV (As := [.int (nI j)]) (rest := []) ⟨hx, hb, hml, hown, hts⟩ (c_V_runAt l G w (D.le i) (20 + 3 * i) (σ.lv i) (hkp.v i hi).2 (nI j)) (cwV 1 hts (wd_gV (C := "RunKeeper$Level") wi_638 wi_635 wi_636 wi_637 wi_4) rfl rfl rfl (by decide +kernel) ⟨Nat.le_of_ble_eq_true rfl, Nat.le_of_ble_eq_true rfl⟩) (dk_preV (kn_V, kt_V, 2) hE hP hS hc_1118 rfl) rfl rfl hl.1 rfl (lv_room (Nat.le_of_ble_eq_true rfl)) de_K_entry_35 ⟨(by first | exact Nat.le_of_ble_eq_true rfl | (simp only [Nat.zero_add]; omega) | omega), (by first | exact Nat.le_of_ble_eq_true rfl | (simp only [Nat.zero_add]; omega) | omega)⟩) hS (fun r_1121 w_1119 H locs hq_1120 hP hS => ?_)
      obtain ⟨a9, ha9, hrn⟩ := rn_in hq_1120.1 (by omega) (by omega) hR
      rw [hq_1120.2] at hP
      subst ha9
      obtain ⟨r9, fl9, f9, hac, hrw, -, -, -, hR6, -⟩ := id hrn
      obtain ⟨sl9, _, hrc, -⟩ := id hrw
      refine lv_astore (lv' := [(5, .ref a9), (0, .ref h), (1, .int (nI i)), (2, .int (nI j)), (3, .int (nI k)), (4, .int (nI 0))]) hx hb de_K_entry_38 hl (by decide) rfl (fun ls hl => ?_)
      refine lv_aload hx hb de_K_entry_40 (lv_at hl 0 rfl) ?_
      refine lv_ifnonnull (tgt := 49) hx hb de_K_entry_42 (by decide) ?_
      refine lv_aload hx hb de_K_entry_49 (lv_at hl 0 rfl) ?_
      refine dk_callq (va_runV (As := []) (rest := []) ⟨hx, hb, hml, hown, hts⟩ (c_U_entries l G w a9 0 r9 fl9 hac) (cwV 0 hts (wd_gV (C := "RunKeeper$Run") wi_274 wi_651 wi_272 wi_273 wi_15) rfl rfl rfl (by decide +kernel) ⟨Nat.le_of_ble_eq_true rfl, Nat.le_of_ble_eq_true rfl⟩) (dk_preV (kn_U, kt_U, 2) hE hP hS hac rfl) rfl rfl hl.1 rfl (lv_room (Nat.le_of_ble_eq_true rfl)) de_K_entry_51 ⟨(by first | exact Nat.le_of_ble_eq_true rfl | (simp only [Nat.zero_add]; omega) | omega), (by first | exact Nat.le_of_ble_eq_true rfl | (simp only [Nat.zero_add]; omega) | omega)⟩) hS (fun r_1125 w_1123 H locs hq_1124 hP hS => ?_)
      obtain ⟨hr8, hw8⟩ := hq_1124
      subst hr8
      rw [hw8] at hP
      refine lv_iload_n hx hb de_K_entry_54 rfl (lv_at hl 4 rfl) ?_
      refine dk_callq (va_runV (As := [.int (nI k)]) (rest := []) ⟨hx, hb, hml, hown, hts⟩ (c_R_at l G w r9 0 0 R.length R hrw (nI k)) (cwV 1 hts (wd_gV (C := "RunKeeper$Row") wi_191 wi_516 wi_189 wi_190 wi_2) rfl rfl rfl (by decide +kernel) ⟨Nat.le_of_ble_eq_true rfl, Nat.le_of_ble_eq_true rfl⟩) (dk_preV (kn_R, kt_R, 2) hE hP hS hrc rfl) rfl rfl hl.1 rfl (lv_room (Nat.le_of_ble_eq_true rfl)) de_K_entry_55 ⟨(by first | exact Nat.le_of_ble_eq_true rfl | (simp only [Nat.zero_add]; omega) | omega), (by first | exact Nat.le_of_ble_eq_true rfl | (simp only [Nat.zero_add]; omega) | omega)⟩) hS (fun r_1128 w_1126 H locs hq_1127 hP hS => ?_)
      obtain ⟨a1, ha1, ha2⟩ := at_in hq_1127.2 (by omega) (by omega) hx9
      rw [hq_1127.1] at hP
      subst ha1
      refine lv_astore (lv' := [(6, .ref a1), (5, .ref a9), (0, .ref h), (1, .int (nI i)), (2, .int (nI j)), (3, .int (nI k)), (4, .int (nI 0))]) hx hb de_K_entry_58 hl (by decide) rfl (fun ls hl => ?_)
      refine lv_aload hx hb de_K_entry_60 (lv_at hl 0 rfl) ?_
      refine lv_ifnonnull (tgt := 75) hx hb de_K_entry_62 (by decide) ?_
      refine lv_iload hx hb de_K_entry_75 (lv_at hl 6 rfl) ?_
      refine lv_lookup (x := nI 0) (off := 27) (tgt := 104) hx hb de_K_entry_77 (by decide) (by decide) (by decide) ?_
      refine lv_aload hx hb de_K_entry_104 (lv_at hl 0 rfl) ?_
      refine dk_getN (a := a1) (v := .int (nI x.1)) (C := kn_E) (T := kt_E) (N := 4) (host := "RunKeeper") hx hb hts ki_E hown hK hP ha2 rfl 0 (by decide) (hN.use (dn_m 447 (by decide +kernel) rfl)) (fun _ h9 => h9) rfl de_K_entry_106 ?_
      exact dk_iret hQ hx hb hr hlocks hP hS (Nat.le_refl _) (Nat.le_refl _) (⟨rfl, rfl⟩) de_K_entry_109
    · exact absurd c_1116 (by omega)
set_option maxHeartbeats 4000000 in
set_option maxRecDepth 100000 in
theorem c_K_entry1 (l : Launch) (G : dk_G) (w : dk_H) (h : Nat) (D : kp_D) (σ : kp_S) (hkp : kp_at G w h D σ) (i j k : Nat) (hi : i < 6) (R : List en_T) (hR : (σ.lv i)[j]? = some R) (x : en_T) (hx9 : R[k]? = some x) : dk_Mi l my_K_entry (wd_c my_K_entry mb_K_entry 7 (some .int)) rm_K_entry G w [.ref h, .int (nI i), .int (nI j), .int (nI k), .int (nI 1)] (fun r w1 => r = nI x.2.1 ∧ w1 = w) 0 0 := by
  have hl9 : (σ.lv i).length ≤ 600 := (hkp.v i hi).2.choose_spec.choose_spec.2.2.2.1
  have hjl := (List.getElem?_eq_some_iff.mp hR).1
  have hkl := (List.getElem?_eq_some_iff.mp hx9).1
  refine dk_enter (lv := [(0, .ref h), (1, .int (nI i)), (2, .int (nI j)), (3, .int (nI k)), (4, .int (nI 1))]) (by decide) (Nat.le_of_ble_eq_true rfl) rfl (fun p e s m args below meth c ls Q hQ C hP hS hl => ?_)
  obtain ⟨hx, hb, hr, hml, hlocks, hown, hnm, hts, hE⟩ := C
  have hK := hE.1
  have hN := hE.2.1
  have hh_1130 : w h = some (1, .inr (cx_K, [.ref D.t, .ref D.a, .ref D.lv, .ref D.sn, .ref D.g, .ref D.k, .ref D.ne, .int (nI σ.sf), .int (bo_i σ.ib), .int (nI σ.sq), .int (nI σ.pr), .int (nI σ.mi)])) := hkp.o
  refine lv_iload_n hx hb de_K_entry_0 rfl (lv_at hl 1 rfl) ?_
  refine dk_calli (va_runS (As := [.int (nI i)]) (rest := []) ⟨hx, hb, hml, hown, hts⟩ (c_K_isLevel l G w (nI i)) (va_cwS 1 hts (wd_gS wi_170 wi_168 wi_169 wi_1) rfl rfl rfl (by decide +kernel) ⟨Nat.le_of_ble_eq_true rfl, Nat.le_of_ble_eq_true rfl⟩) (dk_preS hE hP hS) rfl rfl hl.1 rfl (lv_room (Nat.le_of_ble_eq_true rfl)) de_K_entry_1 ⟨(by first | exact Nat.le_of_ble_eq_true rfl | (simp only [Nat.zero_add]; omega) | omega), (by first | exact Nat.le_of_ble_eq_true rfl | (simp only [Nat.zero_add]; omega) | omega)⟩) hS (fun r_1133 w_1131 H locs hq_1132 hP hS => ?_)
  rw [in_nat (by omega) (by decide)] at hq_1132
  obtain ⟨hr_1134, he_1135⟩ := hq_1132
  subst hr_1134
  rw [he_1135] at hP
  refine bo_if_eq (b := (decide (i < 6))) (tgt := 18) hx hb de_K_entry_4 (by decide) (fun c_1136 => ?_) (fun c_1136 => ?_)
  · exact absurd c_1136 (by simp [hi])
  · refine lv_iload hx hb de_K_entry_7 (lv_at hl 4 rfl) ?_
    refine nx_if_lt (a := 1) (tgt := 18) hx hb (by omega) de_K_entry_9 (by decide) ?_
    refine lv_iload hx hb de_K_entry_12 (lv_at hl 4 rfl) ?_
    refine lv_iconst (v := nI 2) hx hb de_K_entry_14 (by decide) ?_
    refine nx_icmp_le (a := 1) (b := 2) (tgt := 28) hx hb (by omega) (by omega) de_K_entry_15 (by decide) (fun c_1138 => ?_) (fun c_1138 => ?_)
    · refine lv_aload_n hx hb de_K_entry_28 rfl (lv_at hl 0 rfl) ?_
      refine dk_get (a := h) (v := .ref D.lv) (C := kn_K) (T := kt_K) (N := 12) hx hb hts ki_K hown hK hP hh_1130 rfl 2 (by decide) (hts _ wi_105) (fun _ h9 => h9) rfl de_K_entry_29 ?_
      refine lv_iload_n hx hb de_K_entry_32 rfl (lv_at hl 1 rfl) ?_
      refine dk_aald (a := D.lv) (r := some (D.le i)) (C := dk_nL) hx hb hK hP hkp.l rfl i rfl (by omega) (by omega) ((hkp.v i (by omega)).1) de_K_entry_33 ?_
      obtain ⟨al_1139, _, hc_1140, -⟩ := id (hkp.v i (by omega)).2
      refine lv_iload_n hx hb de_K_entry_34 rfl (lv_at hl 2 rfl) ?_
      refine dk_callq (va_runV (As := [.int (nI j)]) (rest := []) ⟨hx, hb, hml, hown, hts⟩ (c_V_runAt l G w (D.le i) (20 + 3 * i) (σ.lv i) (hkp.v i hi).2 (nI j)) (cwV 1 hts (wd_gV (C := "RunKeeper$Level") wi_638 wi_635 wi_636 wi_637 wi_4) rfl rfl rfl (by decide +kernel) ⟨Nat.le_of_ble_eq_true rfl, Nat.le_of_ble_eq_true rfl⟩) (dk_preV (kn_V, kt_V, 2) hE hP hS hc_1140 rfl) rfl rfl hl.1 rfl (lv_room (Nat.le_of_ble_eq_true rfl)) de_K_entry_35 ⟨(by first | exact Nat.le_of_ble_eq_true rfl | (simp only [Nat.zero_add]; omega) | omega), (by first | exact Nat.le_of_ble_eq_true rfl | (simp only [Nat.zero_add]; omega) | omega)⟩) hS (fun r_1143 w_1141 H locs hq_1142 hP hS => ?_)
      obtain ⟨a9, ha9, hrn⟩ := rn_in hq_1142.1 (by omega) (by omega) hR
      rw [hq_1142.2] at hP
      subst ha9
      obtain ⟨r9, fl9, f9, hac, hrw, -, -, -, hR6, -⟩ := id hrn
      obtain ⟨sl9, _, hrc, -⟩ := id hrw
      refine lv_astore (lv' := [(5, .ref a9), (0, .ref h), (1, .int (nI i)), (2, .int (nI j)), (3, .int (nI k)), (4, .int (nI 1))]) hx hb de_K_entry_38 hl (by decide) rfl (fun ls hl => ?_)
      refine lv_aload hx hb de_K_entry_40 (lv_at hl 0 rfl) ?_
      refine lv_ifnonnull (tgt := 49) hx hb de_K_entry_42 (by decide) ?_
      refine lv_aload hx hb de_K_entry_49 (lv_at hl 0 rfl) ?_
      refine dk_callq (va_runV (As := []) (rest := []) ⟨hx, hb, hml, hown, hts⟩ (c_U_entries l G w a9 0 r9 fl9 hac) (cwV 0 hts (wd_gV (C := "RunKeeper$Run") wi_274 wi_651 wi_272 wi_273 wi_15) rfl rfl rfl (by decide +kernel) ⟨Nat.le_of_ble_eq_true rfl, Nat.le_of_ble_eq_true rfl⟩) (dk_preV (kn_U, kt_U, 2) hE hP hS hac rfl) rfl rfl hl.1 rfl (lv_room (Nat.le_of_ble_eq_true rfl)) de_K_entry_51 ⟨(by first | exact Nat.le_of_ble_eq_true rfl | (simp only [Nat.zero_add]; omega) | omega), (by first | exact Nat.le_of_ble_eq_true rfl | (simp only [Nat.zero_add]; omega) | omega)⟩) hS (fun r_1147 w_1145 H locs hq_1146 hP hS => ?_)
      obtain ⟨hr8, hw8⟩ := hq_1146
      subst hr8
      rw [hw8] at hP
      refine lv_iload_n hx hb de_K_entry_54 rfl (lv_at hl 4 rfl) ?_
      refine dk_callq (va_runV (As := [.int (nI k)]) (rest := []) ⟨hx, hb, hml, hown, hts⟩ (c_R_at l G w r9 0 0 R.length R hrw (nI k)) (cwV 1 hts (wd_gV (C := "RunKeeper$Row") wi_191 wi_516 wi_189 wi_190 wi_2) rfl rfl rfl (by decide +kernel) ⟨Nat.le_of_ble_eq_true rfl, Nat.le_of_ble_eq_true rfl⟩) (dk_preV (kn_R, kt_R, 2) hE hP hS hrc rfl) rfl rfl hl.1 rfl (lv_room (Nat.le_of_ble_eq_true rfl)) de_K_entry_55 ⟨(by first | exact Nat.le_of_ble_eq_true rfl | (simp only [Nat.zero_add]; omega) | omega), (by first | exact Nat.le_of_ble_eq_true rfl | (simp only [Nat.zero_add]; omega) | omega)⟩) hS (fun r_1150 w_1148 H locs hq_1149 hP hS => ?_)
      obtain ⟨a1, ha1, ha2⟩ := at_in hq_1149.2 (by omega) (by omega) hx9
      rw [hq_1149.1] at hP
      subst ha1
      refine lv_astore (lv' := [(6, .ref a1), (5, .ref a9), (0, .ref h), (1, .int (nI i)), (2, .int (nI j)), (3, .int (nI k)), (4, .int (nI 1))]) hx hb de_K_entry_58 hl (by decide) rfl (fun ls hl => ?_)
      refine lv_aload hx hb de_K_entry_60 (lv_at hl 0 rfl) ?_
      refine lv_ifnonnull (tgt := 75) hx hb de_K_entry_62 (by decide) ?_
      refine lv_iload hx hb de_K_entry_75 (lv_at hl 6 rfl) ?_
      refine lv_lookup (x := nI 1) (off := 33) (tgt := 110) hx hb de_K_entry_77 (by decide) (by decide) (by decide) ?_
      refine lv_aload hx hb de_K_entry_110 (lv_at hl 0 rfl) ?_
      refine dk_getN (a := a1) (v := .int (nI x.2.1)) (C := kn_E) (T := kt_E) (N := 4) (host := "RunKeeper") hx hb hts ki_E hown hK hP ha2 rfl 1 (by decide) (hN.use (dn_m 450 (by decide +kernel) rfl)) (fun _ h9 => h9) rfl de_K_entry_112 ?_
      exact dk_iret hQ hx hb hr hlocks hP hS (Nat.le_refl _) (Nat.le_refl _) (⟨rfl, rfl⟩) de_K_entry_115
    · exact absurd c_1138 (by omega)
set_option maxHeartbeats 4000000 in
set_option maxRecDepth 100000 in
theorem c_K_entry2 (l : Launch) (G : dk_G) (w : dk_H) (h : Nat) (D : kp_D) (σ : kp_S) (hkp : kp_at G w h D σ) (i j k : Nat) (hi : i < 6) (R : List en_T) (hR : (σ.lv i)[j]? = some R) (x : en_T) (hx9 : R[k]? = some x) : dk_Mi l my_K_entry (wd_c my_K_entry mb_K_entry 7 (some .int)) rm_K_entry G w [.ref h, .int (nI i), .int (nI j), .int (nI k), .int (nI 2)] (fun r w1 => r = bo_i x.2.2.2 ∧ w1 = w) 0 0 := by
  have hl9 : (σ.lv i).length ≤ 600 := (hkp.v i hi).2.choose_spec.choose_spec.2.2.2.1
  have hjl := (List.getElem?_eq_some_iff.mp hR).1
  have hkl := (List.getElem?_eq_some_iff.mp hx9).1
  refine dk_enter (lv := [(0, .ref h), (1, .int (nI i)), (2, .int (nI j)), (3, .int (nI k)), (4, .int (nI 2))]) (by decide) (Nat.le_of_ble_eq_true rfl) rfl (fun p e s m args below meth c ls Q hQ C hP hS hl => ?_)
  obtain ⟨hx, hb, hr, hml, hlocks, hown, hnm, hts, hE⟩ := C
  have hK := hE.1
  have hN := hE.2.1
  have hh_1152 : w h = some (1, .inr (cx_K, [.ref D.t, .ref D.a, .ref D.lv, .ref D.sn, .ref D.g, .ref D.k, .ref D.ne, .int (nI σ.sf), .int (bo_i σ.ib), .int (nI σ.sq), .int (nI σ.pr), .int (nI σ.mi)])) := hkp.o
  refine lv_iload_n hx hb de_K_entry_0 rfl (lv_at hl 1 rfl) ?_
  refine dk_calli (va_runS (As := [.int (nI i)]) (rest := []) ⟨hx, hb, hml, hown, hts⟩ (c_K_isLevel l G w (nI i)) (va_cwS 1 hts (wd_gS wi_170 wi_168 wi_169 wi_1) rfl rfl rfl (by decide +kernel) ⟨Nat.le_of_ble_eq_true rfl, Nat.le_of_ble_eq_true rfl⟩) (dk_preS hE hP hS) rfl rfl hl.1 rfl (lv_room (Nat.le_of_ble_eq_true rfl)) de_K_entry_1 ⟨(by first | exact Nat.le_of_ble_eq_true rfl | (simp only [Nat.zero_add]; omega) | omega), (by first | exact Nat.le_of_ble_eq_true rfl | (simp only [Nat.zero_add]; omega) | omega)⟩) hS (fun r_1155 w_1153 H locs hq_1154 hP hS => ?_)
  rw [in_nat (by omega) (by decide)] at hq_1154
  obtain ⟨hr_1156, he_1157⟩ := hq_1154
  subst hr_1156
  rw [he_1157] at hP
  refine bo_if_eq (b := (decide (i < 6))) (tgt := 18) hx hb de_K_entry_4 (by decide) (fun c_1158 => ?_) (fun c_1158 => ?_)
  · exact absurd c_1158 (by simp [hi])
  · refine lv_iload hx hb de_K_entry_7 (lv_at hl 4 rfl) ?_
    refine nx_if_lt (a := 2) (tgt := 18) hx hb (by omega) de_K_entry_9 (by decide) ?_
    refine lv_iload hx hb de_K_entry_12 (lv_at hl 4 rfl) ?_
    refine lv_iconst (v := nI 2) hx hb de_K_entry_14 (by decide) ?_
    refine nx_icmp_le (a := 2) (b := 2) (tgt := 28) hx hb (by omega) (by omega) de_K_entry_15 (by decide) (fun c_1160 => ?_) (fun c_1160 => ?_)
    · refine lv_aload_n hx hb de_K_entry_28 rfl (lv_at hl 0 rfl) ?_
      refine dk_get (a := h) (v := .ref D.lv) (C := kn_K) (T := kt_K) (N := 12) hx hb hts ki_K hown hK hP hh_1152 rfl 2 (by decide) (hts _ wi_105) (fun _ h9 => h9) rfl de_K_entry_29 ?_
      refine lv_iload_n hx hb de_K_entry_32 rfl (lv_at hl 1 rfl) ?_
      refine dk_aald (a := D.lv) (r := some (D.le i)) (C := dk_nL) hx hb hK hP hkp.l rfl i rfl (by omega) (by omega) ((hkp.v i (by omega)).1) de_K_entry_33 ?_
      obtain ⟨al_1161, _, hc_1162, -⟩ := id (hkp.v i (by omega)).2
      refine lv_iload_n hx hb de_K_entry_34 rfl (lv_at hl 2 rfl) ?_
      refine dk_callq (va_runV (As := [.int (nI j)]) (rest := []) ⟨hx, hb, hml, hown, hts⟩ (c_V_runAt l G w (D.le i) (20 + 3 * i) (σ.lv i) (hkp.v i hi).2 (nI j)) (cwV 1 hts (wd_gV (C := "RunKeeper$Level") wi_638 wi_635 wi_636 wi_637 wi_4) rfl rfl rfl (by decide +kernel) ⟨Nat.le_of_ble_eq_true rfl, Nat.le_of_ble_eq_true rfl⟩) (dk_preV (kn_V, kt_V, 2) hE hP hS hc_1162 rfl) rfl rfl hl.1 rfl (lv_room (Nat.le_of_ble_eq_true rfl)) de_K_entry_35 ⟨(by first | exact Nat.le_of_ble_eq_true rfl | (simp only [Nat.zero_add]; omega) | omega), (by first | exact Nat.le_of_ble_eq_true rfl | (simp only [Nat.zero_add]; omega) | omega)⟩) hS (fun r_1165 w_1163 H locs hq_1164 hP hS => ?_)
      obtain ⟨a9, ha9, hrn⟩ := rn_in hq_1164.1 (by omega) (by omega) hR
      rw [hq_1164.2] at hP
      subst ha9
      obtain ⟨r9, fl9, f9, hac, hrw, -, -, -, hR6, -⟩ := id hrn
      obtain ⟨sl9, _, hrc, -⟩ := id hrw
      refine lv_astore (lv' := [(5, .ref a9), (0, .ref h), (1, .int (nI i)), (2, .int (nI j)), (3, .int (nI k)), (4, .int (nI 2))]) hx hb de_K_entry_38 hl (by decide) rfl (fun ls hl => ?_)
      refine lv_aload hx hb de_K_entry_40 (lv_at hl 0 rfl) ?_
      refine lv_ifnonnull (tgt := 49) hx hb de_K_entry_42 (by decide) ?_
      refine lv_aload hx hb de_K_entry_49 (lv_at hl 0 rfl) ?_
      refine dk_callq (va_runV (As := []) (rest := []) ⟨hx, hb, hml, hown, hts⟩ (c_U_entries l G w a9 0 r9 fl9 hac) (cwV 0 hts (wd_gV (C := "RunKeeper$Run") wi_274 wi_651 wi_272 wi_273 wi_15) rfl rfl rfl (by decide +kernel) ⟨Nat.le_of_ble_eq_true rfl, Nat.le_of_ble_eq_true rfl⟩) (dk_preV (kn_U, kt_U, 2) hE hP hS hac rfl) rfl rfl hl.1 rfl (lv_room (Nat.le_of_ble_eq_true rfl)) de_K_entry_51 ⟨(by first | exact Nat.le_of_ble_eq_true rfl | (simp only [Nat.zero_add]; omega) | omega), (by first | exact Nat.le_of_ble_eq_true rfl | (simp only [Nat.zero_add]; omega) | omega)⟩) hS (fun r_1169 w_1167 H locs hq_1168 hP hS => ?_)
      obtain ⟨hr8, hw8⟩ := hq_1168
      subst hr8
      rw [hw8] at hP
      refine lv_iload_n hx hb de_K_entry_54 rfl (lv_at hl 4 rfl) ?_
      refine dk_callq (va_runV (As := [.int (nI k)]) (rest := []) ⟨hx, hb, hml, hown, hts⟩ (c_R_at l G w r9 0 0 R.length R hrw (nI k)) (cwV 1 hts (wd_gV (C := "RunKeeper$Row") wi_191 wi_516 wi_189 wi_190 wi_2) rfl rfl rfl (by decide +kernel) ⟨Nat.le_of_ble_eq_true rfl, Nat.le_of_ble_eq_true rfl⟩) (dk_preV (kn_R, kt_R, 2) hE hP hS hrc rfl) rfl rfl hl.1 rfl (lv_room (Nat.le_of_ble_eq_true rfl)) de_K_entry_55 ⟨(by first | exact Nat.le_of_ble_eq_true rfl | (simp only [Nat.zero_add]; omega) | omega), (by first | exact Nat.le_of_ble_eq_true rfl | (simp only [Nat.zero_add]; omega) | omega)⟩) hS (fun r_1172 w_1170 H locs hq_1171 hP hS => ?_)
      obtain ⟨a1, ha1, ha2⟩ := at_in hq_1171.2 (by omega) (by omega) hx9
      rw [hq_1171.1] at hP
      subst ha1
      refine lv_astore (lv' := [(6, .ref a1), (5, .ref a9), (0, .ref h), (1, .int (nI i)), (2, .int (nI j)), (3, .int (nI k)), (4, .int (nI 2))]) hx hb de_K_entry_58 hl (by decide) rfl (fun ls hl => ?_)
      refine lv_aload hx hb de_K_entry_60 (lv_at hl 0 rfl) ?_
      refine lv_ifnonnull (tgt := 75) hx hb de_K_entry_62 (by decide) ?_
      refine lv_iload hx hb de_K_entry_75 (lv_at hl 6 rfl) ?_
      refine lv_lookup (x := nI 2) (off := 39) (tgt := 116) hx hb de_K_entry_77 (by decide) (by decide) (by decide) ?_
      refine lv_aload hx hb de_K_entry_116 (lv_at hl 0 rfl) ?_
      refine dk_getN (a := a1) (v := .int (bo_i x.2.2.2)) (C := kn_E) (T := kt_E) (N := 4) (host := "RunKeeper") hx hb hts ki_E hown hK hP ha2 rfl 3 (by decide) (hN.use (dn_m 455 (by decide +kernel) rfl)) (fun _ h9 => h9) rfl de_K_entry_118 ?_
      refine bo_if_eq (b := x.2.2.2) (tgt := 128) hx hb de_K_entry_121 (by decide) (fun c_1174 => ?_) (fun c_1174 => ?_)
      · refine lv_iconst (v := nI 0) hx hb de_K_entry_128 (by decide) ?_
        exact dk_iret hQ hx hb hr hlocks hP hS (Nat.le_refl _) (Nat.le_refl _) (⟨bo_of0 c_1174, rfl⟩) de_K_entry_129
      · refine lv_iconst (v := nI 1) hx hb de_K_entry_124 (by decide) ?_
        refine lv_goto (tgt := 129) hx hb de_K_entry_125 (by decide) ?_
        exact dk_iret hQ hx hb hr hlocks hP hS (Nat.le_refl _) (Nat.le_refl _) (⟨bo_of1 c_1174, rfl⟩) de_K_entry_129
    · exact absurd c_1160 (by omega)
abbrev rm_K_count : Room := { frames := 2, cells := 0, slots := 0, locals := 42 }
set_option maxHeartbeats 4000000 in
set_option maxRecDepth 100000 in
theorem c_K_count0 (l : Launch) (G : dk_G) (w : dk_H) (h : Nat) (D : kp_D) (σ : kp_S) (hkp : kp_at G w h D σ) (i : Nat) (hi : i < 6) : dk_Mi l my_K_count (wd_c my_K_count mb_K_count 3 (some .int)) rm_K_count G w [.ref h, .int (nI 0), .int (nI i)] (fun r w1 => r = nI (σ.lv i).length ∧ w1 = w) 0 0 := by
  refine dk_enter (lv := [(0, .ref h), (1, .int (nI 0)), (2, .int (nI i))]) (by decide) (Nat.le_of_ble_eq_true rfl) rfl (fun p e s m args below meth c ls Q hQ C hP hS hl => ?_)
  obtain ⟨hx, hb, hr, hml, hlocks, hown, hnm, hts, hE⟩ := C
  have hK := hE.1
  have hN := hE.2.1
  have hh_1175 : w h = some (1, .inr (cx_K, [.ref D.t, .ref D.a, .ref D.lv, .ref D.sn, .ref D.g, .ref D.k, .ref D.ne, .int (nI σ.sf), .int (bo_i σ.ib), .int (nI σ.sq), .int (nI σ.pr), .int (nI σ.mi)])) := hkp.o
  refine lv_iload_n hx hb de_K_count_0 rfl (lv_at hl 1 rfl) ?_
  refine nx_if_lt (a := 0) (tgt := 22) hx hb (by omega) de_K_count_1 (by decide) ?_
  refine lv_iload_n hx hb de_K_count_4 rfl (lv_at hl 1 rfl) ?_
  refine lv_bipush (v := nI 9) hx hb de_K_count_5 (by decide) ?_
  refine nx_icmp_gt (a := 0) (b := 9) (tgt := 22) hx hb (by omega) (by omega) de_K_count_7 (by decide) (fun c_1177 => ?_) (fun c_1177 => ?_)
  · exact absurd c_1177 (by omega)
  · refine lv_iload_n hx hb de_K_count_10 rfl (lv_at hl 1 rfl) ?_
    refine lv_iconst (v := nI 1) hx hb de_K_count_11 (by decide) ?_
    refine nx_icmp_gt (a := 0) (b := 1) (tgt := 32) hx hb (by omega) (by omega) de_K_count_12 (by decide) (fun c_1178 => ?_) (fun c_1178 => ?_)
    · exact absurd c_1178 (by omega)
    · refine lv_iload_n hx hb de_K_count_15 rfl (lv_at hl 2 rfl) ?_
      refine dk_calli (va_runS (As := [.int (nI i)]) (rest := []) ⟨hx, hb, hml, hown, hts⟩ (c_K_isLevel l G w (nI i)) (va_cwS 1 hts (wd_gS wi_170 wi_168 wi_169 wi_1) rfl rfl rfl (by decide +kernel) ⟨Nat.le_of_ble_eq_true rfl, Nat.le_of_ble_eq_true rfl⟩) (dk_preS hE hP hS) rfl rfl hl.1 rfl (lv_room (Nat.le_of_ble_eq_true rfl)) de_K_count_16 ⟨(by first | exact Nat.le_of_ble_eq_true rfl | (simp only [Nat.zero_add]; omega) | omega), (by first | exact Nat.le_of_ble_eq_true rfl | (simp only [Nat.zero_add]; omega) | omega)⟩) hS (fun r_1181 w_1179 H locs hq_1180 hP hS => ?_)
      rw [in_nat (by omega) (by decide)] at hq_1180
      obtain ⟨hr_1182, he_1183⟩ := hq_1180
      subst hr_1182
      rw [he_1183] at hP
      refine bo_if_ne (b := (decide (i < 6))) (tgt := 32) hx hb de_K_count_19 (by decide) (fun c_1184 => ?_) (fun c_1184 => ?_)
      · refine lv_iload_n hx hb de_K_count_32 rfl (lv_at hl 1 rfl) ?_
        refine lv_tableIn (x := nI 0) (off := 51) (tgt := 84) hx hb de_K_count_33 (by decide) (by decide) (by decide) (by decide) ?_
        refine lv_aload_n hx hb de_K_count_84 rfl (lv_at hl 0 rfl) ?_
        refine dk_get (a := h) (v := .ref D.lv) (C := kn_K) (T := kt_K) (N := 12) hx hb hts ki_K hown hK hP hh_1175 rfl 2 (by decide) (hts _ wi_105) (fun _ h9 => h9) rfl de_K_count_85 ?_
        refine lv_iload_n hx hb de_K_count_88 rfl (lv_at hl 2 rfl) ?_
        refine dk_aald (a := D.lv) (r := some (D.le i)) (C := dk_nL) hx hb hK hP hkp.l rfl i rfl (by omega) (by omega) ((hkp.v i (by omega)).1) de_K_count_89 ?_
        obtain ⟨al_1185, _, hc_1186, -⟩ := id (hkp.v i (by omega)).2
        refine dk_calli (va_runV (As := []) (rest := []) ⟨hx, hb, hml, hown, hts⟩ (c_V_runCount l G w (D.le i) (20 + 3 * i) (σ.lv i) (hkp.v i hi).2) (cwV 0 hts (wd_gV (C := "RunKeeper$Level") wi_536 wi_533 wi_534 wi_535 wi_4) rfl rfl rfl (by decide +kernel) ⟨Nat.le_of_ble_eq_true rfl, Nat.le_of_ble_eq_true rfl⟩) (dk_preV (kn_V, kt_V, 2) hE hP hS hc_1186 rfl) rfl rfl hl.1 rfl (lv_room (Nat.le_of_ble_eq_true rfl)) de_K_count_90 ⟨(by first | exact Nat.le_of_ble_eq_true rfl | (simp only [Nat.zero_add]; omega) | omega), (by first | exact Nat.le_of_ble_eq_true rfl | (simp only [Nat.zero_add]; omega) | omega)⟩) hS (fun r_1189 w_1187 H locs hq_1188 hP hS => ?_)
        obtain ⟨hr_1190, he_1191⟩ := hq_1188
        subst hr_1190
        rw [he_1191] at hP
        exact dk_iret hQ hx hb hr hlocks hP hS (Nat.le_refl _) (Nat.le_refl _) (⟨rfl, rfl⟩) de_K_count_93
      · exact absurd c_1184 (by simp [hi])
set_option maxHeartbeats 4000000 in
set_option maxRecDepth 100000 in
theorem c_K_count1 (l : Launch) (G : dk_G) (w : dk_H) (h : Nat) (D : kp_D) (σ : kp_S) (hkp : kp_at G w h D σ) (i : Nat) (hi : i < 6) : dk_Mi l my_K_count (wd_c my_K_count mb_K_count 3 (some .int)) rm_K_count G w [.ref h, .int (nI 1), .int (nI i)] (fun r w1 => r = nI (le_ct (σ.lv i)) ∧ w1 = w) 0 0 := by
  refine dk_enter (lv := [(0, .ref h), (1, .int (nI 1)), (2, .int (nI i))]) (by decide) (Nat.le_of_ble_eq_true rfl) rfl (fun p e s m args below meth c ls Q hQ C hP hS hl => ?_)
  obtain ⟨hx, hb, hr, hml, hlocks, hown, hnm, hts, hE⟩ := C
  have hK := hE.1
  have hN := hE.2.1
  have hh_1192 : w h = some (1, .inr (cx_K, [.ref D.t, .ref D.a, .ref D.lv, .ref D.sn, .ref D.g, .ref D.k, .ref D.ne, .int (nI σ.sf), .int (bo_i σ.ib), .int (nI σ.sq), .int (nI σ.pr), .int (nI σ.mi)])) := hkp.o
  refine lv_iload_n hx hb de_K_count_0 rfl (lv_at hl 1 rfl) ?_
  refine nx_if_lt (a := 1) (tgt := 22) hx hb (by omega) de_K_count_1 (by decide) ?_
  refine lv_iload_n hx hb de_K_count_4 rfl (lv_at hl 1 rfl) ?_
  refine lv_bipush (v := nI 9) hx hb de_K_count_5 (by decide) ?_
  refine nx_icmp_gt (a := 1) (b := 9) (tgt := 22) hx hb (by omega) (by omega) de_K_count_7 (by decide) (fun c_1194 => ?_) (fun c_1194 => ?_)
  · exact absurd c_1194 (by omega)
  · refine lv_iload_n hx hb de_K_count_10 rfl (lv_at hl 1 rfl) ?_
    refine lv_iconst (v := nI 1) hx hb de_K_count_11 (by decide) ?_
    refine nx_icmp_gt (a := 1) (b := 1) (tgt := 32) hx hb (by omega) (by omega) de_K_count_12 (by decide) (fun c_1195 => ?_) (fun c_1195 => ?_)
    · exact absurd c_1195 (by omega)
    · refine lv_iload_n hx hb de_K_count_15 rfl (lv_at hl 2 rfl) ?_
      refine dk_calli (va_runS (As := [.int (nI i)]) (rest := []) ⟨hx, hb, hml, hown, hts⟩ (c_K_isLevel l G w (nI i)) (va_cwS 1 hts (wd_gS wi_170 wi_168 wi_169 wi_1) rfl rfl rfl (by decide +kernel) ⟨Nat.le_of_ble_eq_true rfl, Nat.le_of_ble_eq_true rfl⟩) (dk_preS hE hP hS) rfl rfl hl.1 rfl (lv_room (Nat.le_of_ble_eq_true rfl)) de_K_count_16 ⟨(by first | exact Nat.le_of_ble_eq_true rfl | (simp only [Nat.zero_add]; omega) | omega), (by first | exact Nat.le_of_ble_eq_true rfl | (simp only [Nat.zero_add]; omega) | omega)⟩) hS (fun r_1198 w_1196 H locs hq_1197 hP hS => ?_)
      rw [in_nat (by omega) (by decide)] at hq_1197
      obtain ⟨hr_1199, he_1200⟩ := hq_1197
      subst hr_1199
      rw [he_1200] at hP
      refine bo_if_ne (b := (decide (i < 6))) (tgt := 32) hx hb de_K_count_19 (by decide) (fun c_1201 => ?_) (fun c_1201 => ?_)
      · refine lv_iload_n hx hb de_K_count_32 rfl (lv_at hl 1 rfl) ?_
        refine lv_tableIn (x := nI 1) (off := 61) (tgt := 94) hx hb de_K_count_33 (by decide) (by decide) (by decide) (by decide) ?_
        refine lv_aload_n hx hb de_K_count_94 rfl (lv_at hl 0 rfl) ?_
        refine dk_get (a := h) (v := .ref D.lv) (C := kn_K) (T := kt_K) (N := 12) hx hb hts ki_K hown hK hP hh_1192 rfl 2 (by decide) (hts _ wi_105) (fun _ h9 => h9) rfl de_K_count_95 ?_
        refine lv_iload_n hx hb de_K_count_98 rfl (lv_at hl 2 rfl) ?_
        refine dk_aald (a := D.lv) (r := some (D.le i)) (C := dk_nL) hx hb hK hP hkp.l rfl i rfl (by omega) (by omega) ((hkp.v i (by omega)).1) de_K_count_99 ?_
        obtain ⟨al_1202, _, hc_1203, -⟩ := id (hkp.v i (by omega)).2
        refine dk_calli (va_runV (As := []) (rest := []) ⟨hx, hb, hml, hown, hts⟩ (c_V_entryCount l G w (D.le i) (20 + 3 * i) (σ.lv i) (hkp.v i hi).2) (cwV 0 hts (wd_gV (C := "RunKeeper$Level") wi_422 wi_419 wi_420 wi_421 wi_4) rfl rfl rfl (by decide +kernel) ⟨Nat.le_of_ble_eq_true rfl, Nat.le_of_ble_eq_true rfl⟩) (dk_preV (kn_V, kt_V, 2) hE hP hS hc_1203 rfl) rfl rfl hl.1 rfl (lv_room (Nat.le_of_ble_eq_true rfl)) de_K_count_100 ⟨(by first | exact Nat.le_of_ble_eq_true rfl | (simp only [Nat.zero_add]; omega) | omega), (by first | exact Nat.le_of_ble_eq_true rfl | (simp only [Nat.zero_add]; omega) | omega)⟩) hS (fun r_1206 w_1204 H locs hq_1205 hP hS => ?_)
        obtain ⟨hr_1207, he_1208⟩ := hq_1205
        subst hr_1207
        rw [he_1208] at hP
        exact dk_iret hQ hx hb hr hlocks hP hS (Nat.le_refl _) (Nat.le_refl _) (⟨rfl, rfl⟩) de_K_count_103
      · exact absurd c_1201 (by simp [hi])
set_option maxHeartbeats 4000000 in
set_option maxRecDepth 100000 in
theorem c_K_count2 (l : Launch) (G : dk_G) (w : dk_H) (h : Nat) (D : kp_D) (σ : kp_S) (hkp : kp_at G w h D σ) (k : Int32) : dk_Mi l my_K_count (wd_c my_K_count mb_K_count 3 (some .int)) rm_K_count G w [.ref h, .int (nI 2), .int k] (fun r w1 => r = nI σ.tb.length ∧ w1 = w) 0 0 := by
  refine dk_enter (lv := [(0, .ref h), (1, .int (nI 2)), (2, .int k)]) (by decide) (Nat.le_of_ble_eq_true rfl) rfl (fun p e s m args below meth c ls Q hQ C hP hS hl => ?_)
  obtain ⟨hx, hb, hr, hml, hlocks, hown, hnm, hts, hE⟩ := C
  have hK := hE.1
  have hN := hE.2.1
  have hh_1209 : w h = some (1, .inr (cx_K, [.ref D.t, .ref D.a, .ref D.lv, .ref D.sn, .ref D.g, .ref D.k, .ref D.ne, .int (nI σ.sf), .int (bo_i σ.ib), .int (nI σ.sq), .int (nI σ.pr), .int (nI σ.mi)])) := hkp.o
  refine lv_iload_n hx hb de_K_count_0 rfl (lv_at hl 1 rfl) ?_
  refine nx_if_lt (a := 2) (tgt := 22) hx hb (by omega) de_K_count_1 (by decide) ?_
  refine lv_iload_n hx hb de_K_count_4 rfl (lv_at hl 1 rfl) ?_
  refine lv_bipush (v := nI 9) hx hb de_K_count_5 (by decide) ?_
  refine nx_icmp_gt (a := 2) (b := 9) (tgt := 22) hx hb (by omega) (by omega) de_K_count_7 (by decide) (fun c_1211 => ?_) (fun c_1211 => ?_)
  · exact absurd c_1211 (by omega)
  · refine lv_iload_n hx hb de_K_count_10 rfl (lv_at hl 1 rfl) ?_
    refine lv_iconst (v := nI 1) hx hb de_K_count_11 (by decide) ?_
    refine nx_icmp_gt (a := 2) (b := 1) (tgt := 32) hx hb (by omega) (by omega) de_K_count_12 (by decide) (fun c_1212 => ?_) (fun c_1212 => ?_)
    · refine lv_iload_n hx hb de_K_count_32 rfl (lv_at hl 1 rfl) ?_
      refine lv_tableIn (x := nI 2) (off := 71) (tgt := 104) hx hb de_K_count_33 (by decide) (by decide) (by decide) (by decide) ?_
      refine lv_aload_n hx hb de_K_count_104 rfl (lv_at hl 0 rfl) ?_
      refine dk_get (a := h) (v := .ref D.t) (C := kn_K) (T := kt_K) (N := 12) hx hb hts ki_K hown hK hP hh_1209 rfl 0 (by decide) (hts _ wi_103) (fun _ h9 => h9) rfl de_K_count_105 ?_
      obtain ⟨sl_1213, _, hc_1214, -⟩ := id hkp.t
      refine dk_calli (va_runV (As := []) (rest := []) ⟨hx, hb, hml, hown, hts⟩ (c_R_size l G w D.t 2 3 40 σ.tb hkp.t) (cwV 0 hts (wd_gV (C := "RunKeeper$Row") wi_147 wi_144 wi_145 wi_146 wi_2) rfl rfl rfl (by decide +kernel) ⟨Nat.le_of_ble_eq_true rfl, Nat.le_of_ble_eq_true rfl⟩) (dk_preV (kn_R, kt_R, 2) hE hP hS hc_1214 rfl) rfl rfl hl.1 rfl (lv_room (Nat.le_of_ble_eq_true rfl)) de_K_count_108 ⟨(by first | exact Nat.le_of_ble_eq_true rfl | (simp only [Nat.zero_add]; omega) | omega), (by first | exact Nat.le_of_ble_eq_true rfl | (simp only [Nat.zero_add]; omega) | omega)⟩) hS (fun r_1217 w_1215 H locs hq_1216 hP hS => ?_)
      obtain ⟨hr_1218, he_1219⟩ := hq_1216
      subst hr_1218
      rw [he_1219] at hP
      exact dk_iret hQ hx hb hr hlocks hP hS (Nat.le_refl _) (Nat.le_refl _) (⟨rfl, rfl⟩) de_K_count_111
    · exact absurd c_1212 (by omega)
set_option maxHeartbeats 4000000 in
set_option maxRecDepth 100000 in
theorem c_K_count3 (l : Launch) (G : dk_G) (w : dk_H) (h : Nat) (D : kp_D) (σ : kp_S) (hkp : kp_at G w h D σ) (k : Int32) : dk_Mi l my_K_count (wd_c my_K_count mb_K_count 3 (some .int)) rm_K_count G w [.ref h, .int (nI 3), .int k] (fun r w1 => r = nI σ.sf ∧ w1 = w) 0 0 := by
  refine dk_enter (lv := [(0, .ref h), (1, .int (nI 3)), (2, .int k)]) (by decide) (Nat.le_of_ble_eq_true rfl) rfl (fun p e s m args below meth c ls Q hQ C hP hS hl => ?_)
  obtain ⟨hx, hb, hr, hml, hlocks, hown, hnm, hts, hE⟩ := C
  have hK := hE.1
  have hN := hE.2.1
  have hh_1220 : w h = some (1, .inr (cx_K, [.ref D.t, .ref D.a, .ref D.lv, .ref D.sn, .ref D.g, .ref D.k, .ref D.ne, .int (nI σ.sf), .int (bo_i σ.ib), .int (nI σ.sq), .int (nI σ.pr), .int (nI σ.mi)])) := hkp.o
  refine lv_iload_n hx hb de_K_count_0 rfl (lv_at hl 1 rfl) ?_
  refine nx_if_lt (a := 3) (tgt := 22) hx hb (by omega) de_K_count_1 (by decide) ?_
  refine lv_iload_n hx hb de_K_count_4 rfl (lv_at hl 1 rfl) ?_
  refine lv_bipush (v := nI 9) hx hb de_K_count_5 (by decide) ?_
  refine nx_icmp_gt (a := 3) (b := 9) (tgt := 22) hx hb (by omega) (by omega) de_K_count_7 (by decide) (fun c_1222 => ?_) (fun c_1222 => ?_)
  · exact absurd c_1222 (by omega)
  · refine lv_iload_n hx hb de_K_count_10 rfl (lv_at hl 1 rfl) ?_
    refine lv_iconst (v := nI 1) hx hb de_K_count_11 (by decide) ?_
    refine nx_icmp_gt (a := 3) (b := 1) (tgt := 32) hx hb (by omega) (by omega) de_K_count_12 (by decide) (fun c_1223 => ?_) (fun c_1223 => ?_)
    · refine lv_iload_n hx hb de_K_count_32 rfl (lv_at hl 1 rfl) ?_
      refine lv_tableIn (x := nI 3) (off := 79) (tgt := 112) hx hb de_K_count_33 (by decide) (by decide) (by decide) (by decide) ?_
      refine lv_aload_n hx hb de_K_count_112 rfl (lv_at hl 0 rfl) ?_
      refine dk_get (a := h) (v := .int (nI σ.sf)) (C := kn_K) (T := kt_K) (N := 12) hx hb hts ki_K hown hK hP hh_1220 rfl 7 (by decide) (hts _ wi_110) (fun _ h9 => h9) rfl de_K_count_113 ?_
      exact dk_iret hQ hx hb hr hlocks hP hS (Nat.le_refl _) (Nat.le_refl _) (⟨rfl, rfl⟩) de_K_count_116
    · exact absurd c_1223 (by omega)
set_option maxHeartbeats 4000000 in
set_option maxRecDepth 100000 in
theorem c_K_count4 (l : Launch) (G : dk_G) (w : dk_H) (h : Nat) (D : kp_D) (σ : kp_S) (hkp : kp_at G w h D σ) (k : Int32) : dk_Mi l my_K_count (wd_c my_K_count mb_K_count 3 (some .int)) rm_K_count G w [.ref h, .int (nI 4), .int k] (fun r w1 => r = nI σ.sq ∧ w1 = w) 0 0 := by
  refine dk_enter (lv := [(0, .ref h), (1, .int (nI 4)), (2, .int k)]) (by decide) (Nat.le_of_ble_eq_true rfl) rfl (fun p e s m args below meth c ls Q hQ C hP hS hl => ?_)
  obtain ⟨hx, hb, hr, hml, hlocks, hown, hnm, hts, hE⟩ := C
  have hK := hE.1
  have hN := hE.2.1
  have hh_1224 : w h = some (1, .inr (cx_K, [.ref D.t, .ref D.a, .ref D.lv, .ref D.sn, .ref D.g, .ref D.k, .ref D.ne, .int (nI σ.sf), .int (bo_i σ.ib), .int (nI σ.sq), .int (nI σ.pr), .int (nI σ.mi)])) := hkp.o
  refine lv_iload_n hx hb de_K_count_0 rfl (lv_at hl 1 rfl) ?_
  refine nx_if_lt (a := 4) (tgt := 22) hx hb (by omega) de_K_count_1 (by decide) ?_
  refine lv_iload_n hx hb de_K_count_4 rfl (lv_at hl 1 rfl) ?_
  refine lv_bipush (v := nI 9) hx hb de_K_count_5 (by decide) ?_
  refine nx_icmp_gt (a := 4) (b := 9) (tgt := 22) hx hb (by omega) (by omega) de_K_count_7 (by decide) (fun c_1226 => ?_) (fun c_1226 => ?_)
  · exact absurd c_1226 (by omega)
  · refine lv_iload_n hx hb de_K_count_10 rfl (lv_at hl 1 rfl) ?_
    refine lv_iconst (v := nI 1) hx hb de_K_count_11 (by decide) ?_
    refine nx_icmp_gt (a := 4) (b := 1) (tgt := 32) hx hb (by omega) (by omega) de_K_count_12 (by decide) (fun c_1227 => ?_) (fun c_1227 => ?_)
    · refine lv_iload_n hx hb de_K_count_32 rfl (lv_at hl 1 rfl) ?_
      refine lv_tableIn (x := nI 4) (off := 84) (tgt := 117) hx hb de_K_count_33 (by decide) (by decide) (by decide) (by decide) ?_
      refine lv_aload_n hx hb de_K_count_117 rfl (lv_at hl 0 rfl) ?_
      refine dk_get (a := h) (v := .int (nI σ.sq)) (C := kn_K) (T := kt_K) (N := 12) hx hb hts ki_K hown hK hP hh_1224 rfl 9 (by decide) (hts _ wi_112) (fun _ h9 => h9) rfl de_K_count_118 ?_
      exact dk_iret hQ hx hb hr hlocks hP hS (Nat.le_refl _) (Nat.le_refl _) (⟨rfl, rfl⟩) de_K_count_121
    · exact absurd c_1227 (by omega)
set_option maxHeartbeats 4000000 in
set_option maxRecDepth 100000 in
theorem c_K_count5 (l : Launch) (G : dk_G) (w : dk_H) (h : Nat) (D : kp_D) (σ : kp_S) (hkp : kp_at G w h D σ) (k : Int32) : dk_Mi l my_K_count (wd_c my_K_count mb_K_count 3 (some .int)) rm_K_count G w [.ref h, .int (nI 5), .int k] (fun r w1 => r = nI σ.pr ∧ w1 = w) 0 0 := by
  refine dk_enter (lv := [(0, .ref h), (1, .int (nI 5)), (2, .int k)]) (by decide) (Nat.le_of_ble_eq_true rfl) rfl (fun p e s m args below meth c ls Q hQ C hP hS hl => ?_)
  obtain ⟨hx, hb, hr, hml, hlocks, hown, hnm, hts, hE⟩ := C
  have hK := hE.1
  have hN := hE.2.1
  have hh_1228 : w h = some (1, .inr (cx_K, [.ref D.t, .ref D.a, .ref D.lv, .ref D.sn, .ref D.g, .ref D.k, .ref D.ne, .int (nI σ.sf), .int (bo_i σ.ib), .int (nI σ.sq), .int (nI σ.pr), .int (nI σ.mi)])) := hkp.o
  refine lv_iload_n hx hb de_K_count_0 rfl (lv_at hl 1 rfl) ?_
  refine nx_if_lt (a := 5) (tgt := 22) hx hb (by omega) de_K_count_1 (by decide) ?_
  refine lv_iload_n hx hb de_K_count_4 rfl (lv_at hl 1 rfl) ?_
  refine lv_bipush (v := nI 9) hx hb de_K_count_5 (by decide) ?_
  refine nx_icmp_gt (a := 5) (b := 9) (tgt := 22) hx hb (by omega) (by omega) de_K_count_7 (by decide) (fun c_1230 => ?_) (fun c_1230 => ?_)
  · exact absurd c_1230 (by omega)
  · refine lv_iload_n hx hb de_K_count_10 rfl (lv_at hl 1 rfl) ?_
    refine lv_iconst (v := nI 1) hx hb de_K_count_11 (by decide) ?_
    refine nx_icmp_gt (a := 5) (b := 1) (tgt := 32) hx hb (by omega) (by omega) de_K_count_12 (by decide) (fun c_1231 => ?_) (fun c_1231 => ?_)
    · refine lv_iload_n hx hb de_K_count_32 rfl (lv_at hl 1 rfl) ?_
      refine lv_tableIn (x := nI 5) (off := 89) (tgt := 122) hx hb de_K_count_33 (by decide) (by decide) (by decide) (by decide) ?_
      refine lv_aload_n hx hb de_K_count_122 rfl (lv_at hl 0 rfl) ?_
      refine dk_get (a := h) (v := .int (nI σ.pr)) (C := kn_K) (T := kt_K) (N := 12) hx hb hts ki_K hown hK hP hh_1228 rfl 10 (by decide) (hts _ wi_113) (fun _ h9 => h9) rfl de_K_count_123 ?_
      exact dk_iret hQ hx hb hr hlocks hP hS (Nat.le_refl _) (Nat.le_refl _) (⟨rfl, rfl⟩) de_K_count_126
    · exact absurd c_1231 (by omega)
set_option maxHeartbeats 4000000 in
set_option maxRecDepth 100000 in
theorem c_K_count6 (l : Launch) (G : dk_G) (w : dk_H) (h : Nat) (D : kp_D) (σ : kp_S) (hkp : kp_at G w h D σ) (k : Int32) : dk_Mi l my_K_count (wd_c my_K_count mb_K_count 3 (some .int)) rm_K_count G w [.ref h, .int (nI 6), .int k] (fun r w1 => r = nI σ.mi ∧ w1 = w) 0 0 := by
  refine dk_enter (lv := [(0, .ref h), (1, .int (nI 6)), (2, .int k)]) (by decide) (Nat.le_of_ble_eq_true rfl) rfl (fun p e s m args below meth c ls Q hQ C hP hS hl => ?_)
  obtain ⟨hx, hb, hr, hml, hlocks, hown, hnm, hts, hE⟩ := C
  have hK := hE.1
  have hN := hE.2.1
  have hh_1232 : w h = some (1, .inr (cx_K, [.ref D.t, .ref D.a, .ref D.lv, .ref D.sn, .ref D.g, .ref D.k, .ref D.ne, .int (nI σ.sf), .int (bo_i σ.ib), .int (nI σ.sq), .int (nI σ.pr), .int (nI σ.mi)])) := hkp.o
  refine lv_iload_n hx hb de_K_count_0 rfl (lv_at hl 1 rfl) ?_
  refine nx_if_lt (a := 6) (tgt := 22) hx hb (by omega) de_K_count_1 (by decide) ?_
  refine lv_iload_n hx hb de_K_count_4 rfl (lv_at hl 1 rfl) ?_
  refine lv_bipush (v := nI 9) hx hb de_K_count_5 (by decide) ?_
  refine nx_icmp_gt (a := 6) (b := 9) (tgt := 22) hx hb (by omega) (by omega) de_K_count_7 (by decide) (fun c_1234 => ?_) (fun c_1234 => ?_)
  · exact absurd c_1234 (by omega)
  · refine lv_iload_n hx hb de_K_count_10 rfl (lv_at hl 1 rfl) ?_
    refine lv_iconst (v := nI 1) hx hb de_K_count_11 (by decide) ?_
    refine nx_icmp_gt (a := 6) (b := 1) (tgt := 32) hx hb (by omega) (by omega) de_K_count_12 (by decide) (fun c_1235 => ?_) (fun c_1235 => ?_)
    · refine lv_iload_n hx hb de_K_count_32 rfl (lv_at hl 1 rfl) ?_
      refine lv_tableIn (x := nI 6) (off := 94) (tgt := 127) hx hb de_K_count_33 (by decide) (by decide) (by decide) (by decide) ?_
      refine lv_aload_n hx hb de_K_count_127 rfl (lv_at hl 0 rfl) ?_
      refine dk_get (a := h) (v := .int (nI σ.mi)) (C := kn_K) (T := kt_K) (N := 12) hx hb hts ki_K hown hK hP hh_1232 rfl 11 (by decide) (hts _ wi_114) (fun _ h9 => h9) rfl de_K_count_128 ?_
      exact dk_iret hQ hx hb hr hlocks hP hS (Nat.le_refl _) (Nat.le_refl _) (⟨rfl, rfl⟩) de_K_count_131
    · exact absurd c_1235 (by omega)
set_option maxHeartbeats 4000000 in
set_option maxRecDepth 100000 in
theorem c_K_count7 (l : Launch) (G : dk_G) (w : dk_H) (h : Nat) (D : kp_D) (σ : kp_S) (hkp : kp_at G w h D σ) (k : Int32) : dk_Mi l my_K_count (wd_c my_K_count mb_K_count 3 (some .int)) rm_K_count G w [.ref h, .int (nI 7), .int k] (fun r w1 => r = nI (sn_ct σ.sn 6) ∧ w1 = w) 0 0 := by
  refine dk_enter (lv := [(0, .ref h), (1, .int (nI 7)), (2, .int k)]) (by decide) (Nat.le_of_ble_eq_true rfl) rfl (fun p e s m args below meth c ls Q hQ C hP hS hl => ?_)
  obtain ⟨hx, hb, hr, hml, hlocks, hown, hnm, hts, hE⟩ := C
  have hK := hE.1
  have hN := hE.2.1
  have hh_1236 : w h = some (1, .inr (cx_K, [.ref D.t, .ref D.a, .ref D.lv, .ref D.sn, .ref D.g, .ref D.k, .ref D.ne, .int (nI σ.sf), .int (bo_i σ.ib), .int (nI σ.sq), .int (nI σ.pr), .int (nI σ.mi)])) := hkp.o
  refine lv_iload_n hx hb de_K_count_0 rfl (lv_at hl 1 rfl) ?_
  refine nx_if_lt (a := 7) (tgt := 22) hx hb (by omega) de_K_count_1 (by decide) ?_
  refine lv_iload_n hx hb de_K_count_4 rfl (lv_at hl 1 rfl) ?_
  refine lv_bipush (v := nI 9) hx hb de_K_count_5 (by decide) ?_
  refine nx_icmp_gt (a := 7) (b := 9) (tgt := 22) hx hb (by omega) (by omega) de_K_count_7 (by decide) (fun c_1238 => ?_) (fun c_1238 => ?_)
  · exact absurd c_1238 (by omega)
  · refine lv_iload_n hx hb de_K_count_10 rfl (lv_at hl 1 rfl) ?_
    refine lv_iconst (v := nI 1) hx hb de_K_count_11 (by decide) ?_
    refine nx_icmp_gt (a := 7) (b := 1) (tgt := 32) hx hb (by omega) (by omega) de_K_count_12 (by decide) (fun c_1239 => ?_) (fun c_1239 => ?_)
    · refine lv_iload_n hx hb de_K_count_32 rfl (lv_at hl 1 rfl) ?_
      refine lv_tableIn (x := nI 7) (off := 99) (tgt := 132) hx hb de_K_count_33 (by decide) (by decide) (by decide) (by decide) ?_
      refine lv_aload_n hx hb de_K_count_132 rfl (lv_at hl 0 rfl) ?_
      refine dk_get (a := h) (v := .ref D.sn) (C := kn_K) (T := kt_K) (N := 12) hx hb hts ki_K hown hK hP hh_1236 rfl 3 (by decide) (hts _ wi_106) (fun _ h9 => h9) rfl de_K_count_133 ?_
      obtain ⟨a_1240, a_1241, _, _, hc_1242, -⟩ := id hkp.s
      refine dk_calli (va_runV (As := []) (rest := []) ⟨hx, hb, hml, hown, hts⟩ (c_S_taken l G w D.sn σ.sn hkp.s) (cwV 0 hts (wd_gV (C := "RunKeeper$Snapshots") wi_707 wi_704 wi_705 wi_706 wi_3) rfl rfl rfl (by decide +kernel) ⟨Nat.le_of_ble_eq_true rfl, Nat.le_of_ble_eq_true rfl⟩) (dk_preV (kn_S, kt_S, 2) hE hP hS hc_1242 rfl) rfl rfl hl.1 rfl (lv_room (Nat.le_of_ble_eq_true rfl)) de_K_count_136 ⟨(by first | exact Nat.le_of_ble_eq_true rfl | (simp only [Nat.zero_add]; omega) | omega), (by first | exact Nat.le_of_ble_eq_true rfl | (simp only [Nat.zero_add]; omega) | omega)⟩) hS (fun r_1245 w_1243 H locs hq_1244 hP hS => ?_)
      obtain ⟨hr_1246, he_1247⟩ := hq_1244
      subst hr_1246
      rw [he_1247] at hP
      exact dk_iret hQ hx hb hr hlocks hP hS (Nat.le_refl _) (Nat.le_refl _) (⟨rfl, rfl⟩) de_K_count_139
    · exact absurd c_1239 (by omega)
set_option maxHeartbeats 4000000 in
set_option maxRecDepth 100000 in
theorem c_K_count8 (l : Launch) (G : dk_G) (w : dk_H) (h : Nat) (D : kp_D) (σ : kp_S) (hkp : kp_at G w h D σ) (k : Int32) : dk_Mi l my_K_count (wd_c my_K_count mb_K_count 3 (some .int)) rm_K_count G w [.ref h, .int (nI 8), .int k] (fun r w1 => r = (if σ.ib = true then nI σ.ad.length else -1) ∧ w1 = w) 0 0 := by
  refine dk_enter (lv := [(0, .ref h), (1, .int (nI 8)), (2, .int k)]) (by decide) (Nat.le_of_ble_eq_true rfl) rfl (fun p e s m args below meth c ls Q hQ C hP hS hl => ?_)
  obtain ⟨hx, hb, hr, hml, hlocks, hown, hnm, hts, hE⟩ := C
  have hK := hE.1
  have hN := hE.2.1
  have hh_1248 : w h = some (1, .inr (cx_K, [.ref D.t, .ref D.a, .ref D.lv, .ref D.sn, .ref D.g, .ref D.k, .ref D.ne, .int (nI σ.sf), .int (bo_i σ.ib), .int (nI σ.sq), .int (nI σ.pr), .int (nI σ.mi)])) := hkp.o
  refine lv_iload_n hx hb de_K_count_0 rfl (lv_at hl 1 rfl) ?_
  refine nx_if_lt (a := 8) (tgt := 22) hx hb (by omega) de_K_count_1 (by decide) ?_
  refine lv_iload_n hx hb de_K_count_4 rfl (lv_at hl 1 rfl) ?_
  refine lv_bipush (v := nI 9) hx hb de_K_count_5 (by decide) ?_
  refine nx_icmp_gt (a := 8) (b := 9) (tgt := 22) hx hb (by omega) (by omega) de_K_count_7 (by decide) (fun c_1250 => ?_) (fun c_1250 => ?_)
  · exact absurd c_1250 (by omega)
  · refine lv_iload_n hx hb de_K_count_10 rfl (lv_at hl 1 rfl) ?_
    refine lv_iconst (v := nI 1) hx hb de_K_count_11 (by decide) ?_
    refine nx_icmp_gt (a := 8) (b := 1) (tgt := 32) hx hb (by omega) (by omega) de_K_count_12 (by decide) (fun c_1251 => ?_) (fun c_1251 => ?_)
    · refine lv_iload_n hx hb de_K_count_32 rfl (lv_at hl 1 rfl) ?_
      refine lv_tableIn (x := nI 8) (off := 107) (tgt := 140) hx hb de_K_count_33 (by decide) (by decide) (by decide) (by decide) ?_
      refine lv_aload_n hx hb de_K_count_140 rfl (lv_at hl 0 rfl) ?_
      refine dk_get (a := h) (v := .int (bo_i σ.ib)) (C := kn_K) (T := kt_K) (N := 12) hx hb hts ki_K hown hK hP hh_1248 rfl 8 (by decide) (hts _ wi_111) (fun _ h9 => h9) rfl de_K_count_141 ?_
      refine bo_if_eq (b := σ.ib) (tgt := 157) hx hb de_K_count_144 (by decide) (fun c_1252 => ?_) (fun c_1252 => ?_)
      · refine lv_iconst (v := (-1)) hx hb de_K_count_157 (by decide) ?_
        exact dk_iret hQ hx hb hr hlocks hP hS (Nat.le_refl _) (Nat.le_refl _) (⟨(if_neg (by rw [c_1252]; decide)).symm, rfl⟩) de_K_count_158
      · refine lv_aload_n hx hb de_K_count_147 rfl (lv_at hl 0 rfl) ?_
        refine dk_get (a := h) (v := .ref D.a) (C := kn_K) (T := kt_K) (N := 12) hx hb hts ki_K hown hK hP hh_1248 rfl 1 (by decide) (hts _ wi_104) (fun _ h9 => h9) rfl de_K_count_148 ?_
        obtain ⟨sl_1253, _, hc_1254, -⟩ := id hkp.a
        refine dk_calli (va_runV (As := []) (rest := []) ⟨hx, hb, hml, hown, hts⟩ (c_R_size l G w D.a 4 5 16 σ.ad hkp.a) (cwV 0 hts (wd_gV (C := "RunKeeper$Row") wi_147 wi_144 wi_145 wi_146 wi_2) rfl rfl rfl (by decide +kernel) ⟨Nat.le_of_ble_eq_true rfl, Nat.le_of_ble_eq_true rfl⟩) (dk_preV (kn_R, kt_R, 2) hE hP hS hc_1254 rfl) rfl rfl hl.1 rfl (lv_room (Nat.le_of_ble_eq_true rfl)) de_K_count_151 ⟨(by first | exact Nat.le_of_ble_eq_true rfl | (simp only [Nat.zero_add]; omega) | omega), (by first | exact Nat.le_of_ble_eq_true rfl | (simp only [Nat.zero_add]; omega) | omega)⟩) hS (fun r_1257 w_1255 H locs hq_1256 hP hS => ?_)
        obtain ⟨hr_1258, he_1259⟩ := hq_1256
        subst hr_1258
        rw [he_1259] at hP
        refine lv_goto (tgt := 158) hx hb de_K_count_154 (by decide) ?_
        exact dk_iret hQ hx hb hr hlocks hP hS (Nat.le_refl _) (Nat.le_refl _) (⟨(if_pos c_1252).symm, rfl⟩) de_K_count_158
    · exact absurd c_1251 (by omega)
set_option maxHeartbeats 4000000 in
set_option maxRecDepth 100000 in
theorem c_K_count9 (l : Launch) (G : dk_G) (w : dk_H) (h : Nat) (D : kp_D) (σ : kp_S) (hkp : kp_at G w h D σ) (k : Int32) : dk_Mi l my_K_count (wd_c my_K_count mb_K_count 3 (some .int)) rm_K_count G w [.ref h, .int (nI 9), .int k] (fun r w1 => r = nI (kp_n σ) ∧ w1 = w) 0 0 := by
  refine dk_enter (lv := [(0, .ref h), (1, .int (nI 9)), (2, .int k)]) (by decide) (Nat.le_of_ble_eq_true rfl) rfl (fun p e s m args below meth c ls Q hQ C hP hS hl => ?_)
  obtain ⟨hx, hb, hr, hml, hlocks, hown, hnm, hts, hE⟩ := C
  have hK := hE.1
  have hN := hE.2.1
  have hh_1260 : w h = some (1, .inr (cx_K, [.ref D.t, .ref D.a, .ref D.lv, .ref D.sn, .ref D.g, .ref D.k, .ref D.ne, .int (nI σ.sf), .int (bo_i σ.ib), .int (nI σ.sq), .int (nI σ.pr), .int (nI σ.mi)])) := hkp.o
  refine lv_iload_n hx hb de_K_count_0 rfl (lv_at hl 1 rfl) ?_
  refine nx_if_lt (a := 9) (tgt := 22) hx hb (by omega) de_K_count_1 (by decide) ?_
  refine lv_iload_n hx hb de_K_count_4 rfl (lv_at hl 1 rfl) ?_
  refine lv_bipush (v := nI 9) hx hb de_K_count_5 (by decide) ?_
  refine nx_icmp_gt (a := 9) (b := 9) (tgt := 22) hx hb (by omega) (by omega) de_K_count_7 (by decide) (fun c_1262 => ?_) (fun c_1262 => ?_)
  · exact absurd c_1262 (by omega)
  · refine lv_iload_n hx hb de_K_count_10 rfl (lv_at hl 1 rfl) ?_
    refine lv_iconst (v := nI 1) hx hb de_K_count_11 (by decide) ?_
    refine nx_icmp_gt (a := 9) (b := 1) (tgt := 32) hx hb (by omega) (by omega) de_K_count_12 (by decide) (fun c_1263 => ?_) (fun c_1263 => ?_)
    · refine lv_iload_n hx hb de_K_count_32 rfl (lv_at hl 1 rfl) ?_
      refine lv_tableOut (x := nI 9) (tgt := 159) hx hb de_K_count_33 (by decide) (by decide) ?_
      refine lv_aload_n hx hb de_K_count_159 rfl (lv_at hl 0 rfl) ?_
      refine dk_calli (va_runV (As := []) (rest := []) ⟨hx, hb, hml, hown, hts⟩ (c_K_entriesInAll l G w h D σ hkp) (cwV 0 hts (wd_gV (C := "RunKeeper") wi_418 wi_415 wi_417 (wd_p (q := (⟨"RunKeeper", "entriesInAll", "()I"⟩, 12)) (by decide +kernel) (by decide +kernel)) wi_1) rfl rfl rfl (by decide +kernel) ⟨Nat.le_of_ble_eq_true rfl, Nat.le_of_ble_eq_true rfl⟩) (dk_preV (kn_K, kt_K, 12) hE hP hS hh_1260 rfl) rfl rfl hl.1 rfl (lv_room (Nat.le_of_ble_eq_true rfl)) de_K_count_160 ⟨(by first | exact Nat.le_of_ble_eq_true rfl | (simp only [Nat.zero_add]; omega) | omega), (by first | exact Nat.le_of_ble_eq_true rfl | (simp only [Nat.zero_add]; omega) | omega)⟩) hS (fun r_1266 w_1264 H locs hq_1265 hP hS => ?_)
      obtain ⟨hr_1267, he_1268⟩ := hq_1265
      subst hr_1267
      rw [he_1268] at hP
      exact dk_iret hQ hx hb hr hlocks hP hS (Nat.le_refl _) (Nat.le_refl _) (⟨rfl, rfl⟩) de_K_count_163
    · exact absurd c_1263 (by omega)
abbrev rm_K_merge (c : Nat) : Room := { frames := 10, cells := (5 * c), slots := (1579 * c), locals := 236 }
set_option maxHeartbeats 4000000 in
set_option maxRecDepth 100000 in
theorem c_K_merge (l : Launch) (G : dk_G) (w : dk_H) (h : Nat) (D : kp_D) (σ : kp_S) (hkp : kp_at G w h D σ) (n : Nat) (hn : n ≤ 100) (hc6 : kp_n σ ≤ 600) : dk_Mi l my_K_merge (wd_c my_K_merge mb_K_merge 3 (some .int)) (rm_K_merge (mg_n n σ).1) G w [.ref h, .int (nI n)] (fun r w1 => r = nI (mg_n n σ).1 ∧ kp_at G w1 h D (mg_n n σ).2 ∧ dk_fr kp_T w w1) (5 * (mg_n n σ).1) (1579 * (mg_n n σ).1) := by
  refine dk_enter (lv := [(0, .ref h), (1, .int (nI n))]) (by decide) (Nat.le_of_ble_eq_true rfl) rfl (fun p e s m args below meth c ls Q hQ C hP hS hl => ?_)
  obtain ⟨hx, hb, hr, hml, hlocks, hown, hnm, hts, hE⟩ := C
  have hK := hE.1
  have hN := hE.2.1
  have hh_1269 : w h = some (1, .inr (cx_K, [.ref D.t, .ref D.a, .ref D.lv, .ref D.sn, .ref D.g, .ref D.k, .ref D.ne, .int (nI σ.sf), .int (bo_i σ.ib), .int (nI σ.sq), .int (nI σ.pr), .int (nI σ.mi)])) := hkp.o
  refine lv_iload_n hx hb de_K_merge_0 rfl (lv_at hl 1 rfl) ?_
  refine nx_if_lt (a := n) (tgt := 10) hx hb (by omega) de_K_merge_1 (by decide) ?_
  refine lv_iload_n hx hb de_K_merge_4 rfl (lv_at hl 1 rfl) ?_
  refine lv_bipush (v := nI 100) hx hb de_K_merge_5 (by decide) ?_
  refine nx_icmp_le (a := n) (b := 100) (tgt := 20) hx hb (by omega) (by omega) de_K_merge_7 (by decide) (fun c_1271 => ?_) (fun c_1271 => ?_)
  · refine lv_iconst (v := nI 0) hx hb de_K_merge_20 (by decide) ?_
    refine lv_istore_n (lv' := [(2, .int (nI 0)), (0, .ref h), (1, .int (nI n))]) hx hb de_K_merge_21 rfl hl (by decide) rfl (fun ls hl => ?_)
    have lp : ∀ (zk : Nat) (i : Nat) (τ : kp_S), n - i < zk → (i ≤ n) → ((mg_n n σ).1 = i + (mg_n (n - i) τ).1) → ((mg_n n σ).2 = (mg_n (n - i) τ).2) → (kp_n τ ≤ 600) → ∀ (H : Heap) (locs : List Loc) (v : dk_H), (kp_at G v h D τ) → (dk_fr kp_T w v) → dk_P G v H → dk_S G s.heap H locs → ∀ (ls : Array Slot), lv_has ls 3 [(0, .ref h), (1, .int (nI n)), (2, .int (nI i))] → W p l e (rm_K_merge (mg_n n σ).1) s m args below meth c H locs (5 * i) (1579 * i) Q (F0 m 22 ls []) := by
      intro zk
      induction zk with
      | zero =>
        intro i τ hk
        exact absurd hk (by omega)
      | succ zk ih =>
        intro i τ hk hi hr1 hr2 hc7
        intro H locs v hkv hg hP hS
        intro ls hl
        have hh_1272 : v h = some (1, .inr (cx_K, [.ref D.t, .ref D.a, .ref D.lv, .ref D.sn, .ref D.g, .ref D.k, .ref D.ne, .int (nI τ.sf), .int (bo_i τ.ib), .int (nI τ.sq), .int (nI τ.pr), .int (nI τ.mi)])) := hkv.o
        refine lv_iload_n hx hb de_K_merge_22 rfl (lv_at hl 2 rfl) ?_
        refine lv_iload_n hx hb de_K_merge_23 rfl (lv_at hl 1 rfl) ?_
        refine nx_icmp_ge (a := i) (b := n) (tgt := 40) hx hb (by omega) (by omega) de_K_merge_24 (by decide) (fun c_1273 => ?_) (fun c_1273 => ?_)
        · have e9 : n - i = 0 := by omega
          have e8 : mg_n (n - i) τ = (0, τ) := by rw [e9]; rfl
          refine lv_iload_n hx hb de_K_merge_40 rfl (lv_at hl 2 rfl) ?_
          exact dk_iret hQ hx hb hr hlocks hP hS (by rw [hr1, e8]; exact Nat.le_refl _) (by rw [hr1, e8]; exact Nat.le_refl _) (⟨by rw [hr1, e8]; rfl, by rw [hr2, e8]; exact hkv, hg⟩) de_K_merge_41
        · obtain ⟨d9, hd9⟩ : ∃ d, n - i = d + 1 := ⟨n - i - 1, by omega⟩
          refine lv_aload_n hx hb de_K_merge_27 rfl (lv_at hl 0 rfl) ?_
          rcases ho : mg_1 τ with _ | τ1
          · have e8 : mg_n (n - i) τ = (0, τ) := by rw [hd9, mg_n, ho]
            refine dk_calli (va_runV (As := []) (rest := []) ⟨hx, hb, hml, hown, hts⟩ (c_K_mergeOnce0 l G v h D τ hkv ho) (cwV 0 hts (wd_gV (C := "RunKeeper") wi_528 wi_525 wi_527 (wd_p (q := (⟨"RunKeeper", "mergeOnce", "()Z"⟩, 12)) (by decide +kernel) (by decide +kernel)) wi_1) rfl rfl rfl (by decide +kernel) ⟨Nat.le_of_ble_eq_true rfl, Nat.le_of_ble_eq_true rfl⟩) (dk_preV (kn_K, kt_K, 12) hE hP hS hh_1272 rfl) rfl rfl hl.1 rfl (lv_room (Nat.le_of_ble_eq_true rfl)) de_K_merge_28 ⟨(by first | exact Nat.le_of_ble_eq_true rfl | (simp only [Nat.zero_add]; omega) | omega), (by first | exact Nat.le_of_ble_eq_true rfl | (simp only [Nat.zero_add]; omega) | omega)⟩) hS (fun r_1276 w_1274 H locs hq_1275 hP hS => ?_)
            obtain ⟨hr_1277, he_1278⟩ := hq_1275
            subst hr_1277
            rw [he_1278] at hP
            refine bo_if_eq (b := false) (tgt := 40) hx hb de_K_merge_31 (by decide) (fun c_1279 => ?_) (fun c_1279 => ?_)
            · refine lv_iload_n hx hb de_K_merge_40 rfl (lv_at hl 2 rfl) ?_
              exact dk_iret hQ hx hb hr hlocks hP hS (by rw [hr1, e8]; exact Nat.le_refl _) (by rw [hr1, e8]; exact Nat.le_refl _) (⟨by rw [hr1, e8]; rfl, by rw [hr2, e8]; exact hkv, hg⟩) de_K_merge_41
            · exact absurd c_1279 (by decide)
          · have e8 : mg_n (n - i) τ = ((mg_n (n - (i + 1)) τ1).1 + 1, (mg_n (n - (i + 1)) τ1).2) := by rw [hd9, show n - (i + 1) = d9 by omega, mg_n, ho]
            rw [e8] at hr1 hr2
            replace hr1 : (mg_n n σ).1 = i + ((mg_n (n - (i + 1)) τ1).1 + 1) := hr1
            refine dk_calli (va_runV (As := []) (rest := []) ⟨hx, hb, hml, hown, hts⟩ (c_K_mergeOnce1 l G v h D τ hkv hc7 τ1 ho) (cwV 0 hts (wd_gV (C := "RunKeeper") wi_528 wi_525 wi_527 (wd_p (q := (⟨"RunKeeper", "mergeOnce", "()Z"⟩, 12)) (by decide +kernel) (by decide +kernel)) wi_1) rfl rfl rfl (by decide +kernel) ⟨Nat.le_of_ble_eq_true rfl, Nat.le_of_ble_eq_true rfl⟩) (dk_preV (kn_K, kt_K, 12) hE hP hS hh_1272 rfl) rfl rfl hl.1 rfl (lv_room (Nat.le_of_ble_eq_true rfl)) de_K_merge_28 ⟨(by first | exact Nat.le_of_ble_eq_true rfl | (simp only [Nat.zero_add]; omega) | omega), (by first | exact Nat.le_of_ble_eq_true rfl | (simp only [Nat.zero_add]; omega) | omega)⟩) hS (fun r_1282 w_1280 H locs hq_1281 hP hS => ?_)
            obtain ⟨hr9, hq2, hq3⟩ := hq_1281
            subst hr9
            refine bo_if_eq (b := true) (tgt := 40) hx hb de_K_merge_31 (by decide) (fun c_1283 => ?_) (fun c_1283 => ?_)
            · exact absurd c_1283 (by decide)
            · refine lv_iinc (v := nI (i + 1)) (lv' := [(2, .int (nI (i + 1))), (0, .ref h), (1, .int (nI n))]) hx hb de_K_merge_34 hl (k := 2) rfl (nx_inc i) (by decide) rfl (fun ls hl => ?_)
              refine lv_goto (tgt := 22) hx hb de_K_merge_37 (by decide) ?_
              exact W.widen (by omega) (by omega) (ih (i + 1) τ1 (by omega) (by omega) (by omega) hr2 (Nat.le_trans (mg_1n ho) hc7) _ _ _ hq2 (hg.tr hq3) hP hS _ (lv_sub hl [1, 2, 0] rfl))
    exact W.widen (by omega) (by omega) (lp (n + 1) 0 σ (by omega) (Nat.zero_le _) (by rw [Nat.zero_add]; rfl) rfl hc6 _ _ _ hkp dk_fr.rf hP hS _ (lv_sub hl [1, 2, 0] rfl))
  · exact absurd c_1271 (by omega)
