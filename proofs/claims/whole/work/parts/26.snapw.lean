/-! RunKeeper$Snapshots, walked (printed by gen/c_snap.py) -/
abbrev rm_S_init : Room := { frames := 1, cells := 2, slots := 12, locals := 20 }
set_option maxHeartbeats 4000000 in
set_option maxRecDepth 100000 in
theorem c_S_init (l : Launch) (G : dk_G) (w : dk_H) (h : Nat) (hh : w h = some (13, .inr (cx_S, [.null, .null]))) : dk_Mv l my_S_init (wd_c my_S_init mb_S_init 1 none) rm_S_init G w [.ref h] (fun w1 => sn_at G w1 h (fun _ => none) ∧ dk_fr sn_T w w1) 2 12 := by
  refine dk_enter (lv := [(0, .ref h)]) (by decide) (Nat.le_of_ble_eq_true rfl) rfl (fun p e s m args below meth c ls Q hQ C hP hS hl => ?_)
  obtain ⟨hx, hb, hr, hml, hlocks, hown, hnm, hts, hE⟩ := C
  have hK := hE.1
  have hN := hE.2.1
  refine lv_aload_n hx hb de_S_init_0 rfl (lv_at hl 0 rfl) ?_
  refine W.objInit hx hb hown (hts _ wi_54) (hts _ wi_30) (hts _ wi_31) rfl (by rw [hml]; exact hl.1) rfl de_S_init_1 (Nat.le_of_ble_eq_true rfl) (Nat.le_of_ble_eq_true rfl) ?_
  refine W.eq (g2 := F0 m 4 ls []) rfl ?_
  refine lv_aload_n hx hb de_S_init_4 rfl (lv_at hl 0 rfl) ?_
  refine lv_bipush (v := nI 6) hx hb de_S_init_5 (by decide) ?_
  refine dk_newa 14 0 (atype := .int) (ty := .int) (a0 := (6, .inl (fun _ => 0))) (N' := 6) hx hb (hts _ wi_62) rfl hK hP hS hE.2.2.2 rfl (fun U cA h => h) (fun cA => rfl) rfl (by omega) (by first | decide | (simp [componentBytes]; done) | (simp [componentBytes]; omega)) (by first | exact Nat.le_of_ble_eq_true rfl | (simp only [Nat.zero_add]; omega) | omega) (by first | exact Nat.le_of_ble_eq_true rfl | (simp only [Nat.zero_add]; omega) | omega) de_S_init_7 (fun q_107 H w_108 hn_110 hw_109 hP hS => ?_)
  have h_111 : w_108 q_107 = some (14, dk_ci G 6 (fun _ => 0)) := dk_here hw_109
  have h_112 : w_108 h = some (13, .inr (cx_S, [.null, .null])) := dk_keepN hw_109 hn_110 hh
  refine dk_putF (a := h) (v := .ref q_107) (ty := (.array .int)) (C := kn_S) (T := kt_S) (N := 2) hx hb hts ki_S ky_S kk_S kd_S hown hK hP hS h_112 rfl 0 (by decide) (hts _ wi_55) (fun _ h9 => h9) rfl hnm rfl (by decide +kernel) rfl rfl (Nat.le_of_ble_eq_true rfl) de_S_init_9 (fun H locs w_113 hw_114 hP hS => ?_)
  have h_115 : w_113 h = some (13, .inr (cx_S, [.ref q_107, .null])) := dk_here hw_114
  have h_116 : w_113 q_107 = some (14, dk_ci G 6 (fun _ => 0)) := dk_keep hw_114 h_112 h_111 (by decide)
  refine lv_aload_n hx hb de_S_init_12 rfl (lv_at hl 0 rfl) ?_
  refine lv_bipush (v := nI 6) hx hb de_S_init_13 (by decide) ?_
  refine dk_newa 15 2 (atype := .boolean) (ty := .boolean) (a0 := (6, .inl (fun _ => 0))) (N' := 6) hx hb (hts _ wi_63) rfl hK hP hS hE.2.2.2 rfl (fun U cA h => h) (fun cA => rfl) rfl (by omega) (by first | decide | (simp [componentBytes]; done) | (simp [componentBytes]; omega)) (by first | exact Nat.le_of_ble_eq_true rfl | (simp only [Nat.zero_add]; omega) | omega) (by first | exact Nat.le_of_ble_eq_true rfl | (simp only [Nat.zero_add]; omega) | omega) de_S_init_15 (fun q_117 H w_118 hn_120 hw_119 hP hS => ?_)
  have h_121 : w_118 q_117 = some (15, dk_cz G 6 (fun _ => 0)) := dk_here hw_119
  have h_122 : w_118 h = some (13, .inr (cx_S, [.ref q_107, .null])) := dk_keepN hw_119 hn_120 h_115
  have h_123 : w_118 q_107 = some (14, dk_ci G 6 (fun _ => 0)) := dk_keepN hw_119 hn_120 h_116
  refine dk_putF (a := h) (v := .ref q_117) (ty := (.array .boolean)) (C := kn_S) (T := kt_S) (N := 2) hx hb hts ki_S ky_S kk_S kd_S hown hK hP hS h_122 rfl 1 (by decide) (hts _ wi_56) (fun _ h9 => h9) rfl hnm rfl (by decide +kernel) rfl rfl (Nat.le_of_ble_eq_true rfl) de_S_init_17 (fun H locs w_124 hw_125 hP hS => ?_)
  have h_126 : w_124 h = some (13, .inr (cx_S, [.ref q_107, .ref q_117])) := dk_here hw_125
  have h_127 : w_124 q_107 = some (14, dk_ci G 6 (fun _ => 0)) := dk_keep hw_125 h_122 h_123 (by decide)
  have h_128 : w_124 q_117 = some (15, dk_cz G 6 (fun _ => 0)) := dk_keep hw_125 h_122 h_121 (by decide)
  exact dk_vret hQ hx hb hr hlocks hP hS (by omega) (by omega) (⟨⟨q_107, q_117, _, _, h_126, h_127, h_128, fun j _ => ⟨rfl, fun s z => by cases z⟩⟩, ((((dk_fr.rf).tr ((dk_fr.upN hn_110).eq hw_109)).tr ((dk_fr.up (T := sn_T) h_112 (Or.inl rfl)).eq hw_114)).tr ((dk_fr.upN hn_120).eq hw_119)).tr ((dk_fr.up (T := sn_T) h_122 (Or.inl rfl)).eq hw_125)⟩) de_S_init_20
abbrev rm_S_has : Room := { frames := 0, cells := 0, slots := 0, locals := 0 }
set_option maxHeartbeats 4000000 in
set_option maxRecDepth 100000 in
theorem c_S_has (l : Launch) (G : dk_G) (w : dk_H) (h : Nat) (sn : Nat → Option Nat) (hs0 : sn_at G w h sn) (k : Int32) : dk_Mi l my_S_has (wd_c my_S_has mb_S_has 2 (some .boolean)) rm_S_has G w [.ref h, .int k] (fun r w1 => r = bo_i (sn_g sn k).isSome ∧ w1 = w) 0 0 := by
  obtain ⟨a1, a2, fs, fu, hh, h1, h2, hj⟩ := hs0
  refine dk_enter (lv := [(0, .ref h), (1, .int k)]) (by decide) (Nat.le_of_ble_eq_true rfl) rfl (fun p e s m args below meth c ls Q hQ C hP hS hl => ?_)
  obtain ⟨hx, hb, hr, hml, hlocks, hown, hnm, hts, hE⟩ := C
  have hK := hE.1
  have hN := hE.2.1
  refine lv_iload_n hx hb de_S_has_0 rfl (lv_at hl 1 rfl) ?_
  refine lv_if_lt (tgt := 23) hx hb de_S_has_1 (by decide) (fun c_129 => ?_) (fun c_129 => ?_)
  · refine lv_iconst (v := nI 0) hx hb de_S_has_23 (by decide) ?_
    exact dk_zret hQ hx hb hr hlocks hP hS (Nat.le_refl _) (Nat.le_refl _) (by decide +kernel) (⟨by rw [sn_g1 c_129]; rfl, rfl⟩) de_S_has_24
  · obtain ⟨j0, hj0, rfl⟩ := nI_of c_129
    refine lv_iload_n hx hb de_S_has_4 rfl (lv_at hl 1 rfl) ?_
    refine lv_bipush (v := nI 6) hx hb de_S_has_5 (by decide) ?_
    refine nx_icmp_ge (a := j0) (b := 6) (tgt := 23) hx hb (by omega) (by omega) de_S_has_7 (by decide) (fun c_130 => ?_) (fun c_130 => ?_)
    · refine lv_iconst (v := nI 0) hx hb de_S_has_23 (by decide) ?_
      exact dk_zret hQ hx hb hr hlocks hP hS (Nat.le_refl _) (Nat.le_refl _) (by decide +kernel) (⟨by rw [sn_g2 c_130 hj0]; rfl, rfl⟩) de_S_has_24
    · refine lv_aload_n hx hb de_S_has_10 rfl (lv_at hl 0 rfl) ?_
      refine dk_get (a := h) (v := .ref a2) (C := kn_S) (T := kt_S) (N := 2) hx hb hts ki_S hown hK hP hh rfl 1 (by decide) (hts _ wi_56) (fun _ h9 => h9) rfl de_S_has_11 ?_
      refine lv_iload_n hx hb de_S_has_14 rfl (lv_at hl 1 rfl) ?_
      refine dk_zald (a := a2) hx hb hK hP h2 j0 rfl (by omega) (by omega) de_S_has_15 ?_
      rw [(hj j0 c_130).1]
      refine bo_if_eq (b := (sn j0).isSome) (tgt := 23) hx hb de_S_has_16 (by decide) (fun c_131 => ?_) (fun c_131 => ?_)
      · refine lv_iconst (v := nI 0) hx hb de_S_has_23 (by decide) ?_
        exact dk_zret hQ hx hb hr hlocks hP hS (Nat.le_refl _) (Nat.le_refl _) (by decide +kernel) (⟨by rw [sn_g3 c_130, c_131]; rfl, rfl⟩) de_S_has_24
      · refine lv_iconst (v := nI 1) hx hb de_S_has_19 (by decide) ?_
        refine lv_goto (tgt := 24) hx hb de_S_has_20 (by decide) ?_
        exact dk_zret hQ hx hb hr hlocks hP hS (Nat.le_refl _) (Nat.le_refl _) (by decide +kernel) (⟨by rw [sn_g3 c_130, c_131]; rfl, rfl⟩) de_S_has_24
abbrev rm_S_leastFree : Room := { frames := 0, cells := 0, slots := 0, locals := 0 }
set_option maxHeartbeats 4000000 in
set_option maxRecDepth 100000 in
theorem c_S_leastFree (l : Launch) (G : dk_G) (w : dk_H) (h : Nat) (sn : Nat → Option Nat) (hs0 : sn_at G w h sn) : dk_Mi l my_S_leastFree (wd_c my_S_leastFree mb_S_leastFree 2 (some .int)) rm_S_leastFree G w [.ref h] (fun r w1 => ((∃ j, j < 6 ∧ r = nI j ∧ sn j = none ∧ ∀ i, i < j → (sn i).isSome = true) ∨ (r = -1 ∧ ∀ i, i < 6 → (sn i).isSome = true)) ∧ w1 = w) 0 0 := by
  obtain ⟨a1, a2, fs, fu, hh, h1, h2, hj⟩ := hs0
  refine dk_enter (lv := [(0, .ref h)]) (by decide) (Nat.le_of_ble_eq_true rfl) rfl (fun p e s m args below meth c ls Q hQ C hP hS hl => ?_)
  obtain ⟨hx, hb, hr, hml, hlocks, hown, hnm, hts, hE⟩ := C
  have hK := hE.1
  have hN := hE.2.1
  refine lv_iconst (v := nI 0) hx hb de_S_leastFree_0 (by decide) ?_
  refine lv_istore_n (lv' := [(1, .int (nI 0)), (0, .ref h)]) hx hb de_S_leastFree_1 rfl hl (by decide) rfl (fun ls hl => ?_)
  have lp : ∀ (zk : Nat) (i : Nat), 6 - i < zk → (i ≤ 6) → (∀ j, j < i → (sn j).isSome = true) → ∀ (ls : Array Slot), lv_has ls 2 [(0, .ref h), (1, .int (nI i))] → W p l e rm_S_leastFree s m args below meth c s.heap [] 0 0 Q (F0 m 2 ls []) := by
    intro zk
    induction zk with
    | zero =>
      intro i hk
      exact absurd hk (by omega)
    | succ zk ih =>
      intro i hk hi ha
      intro ls hl
      refine lv_iload_n hx hb de_S_leastFree_2 rfl (lv_at hl 1 rfl) ?_
      refine lv_bipush (v := nI 6) hx hb de_S_leastFree_3 (by decide) ?_
      refine nx_icmp_ge (a := i) (b := 6) (tgt := 25) hx hb (by omega) (by omega) de_S_leastFree_5 (by decide) (fun c_132 => ?_) (fun c_132 => ?_)
      · refine lv_iconst (v := (-1)) hx hb de_S_leastFree_25 (by decide) ?_
        exact dk_iret hQ hx hb hr hlocks hP hS (Nat.le_refl _) (Nat.le_refl _) (⟨Or.inr ⟨rfl, fun i9 h9 => ha i9 (by omega)⟩, rfl⟩) de_S_leastFree_26
      · refine lv_aload_n hx hb de_S_leastFree_8 rfl (lv_at hl 0 rfl) ?_
        refine dk_get (a := h) (v := .ref a2) (C := kn_S) (T := kt_S) (N := 2) hx hb hts ki_S hown hK hP hh rfl 1 (by decide) (hts _ wi_56) (fun _ h9 => h9) rfl de_S_leastFree_9 ?_
        refine lv_iload_n hx hb de_S_leastFree_12 rfl (lv_at hl 1 rfl) ?_
        refine dk_zald (a := a2) hx hb hK hP h2 i rfl (by omega) (by omega) de_S_leastFree_13 ?_
        rw [(hj i c_132).1]
        refine bo_if_ne (b := (sn i).isSome) (tgt := 19) hx hb de_S_leastFree_14 (by decide) (fun c_133 => ?_) (fun c_133 => ?_)
        · refine lv_iinc (v := nI (i + 1)) (lv' := [(1, .int (nI (i + 1))), (0, .ref h)]) hx hb de_S_leastFree_19 hl (k := 1) rfl (nx_inc i) (by decide) rfl (fun ls hl => ?_)
          refine lv_goto (tgt := 2) hx hb de_S_leastFree_22 (by decide) ?_
          exact ih (i + 1) (by omega) (by omega) (fun j9 h9 => by
        rcases Nat.lt_or_ge j9 i with h8 | h8
        · exact ha j9 h8
        · have : j9 = i := by omega
          rw [this]; exact c_133) _ (lv_sub hl [1, 0] rfl)
        · refine lv_iload_n hx hb de_S_leastFree_17 rfl (lv_at hl 1 rfl) ?_
          exact dk_iret hQ hx hb hr hlocks hP hS (Nat.le_refl _) (Nat.le_refl _) (⟨Or.inl ⟨i, c_132, rfl, Option.isSome_eq_false_iff.mp c_133 |> Option.isNone_iff_eq_none.mp, ha⟩, rfl⟩) de_S_leastFree_18
  exact lp 7 0 (by omega) (Nat.zero_le _) (fun j hj => absurd hj (by omega)) _ (lv_sub hl [1, 0] rfl)
abbrev rm_S_keep : Room := { frames := 0, cells := 0, slots := 0, locals := 0 }
set_option maxHeartbeats 4000000 in
set_option maxRecDepth 100000 in
theorem c_S_keep (l : Launch) (G : dk_G) (w : dk_H) (h : Nat) (sn : Nat → Option Nat) (hs0 : sn_at G w h sn) (k u : Nat) (hk0 : k < 6) (hu0 : u < 2 ^ 30) : dk_Mv l my_S_keep (wd_c my_S_keep mb_S_keep 3 none) rm_S_keep G w [.ref h, .int (nI k), .int (nI u)] (fun w1 => sn_at G w1 h (va_up sn k (some u)) ∧ dk_fr sn_T w w1) 0 0 := by
  obtain ⟨a1, a2, fs, fu, hh, h1, h2, hj⟩ := hs0
  refine dk_enter (lv := [(0, .ref h), (1, .int (nI k)), (2, .int (nI u))]) (by decide) (Nat.le_of_ble_eq_true rfl) rfl (fun p e s m args below meth c ls Q hQ C hP hS hl => ?_)
  obtain ⟨hx, hb, hr, hml, hlocks, hown, hnm, hts, hE⟩ := C
  have hK := hE.1
  have hN := hE.2.1
  refine lv_iload_n hx hb de_S_keep_0 rfl (lv_at hl 1 rfl) ?_
  refine nx_if_lt (a := k) (tgt := 24) hx hb (by omega) de_S_keep_1 (by decide) ?_
  refine lv_iload_n hx hb de_S_keep_4 rfl (lv_at hl 1 rfl) ?_
  refine lv_bipush (v := nI 6) hx hb de_S_keep_5 (by decide) ?_
  refine nx_icmp_ge (a := k) (b := 6) (tgt := 24) hx hb (by omega) (by omega) de_S_keep_7 (by decide) (fun c_135 => ?_) (fun c_135 => ?_)
  · exact absurd c_135 (by omega)
  · refine lv_aload_n hx hb de_S_keep_10 rfl (lv_at hl 0 rfl) ?_
    refine dk_get (a := h) (v := .ref a1) (C := kn_S) (T := kt_S) (N := 2) hx hb hts ki_S hown hK hP hh rfl 0 (by decide) (hts _ wi_55) (fun _ h9 => h9) rfl de_S_keep_11 ?_
    refine lv_iload_n hx hb de_S_keep_14 rfl (lv_at hl 1 rfl) ?_
    refine lv_iload_n hx hb de_S_keep_15 rfl (lv_at hl 2 rfl) ?_
    refine dk_iast (a := a1) (x := (nI u)) hx hb hK hP hS h1 k rfl (by omega) (by omega) de_S_keep_16 (fun H locs w_136 hw_137 hP hS => ?_)
    have h_138 : w_136 a1 = some (14, dk_ci G 6 (upd fs k (nI u))) := dk_here hw_137
    have h_139 : w_136 h = some (13, .inr (cx_S, [.ref a1, .ref a2])) := dk_keep hw_137 h1 hh (by decide)
    have h_140 : w_136 a2 = some (15, dk_cz G 6 fu) := dk_keep hw_137 h1 h2 (by decide)
    refine lv_aload_n hx hb de_S_keep_17 rfl (lv_at hl 0 rfl) ?_
    refine dk_get (a := h) (v := .ref a2) (C := kn_S) (T := kt_S) (N := 2) hx hb hts ki_S hown hK hP h_139 rfl 1 (by decide) (hts _ wi_56) (fun _ h9 => h9) rfl de_S_keep_18 ?_
    refine lv_iload_n hx hb de_S_keep_21 rfl (lv_at hl 1 rfl) ?_
    refine lv_iconst (v := nI 1) hx hb de_S_keep_22 (by decide) ?_
    refine dk_zast (a := a2) (x := (nI 1)) hx hb hK hP hS h_140 k rfl (by omega) (by omega) (by decide +kernel) de_S_keep_23 (fun H locs w_141 hw_142 hP hS => ?_)
    have h_143 : w_141 a2 = some (15, dk_cz G 6 (upd fu k (nI 1))) := dk_here hw_142
    have h_144 : w_141 h = some (13, .inr (cx_S, [.ref a1, .ref a2])) := dk_keep hw_142 h_140 h_139 (by decide)
    have h_145 : w_141 a1 = some (14, dk_ci G 6 (upd fs k (nI u))) := dk_keep hw_142 h_140 h_138 (by decide)
    refine dk_vret hQ hx hb hr hlocks hP hS (Nat.le_refl _) (Nat.le_refl _) (⟨⟨a1, a2, _, _, h_144, h_145, h_143, fun j h9 => ?_⟩, ((dk_fr.rf).tr ((dk_fr.up (T := sn_T) h1 (Or.inr (Or.inl rfl))).eq hw_137)).tr ((dk_fr.up (T := sn_T) h_140 (Or.inr (Or.inr rfl))).eq hw_142)⟩) de_S_keep_24
    by_cases e9 : j = k
    · subst e9
      exact ⟨by rw [pk_us, dk_us]; rfl, fun s9 z => by rw [dk_us] at z; cases z; exact ⟨pk_us, hu0⟩⟩
    · exact ⟨by rw [pk_un e9, dk_un e9]; exact (hj j h9).1, fun s9 z => by rw [dk_un e9] at z; rw [pk_un e9]; exact (hj j h9).2 s9 z⟩
abbrev rm_S_forget : Room := { frames := 1, cells := 0, slots := 0, locals := 21 }
set_option maxHeartbeats 4000000 in
set_option maxRecDepth 100000 in
theorem c_S_forget (l : Launch) (G : dk_G) (w : dk_H) (h : Nat) (sn : Nat → Option Nat) (hs0 : sn_at G w h sn) (k : Nat) (hk0 : k < 6) (hk1 : (sn k).isSome = true) : dk_Mv l my_S_forget (wd_c my_S_forget mb_S_forget 2 none) rm_S_forget G w [.ref h, .int (nI k)] (fun w1 => sn_at G w1 h (va_up sn k none) ∧ dk_fr sn_T w w1) 0 0 := by
  have hs1 := hs0
  obtain ⟨a1, a2, fs, fu, hh, h1, h2, hj⟩ := hs0
  refine dk_enter (lv := [(0, .ref h), (1, .int (nI k))]) (by decide) (Nat.le_of_ble_eq_true rfl) rfl (fun p e s m args below meth c ls Q hQ C hP hS hl => ?_)
  obtain ⟨hx, hb, hr, hml, hlocks, hown, hnm, hts, hE⟩ := C
  have hK := hE.1
  have hN := hE.2.1
  refine lv_aload_n hx hb de_S_forget_0 rfl (lv_at hl 0 rfl) ?_
  refine lv_iload_n hx hb de_S_forget_1 rfl (lv_at hl 1 rfl) ?_
  refine dk_calli (va_runV (As := [.int (nI k)]) (rest := []) ⟨hx, hb, hml, hown, hts⟩ (c_S_has l G w h sn hs1 (nI k)) (cwV 1 hts (wd_gV (C := "RunKeeper$Snapshots") wi_595 wi_601 wi_593 wi_594 wi_3) rfl rfl rfl (by decide +kernel) ⟨Nat.le_of_ble_eq_true rfl, Nat.le_of_ble_eq_true rfl⟩) (dk_preV (kn_S, kt_S, 2) hE hP hS hh rfl) rfl rfl hl.1 rfl (lv_room (Nat.le_of_ble_eq_true rfl)) de_S_forget_2 ⟨(by first | exact Nat.le_of_ble_eq_true rfl | (simp only [Nat.zero_add]; omega) | omega), (by first | exact Nat.le_of_ble_eq_true rfl | (simp only [Nat.zero_add]; omega) | omega)⟩) hS (fun r_148 w_146 H locs hq_147 hP hS => ?_)
  rw [sn_g3 hk0, hk1] at hq_147
  obtain ⟨hr_149, he_150⟩ := hq_147
  subst hr_149
  rw [he_150] at hP
  refine bo_if_eq (b := true) (tgt := 15) hx hb de_S_forget_5 (by decide) (fun c_151 => ?_) (fun c_151 => ?_)
  · cases c_151
  · refine lv_aload_n hx hb de_S_forget_8 rfl (lv_at hl 0 rfl) ?_
    refine dk_get (a := h) (v := .ref a2) (C := kn_S) (T := kt_S) (N := 2) hx hb hts ki_S hown hK hP hh rfl 1 (by decide) (hts _ wi_56) (fun _ h9 => h9) rfl de_S_forget_9 ?_
    refine lv_iload_n hx hb de_S_forget_12 rfl (lv_at hl 1 rfl) ?_
    refine lv_iconst (v := nI 0) hx hb de_S_forget_13 (by decide) ?_
    refine dk_zast (a := a2) (x := (nI 0)) hx hb hK hP hS h2 k rfl (by omega) (by omega) (by decide +kernel) de_S_forget_14 (fun H locs w_152 hw_153 hP hS => ?_)
    have h_154 : w_152 a2 = some (15, dk_cz G 6 (upd fu k (nI 0))) := dk_here hw_153
    have h_155 : w_152 h = some (13, .inr (cx_S, [.ref a1, .ref a2])) := dk_keep hw_153 h2 hh (by decide)
    have h_156 : w_152 a1 = some (14, dk_ci G 6 fs) := dk_keep hw_153 h2 h1 (by decide)
    refine dk_vret hQ hx hb hr hlocks hP hS (Nat.le_refl _) (Nat.le_refl _) (⟨⟨a1, a2, _, _, h_155, h_156, h_154, fun j h9 => ?_⟩, (dk_fr.rf).tr ((dk_fr.up (T := sn_T) h2 (Or.inr (Or.inr rfl))).eq hw_153)⟩) de_S_forget_15
    by_cases e9 : j = k
    · subst e9
      exact ⟨by rw [pk_us, dk_us]; rfl, fun s9 z => by rw [dk_us] at z; cases z⟩
    · exact ⟨by rw [pk_un e9, dk_un e9]; exact (hj j h9).1, fun s9 z => by rw [dk_un e9] at z; exact (hj j h9).2 s9 z⟩
abbrev rm_S_forgetAll : Room := { frames := 0, cells := 0, slots := 0, locals := 0 }
set_option maxHeartbeats 4000000 in
set_option maxRecDepth 100000 in
theorem c_S_forgetAll (l : Launch) (G : dk_G) (w : dk_H) (h : Nat) (sn : Nat → Option Nat) (hs0 : sn_at G w h sn) : dk_Mv l my_S_forgetAll (wd_c my_S_forgetAll mb_S_forgetAll 2 none) rm_S_forgetAll G w [.ref h] (fun w1 => sn_at G w1 h (fun _ => none) ∧ dk_fr sn_T w w1) 0 0 := by
  obtain ⟨a1, a2, fs, fu, hh, h1, h2, hj⟩ := hs0
  refine dk_enter (lv := [(0, .ref h)]) (by decide) (Nat.le_of_ble_eq_true rfl) rfl (fun p e s m args below meth c ls Q hQ C hP hS hl => ?_)
  obtain ⟨hx, hb, hr, hml, hlocks, hown, hnm, hts, hE⟩ := C
  have hK := hE.1
  have hN := hE.2.1
  refine lv_iconst (v := nI 0) hx hb de_S_forgetAll_0 (by decide) ?_
  refine lv_istore_n (lv' := [(1, .int (nI 0)), (0, .ref h)]) hx hb de_S_forgetAll_1 rfl hl (by decide) rfl (fun ls hl => ?_)
  have lp : ∀ (zk : Nat) (i : Nat) (g : Nat → Int32), 6 - i < zk → (i ≤ 6) → (∀ j, j < i → g j = 0) → ∀ (H : Heap) (locs : List Loc) (v : dk_H), v h = some (13, .inr (cx_S, [.ref a1, .ref a2])) → v a1 = some (14, dk_ci G 6 fs) → v a2 = some (15, dk_cz G 6 g) → (dk_fr sn_T w v) → dk_P G v H → dk_S G s.heap H locs → ∀ (ls : Array Slot), lv_has ls 2 [(0, .ref h), (1, .int (nI i))] → W p l e rm_S_forgetAll s m args below meth c H locs 0 0 Q (F0 m 2 ls []) := by
    intro zk
    induction zk with
    | zero =>
      intro i g hk
      exact absurd hk (by omega)
    | succ zk ih =>
      intro i g hk hi hg
      intro H locs v hh h1 h2 hfr hP hS
      intro ls hl
      refine lv_iload_n hx hb de_S_forgetAll_2 rfl (lv_at hl 1 rfl) ?_
      refine lv_bipush (v := nI 6) hx hb de_S_forgetAll_3 (by decide) ?_
      refine nx_icmp_ge (a := i) (b := 6) (tgt := 21) hx hb (by omega) (by omega) de_S_forgetAll_5 (by decide) (fun c_157 => ?_) (fun c_157 => ?_)
      · exact dk_vret hQ hx hb hr hlocks hP hS (Nat.le_refl _) (Nat.le_refl _) (⟨⟨a1, a2, fs, g, hh, h1, h2, fun j h9 => ⟨by rw [hg j (by omega)]; rfl, fun s9 z => by cases z⟩⟩, hfr⟩) de_S_forgetAll_21
      · refine lv_aload_n hx hb de_S_forgetAll_8 rfl (lv_at hl 0 rfl) ?_
        refine dk_get (a := h) (v := .ref a2) (C := kn_S) (T := kt_S) (N := 2) hx hb hts ki_S hown hK hP hh rfl 1 (by decide) (hts _ wi_56) (fun _ h9 => h9) rfl de_S_forgetAll_9 ?_
        refine lv_iload_n hx hb de_S_forgetAll_12 rfl (lv_at hl 1 rfl) ?_
        refine lv_iconst (v := nI 0) hx hb de_S_forgetAll_13 (by decide) ?_
        refine dk_zast (a := a2) (x := (nI 0)) hx hb hK hP hS h2 i rfl (by omega) (by omega) (by decide +kernel) de_S_forgetAll_14 (fun H locs w_158 hw_159 hP hS => ?_)
        have h_160 : w_158 a2 = some (15, dk_cz G 6 (upd g i (nI 0))) := dk_here hw_159
        have h_161 : w_158 h = some (13, .inr (cx_S, [.ref a1, .ref a2])) := dk_keep hw_159 h2 hh (by decide)
        have h_162 : w_158 a1 = some (14, dk_ci G 6 fs) := dk_keep hw_159 h2 h1 (by decide)
        refine lv_iinc (v := nI (i + 1)) (lv' := [(1, .int (nI (i + 1))), (0, .ref h)]) hx hb de_S_forgetAll_15 hl (k := 1) rfl (nx_inc i) (by decide) rfl (fun ls hl => ?_)
        refine lv_goto (tgt := 2) hx hb de_S_forgetAll_18 (by decide) ?_
        have hfr3 := hfr.tr ((dk_fr.rf).tr ((dk_fr.up (T := sn_T) h2 (Or.inr (Or.inr rfl))).eq hw_159))
        exact ih (i + 1) (upd g i (nI 0)) (by omega) (by omega) (fun j9 h9 => by
        by_cases e9 : j9 = i
        · subst e9; rw [pk_us]; rfl
        · rw [pk_un e9]; exact hg j9 (by omega)) _ _ _ h_161 h_162 h_160 hfr3 hP hS _ (lv_sub hl [1, 0] rfl)
  exact lp 7 0 fu (by omega) (Nat.zero_le _) (fun j h9 => absurd h9 (by omega)) _ _ _ hh h1 h2 dk_fr.rf hP hS _ (lv_sub hl [1, 0] rfl)
abbrev rm_S_sequenceAt : Room := { frames := 1, cells := 0, slots := 0, locals := 21 }
set_option maxHeartbeats 4000000 in
set_option maxRecDepth 100000 in
theorem c_S_sequenceAt (l : Launch) (G : dk_G) (w : dk_H) (h : Nat) (sn : Nat → Option Nat) (hs0 : sn_at G w h sn) (k : Nat) (u : Nat) (hk0 : k < 6) (hk1 : sn k = some u) : dk_Mi l my_S_sequenceAt (wd_c my_S_sequenceAt mb_S_sequenceAt 2 (some .int)) rm_S_sequenceAt G w [.ref h, .int (nI k)] (fun r w1 => r = nI u ∧ w1 = w) 0 0 := by
  have hs1 := hs0
  obtain ⟨a1, a2, fs, fu, hh, h1, h2, hj⟩ := hs0
  refine dk_enter (lv := [(0, .ref h), (1, .int (nI k))]) (by decide) (Nat.le_of_ble_eq_true rfl) rfl (fun p e s m args below meth c ls Q hQ C hP hS hl => ?_)
  obtain ⟨hx, hb, hr, hml, hlocks, hown, hnm, hts, hE⟩ := C
  have hK := hE.1
  have hN := hE.2.1
  refine lv_aload_n hx hb de_S_sequenceAt_0 rfl (lv_at hl 0 rfl) ?_
  refine lv_iload_n hx hb de_S_sequenceAt_1 rfl (lv_at hl 1 rfl) ?_
  refine dk_calli (va_runV (As := [.int (nI k)]) (rest := []) ⟨hx, hb, hml, hown, hts⟩ (c_S_has l G w h sn hs1 (nI k)) (cwV 1 hts (wd_gV (C := "RunKeeper$Snapshots") wi_595 wi_601 wi_593 wi_594 wi_3) rfl rfl rfl (by decide +kernel) ⟨Nat.le_of_ble_eq_true rfl, Nat.le_of_ble_eq_true rfl⟩) (dk_preV (kn_S, kt_S, 2) hE hP hS hh rfl) rfl rfl hl.1 rfl (lv_room (Nat.le_of_ble_eq_true rfl)) de_S_sequenceAt_2 ⟨(by first | exact Nat.le_of_ble_eq_true rfl | (simp only [Nat.zero_add]; omega) | omega), (by first | exact Nat.le_of_ble_eq_true rfl | (simp only [Nat.zero_add]; omega) | omega)⟩) hS (fun r_165 w_163 H locs hq_164 hP hS => ?_)
  rw [sn_g3 hk0, hk1] at hq_164
  obtain ⟨hr_166, he_167⟩ := hq_164
  subst hr_166
  rw [he_167] at hP
  refine bo_if_eq (b := (some u).isSome) (tgt := 17) hx hb de_S_sequenceAt_5 (by decide) (fun c_168 => ?_) (fun c_168 => ?_)
  · cases c_168
  · refine lv_aload_n hx hb de_S_sequenceAt_8 rfl (lv_at hl 0 rfl) ?_
    refine dk_get (a := h) (v := .ref a1) (C := kn_S) (T := kt_S) (N := 2) hx hb hts ki_S hown hK hP hh rfl 0 (by decide) (hts _ wi_55) (fun _ h9 => h9) rfl de_S_sequenceAt_9 ?_
    refine lv_iload_n hx hb de_S_sequenceAt_12 rfl (lv_at hl 1 rfl) ?_
    refine dk_iald (a := a1) hx hb hK hP h1 k rfl (by omega) (by omega) de_S_sequenceAt_13 ?_
    refine lv_goto (tgt := 18) hx hb de_S_sequenceAt_14 (by decide) ?_
    exact dk_iret hQ hx hb hr hlocks hP hS (Nat.le_refl _) (Nat.le_refl _) (⟨((hj k hk0).2 u hk1).1, rfl⟩) de_S_sequenceAt_18
abbrev rm_S_taken : Room := { frames := 0, cells := 0, slots := 0, locals := 0 }
set_option maxHeartbeats 4000000 in
set_option maxRecDepth 100000 in
theorem c_S_taken (l : Launch) (G : dk_G) (w : dk_H) (h : Nat) (sn : Nat → Option Nat) (hs0 : sn_at G w h sn) : dk_Mi l my_S_taken (wd_c my_S_taken mb_S_taken 3 (some .int)) rm_S_taken G w [.ref h] (fun r w1 => r = nI (sn_ct sn 6) ∧ w1 = w) 0 0 := by
  obtain ⟨a1, a2, fs, fu, hh, h1, h2, hj⟩ := hs0
  refine dk_enter (lv := [(0, .ref h)]) (by decide) (Nat.le_of_ble_eq_true rfl) rfl (fun p e s m args below meth c ls Q hQ C hP hS hl => ?_)
  obtain ⟨hx, hb, hr, hml, hlocks, hown, hnm, hts, hE⟩ := C
  have hK := hE.1
  have hN := hE.2.1
  refine lv_iconst (v := nI 0) hx hb de_S_taken_0 (by decide) ?_
  refine lv_istore_n (lv' := [(1, .int (nI 0)), (0, .ref h)]) hx hb de_S_taken_1 rfl hl (by decide) rfl (fun ls hl => ?_)
  refine lv_iconst (v := nI 0) hx hb de_S_taken_2 (by decide) ?_
  refine lv_istore_n (lv' := [(2, .int (nI 0)), (1, .int (nI 0)), (0, .ref h)]) hx hb de_S_taken_3 rfl hl (by decide) rfl (fun ls hl => ?_)
  have lp : ∀ (zk : Nat) (i : Nat), 6 - i < zk → (i ≤ 6) → ∀ (ls : Array Slot), lv_has ls 3 [(0, .ref h), (1, .int (nI (sn_ct sn i))), (2, .int (nI i))] → W p l e rm_S_taken s m args below meth c s.heap [] 0 0 Q (F0 m 4 ls []) := by
    intro zk
    induction zk with
    | zero =>
      intro i hk
      exact absurd hk (by omega)
    | succ zk ih =>
      intro i hk hi
      intro ls hl
      refine lv_iload_n hx hb de_S_taken_4 rfl (lv_at hl 2 rfl) ?_
      refine lv_bipush (v := nI 6) hx hb de_S_taken_5 (by decide) ?_
      refine nx_icmp_ge (a := i) (b := 6) (tgt := 33) hx hb (by omega) (by omega) de_S_taken_7 (by decide) (fun c_169 => ?_) (fun c_169 => ?_)
      · refine lv_iload_n hx hb de_S_taken_33 rfl (lv_at hl 1 rfl) ?_
        exact dk_iret hQ hx hb hr hlocks hP hS (Nat.le_refl _) (Nat.le_refl _) (⟨by rw [show i = 6 by omega], rfl⟩) de_S_taken_34
      · refine lv_iload_n hx hb de_S_taken_10 rfl (lv_at hl 1 rfl) ?_
        refine lv_aload_n hx hb de_S_taken_11 rfl (lv_at hl 0 rfl) ?_
        refine dk_get (a := h) (v := .ref a2) (C := kn_S) (T := kt_S) (N := 2) hx hb hts ki_S hown hK hP hh rfl 1 (by decide) (hts _ wi_56) (fun _ h9 => h9) rfl de_S_taken_12 ?_
        refine lv_iload_n hx hb de_S_taken_15 rfl (lv_at hl 2 rfl) ?_
        refine dk_zald (a := a2) hx hb hK hP h2 i rfl (by omega) (by omega) de_S_taken_16 ?_
        rw [(hj i c_169).1]
        refine bo_if_eq (b := (sn i).isSome) (tgt := 24) hx hb de_S_taken_17 (by decide) (fun c_170 => ?_) (fun c_170 => ?_)
        · refine lv_iconst (v := nI 0) hx hb de_S_taken_24 (by decide) ?_
          refine nx_iadd (a := sn_ct sn i) (b := 0) hx hb de_S_taken_25 ?_
          have e9 : sn_ct sn i + 0 = sn_ct sn (i + 1) := by simp [sn_ct, c_170]
          rw [e9]
          refine lv_istore_n (lv' := [(1, .int (nI (sn_ct sn (i + 1)))), (0, .ref h), (2, .int (nI i))]) hx hb de_S_taken_26 rfl hl (by decide) rfl (fun ls hl => ?_)
          refine lv_iinc (v := nI (i + 1)) (lv' := [(2, .int (nI (i + 1))), (1, .int (nI (sn_ct sn (i + 1)))), (0, .ref h)]) hx hb de_S_taken_27 hl (k := 2) rfl (nx_inc i) (by decide) rfl (fun ls hl => ?_)
          refine lv_goto (tgt := 4) hx hb de_S_taken_30 (by decide) ?_
          exact ih (i + 1) (by omega) (by omega) _ (lv_sub hl [2, 1, 0] rfl)
        · refine lv_iconst (v := nI 1) hx hb de_S_taken_20 (by decide) ?_
          refine lv_goto (tgt := 25) hx hb de_S_taken_21 (by decide) ?_
          refine nx_iadd (a := sn_ct sn i) (b := 1) hx hb de_S_taken_25 ?_
          have e9 : sn_ct sn i + 1 = sn_ct sn (i + 1) := by simp [sn_ct, c_170]
          rw [e9]
          refine lv_istore_n (lv' := [(1, .int (nI (sn_ct sn (i + 1)))), (0, .ref h), (2, .int (nI i))]) hx hb de_S_taken_26 rfl hl (by decide) rfl (fun ls hl => ?_)
          refine lv_iinc (v := nI (i + 1)) (lv' := [(2, .int (nI (i + 1))), (1, .int (nI (sn_ct sn (i + 1)))), (0, .ref h)]) hx hb de_S_taken_27 hl (k := 2) rfl (nx_inc i) (by decide) rfl (fun ls hl => ?_)
          refine lv_goto (tgt := 4) hx hb de_S_taken_30 (by decide) ?_
          exact ih (i + 1) (by omega) (by omega) _ (lv_sub hl [2, 1, 0] rfl)
  exact lp 7 0 (by omega) (Nat.zero_le _) _ (lv_sub hl [2, 1, 0] rfl)
abbrev rm_S_anyFromBelow : Room := { frames := 0, cells := 0, slots := 0, locals := 0 }
set_option maxHeartbeats 4000000 in
set_option maxRecDepth 100000 in
theorem c_S_anyFromBelow (l : Launch) (G : dk_G) (w : dk_H) (h : Nat) (sn : Nat → Option Nat) (hs0 : sn_at G w h sn) (a b : Nat) (ha0 : a < 2 ^ 31) (hb0 : b < 2 ^ 31) : dk_Mi l my_S_anyFromBelow (wd_c my_S_anyFromBelow mb_S_anyFromBelow 4 (some .boolean)) rm_S_anyFromBelow G w [.ref h, .int (nI a), .int (nI b)] (fun r w1 => r = bo_i (sn_an sn a b 6) ∧ w1 = w) 0 0 := by
  obtain ⟨a1, a2, fs, fu, hh, h1, h2, hj⟩ := hs0
  refine dk_enter (lv := [(0, .ref h), (1, .int (nI a)), (2, .int (nI b))]) (by decide) (Nat.le_of_ble_eq_true rfl) rfl (fun p e s m args below meth c ls Q hQ C hP hS hl => ?_)
  obtain ⟨hx, hb, hr, hml, hlocks, hown, hnm, hts, hE⟩ := C
  have hK := hE.1
  have hN := hE.2.1
  refine lv_iconst (v := nI 0) hx hb de_S_anyFromBelow_0 (by decide) ?_
  refine lv_istore_n (lv' := [(3, .int (nI 0)), (0, .ref h), (1, .int (nI a)), (2, .int (nI b))]) hx hb de_S_anyFromBelow_1 rfl hl (by decide) rfl (fun ls hl => ?_)
  have lp : ∀ (zk : Nat) (i : Nat), 6 - i < zk → (i ≤ 6) → (sn_an sn a b i = false) → ∀ (ls : Array Slot), lv_has ls 4 [(0, .ref h), (1, .int (nI a)), (2, .int (nI b)), (3, .int (nI i))] → W p l e rm_S_anyFromBelow s m args below meth c s.heap [] 0 0 Q (F0 m 2 ls []) := by
    intro zk
    induction zk with
    | zero =>
      intro i hk
      exact absurd hk (by omega)
    | succ zk ih =>
      intro i hk hi hno
      intro ls hl
      refine lv_iload_n hx hb de_S_anyFromBelow_2 rfl (lv_at hl 3 rfl) ?_
      refine lv_bipush (v := nI 6) hx hb de_S_anyFromBelow_3 (by decide) ?_
      refine nx_icmp_ge (a := i) (b := 6) (tgt := 45) hx hb (by omega) (by omega) de_S_anyFromBelow_5 (by decide) (fun c_171 => ?_) (fun c_171 => ?_)
      · refine lv_iconst (v := nI 0) hx hb de_S_anyFromBelow_45 (by decide) ?_
        rw [show i = 6 by omega] at hno
        exact dk_zret hQ hx hb hr hlocks hP hS (Nat.le_refl _) (Nat.le_refl _) (by decide +kernel) (⟨bo_of0 hno, rfl⟩) de_S_anyFromBelow_46
      · refine lv_aload_n hx hb de_S_anyFromBelow_8 rfl (lv_at hl 0 rfl) ?_
        refine dk_get (a := h) (v := .ref a2) (C := kn_S) (T := kt_S) (N := 2) hx hb hts ki_S hown hK hP hh rfl 1 (by decide) (hts _ wi_56) (fun _ h9 => h9) rfl de_S_anyFromBelow_9 ?_
        refine lv_iload_n hx hb de_S_anyFromBelow_12 rfl (lv_at hl 3 rfl) ?_
        refine dk_zald (a := a2) hx hb hK hP h2 i rfl (by omega) (by omega) de_S_anyFromBelow_13 ?_
        rw [(hj i c_171).1]
        refine bo_if_eq (b := (sn i).isSome) (tgt := 39) hx hb de_S_anyFromBelow_14 (by decide) (fun c_172 => ?_) (fun c_172 => ?_)
        · have e9 := sn_no c_172
          refine lv_iinc (v := nI (i + 1)) (lv' := [(3, .int (nI (i + 1))), (0, .ref h), (1, .int (nI a)), (2, .int (nI b))]) hx hb de_S_anyFromBelow_39 hl (k := 3) rfl (nx_inc i) (by decide) rfl (fun ls hl => ?_)
          refine lv_goto (tgt := 2) hx hb de_S_anyFromBelow_42 (by decide) ?_
          exact ih (i + 1) (by omega) (by omega) (by simp [sn_an, hno, e9]) _ (lv_sub hl [1, 2, 3, 0] rfl)
        · obtain ⟨u, hu9⟩ := Option.isSome_iff_exists.mp c_172
          have hu8 := (hj i c_171).2 u hu9
          have hu7 := hu8.2
          refine lv_iload_n hx hb de_S_anyFromBelow_17 rfl (lv_at hl 1 rfl) ?_
          refine lv_aload_n hx hb de_S_anyFromBelow_18 rfl (lv_at hl 0 rfl) ?_
          refine dk_get (a := h) (v := .ref a1) (C := kn_S) (T := kt_S) (N := 2) hx hb hts ki_S hown hK hP hh rfl 0 (by decide) (hts _ wi_55) (fun _ h9 => h9) rfl de_S_anyFromBelow_19 ?_
          refine lv_iload_n hx hb de_S_anyFromBelow_22 rfl (lv_at hl 3 rfl) ?_
          refine dk_iald (a := a1) hx hb hK hP h1 i rfl (by omega) (by omega) de_S_anyFromBelow_23 ?_
          rw [hu8.1]
          refine nx_icmp_gt (a := a) (b := u) (tgt := 39) hx hb (by omega) (by omega) de_S_anyFromBelow_24 (by decide) (fun c_173 => ?_) (fun c_173 => ?_)
          · refine lv_iinc (v := nI (i + 1)) (lv' := [(3, .int (nI (i + 1))), (0, .ref h), (1, .int (nI a)), (2, .int (nI b))]) hx hb de_S_anyFromBelow_39 hl (k := 3) rfl (nx_inc i) (by decide) rfl (fun ls hl => ?_)
            refine lv_goto (tgt := 2) hx hb de_S_anyFromBelow_42 (by decide) ?_
            exact ih (i + 1) (by omega) (by omega) (by simp [sn_an, hno, hu9]; omega) _ (lv_sub hl [1, 2, 3, 0] rfl)
          · refine lv_aload_n hx hb de_S_anyFromBelow_27 rfl (lv_at hl 0 rfl) ?_
            refine dk_get (a := h) (v := .ref a1) (C := kn_S) (T := kt_S) (N := 2) hx hb hts ki_S hown hK hP hh rfl 0 (by decide) (hts _ wi_55) (fun _ h9 => h9) rfl de_S_anyFromBelow_28 ?_
            refine lv_iload_n hx hb de_S_anyFromBelow_31 rfl (lv_at hl 3 rfl) ?_
            refine dk_iald (a := a1) hx hb hK hP h1 i rfl (by omega) (by omega) de_S_anyFromBelow_32 ?_
            rw [hu8.1]
            refine lv_iload_n hx hb de_S_anyFromBelow_33 rfl (lv_at hl 2 rfl) ?_
            refine nx_icmp_ge (a := u) (b := b) (tgt := 39) hx hb (by omega) (by omega) de_S_anyFromBelow_34 (by decide) (fun c_174 => ?_) (fun c_174 => ?_)
            · refine lv_iinc (v := nI (i + 1)) (lv' := [(3, .int (nI (i + 1))), (0, .ref h), (1, .int (nI a)), (2, .int (nI b))]) hx hb de_S_anyFromBelow_39 hl (k := 3) rfl (nx_inc i) (by decide) rfl (fun ls hl => ?_)
              refine lv_goto (tgt := 2) hx hb de_S_anyFromBelow_42 (by decide) ?_
              exact ih (i + 1) (by omega) (by omega) (by simp [sn_an, hno, hu9]; omega) _ (lv_sub hl [1, 2, 3, 0] rfl)
            · refine lv_iconst (v := nI 1) hx hb de_S_anyFromBelow_37 (by decide) ?_
              exact dk_zret hQ hx hb hr hlocks hP hS (Nat.le_refl _) (Nat.le_refl _) (by decide +kernel) (⟨bo_of1 (sn_any c_171 hu9 (by omega) (by omega)), rfl⟩) de_S_anyFromBelow_38
  exact lp 7 0 (by omega) (Nat.zero_le _) rfl _ (lv_sub hl [1, 2, 3, 0] rfl)
