/-! RunKeeper$Row, the rest (printed by gen/c_row3.py) -/
abbrev rm_R_greatestSequence : Room := { frames := 1, cells := 0, slots := 0, locals := 24 }
set_option maxHeartbeats 4000000 in
set_option maxRecDepth 100000 in
theorem c_R_greatestSequence (l : Launch) (G : dk_G) (w : dk_H) (h t0 t1 cap : Nat) (L : List en_T) (hr0 : rw_at G w h t0 t1 cap L) (hok : ∀ x ∈ L, en_ok x) : dk_Mi l my_R_greatestSequence (wd_c my_R_greatestSequence mb_R_greatestSequence 3 (some .int)) rm_R_greatestSequence G w [.ref h] (fun r w1 => r = nI (mx_L L) ∧ w1 = w) 0 0 := by
  obtain ⟨sl, f, hh, hsl, hle, hcap, hf⟩ := hr0
  refine dk_enter (lv := [(0, .ref h)]) (by decide) (Nat.le_of_ble_eq_true rfl) rfl (fun p e s m args below meth c ls Q hQ C hP hS hl => ?_)
  obtain ⟨hx, hb, hr, hml, hlocks, hown, hnm, hts, hE⟩ := C
  have hK := hE.1
  have hN := hE.2.1
  refine lv_iconst (v := nI 0) hx hb de_R_greatestSequence_0 (by decide) ?_
  refine lv_istore_n (lv' := [(1, .int (nI 0)), (0, .ref h)]) hx hb de_R_greatestSequence_1 rfl hl (by decide) rfl (fun ls hl => ?_)
  refine lv_iconst (v := nI 0) hx hb de_R_greatestSequence_2 (by decide) ?_
  refine lv_istore_n (lv' := [(2, .int (nI 0)), (1, .int (nI 0)), (0, .ref h)]) hx hb de_R_greatestSequence_3 rfl hl (by decide) rfl (fun ls hl => ?_)
  have lp : ∀ (zk : Nat) (i : Nat) (g : Nat), L.length - i < zk → (i ≤ L.length) → (g = mx_L (L.take i)) → (g < 2 ^ 30) → ∀ (H : Heap) (locs : List Loc), dk_P G w H → dk_S G s.heap H locs → ∀ (ls : Array Slot), lv_has ls 3 [(0, .ref h), (1, .int (nI g)), (2, .int (nI i))] → W p l e rm_R_greatestSequence s m args below meth c H locs 0 0 Q (F0 m 4 ls []) := by
    intro zk
    induction zk with
    | zero =>
      intro i g hk
      exact absurd hk (by omega)
    | succ zk ih =>
      intro i g hk hi hg hg2
      intro H locs hP hS
      intro ls hl
      refine lv_iload_n hx hb de_R_greatestSequence_4 rfl (lv_at hl 2 rfl) ?_
      refine lv_aload_n hx hb de_R_greatestSequence_5 rfl (lv_at hl 0 rfl) ?_
      refine dk_get (a := h) (v := .int (nI L.length)) (C := kn_R) (T := kt_R) (N := 2) hx hb hts ki_R hown hK hP hh rfl 1 (by decide) (hts _ wi_41) (fun _ h9 => h9) rfl de_R_greatestSequence_6 ?_
      refine nx_icmp_ge (a := i) (b := L.length) (tgt := 32) hx hb (by omega) (by omega) de_R_greatestSequence_9 (by decide) (fun c_82 => ?_) (fun c_82 => ?_)
      · refine lv_iload_n hx hb de_R_greatestSequence_32 rfl (lv_at hl 1 rfl) ?_
        rw [List.take_of_length_le c_82] at hg
        exact dk_iret hQ hx hb hr hlocks hP hS (Nat.le_refl _) (Nat.le_refl _) (⟨by rw [hg], rfl⟩) de_R_greatestSequence_33
      · refine lv_iload_n hx hb de_R_greatestSequence_12 rfl (lv_at hl 1 rfl) ?_
        refine lv_aload_n hx hb de_R_greatestSequence_13 rfl (lv_at hl 0 rfl) ?_
        refine dk_get (a := h) (v := .ref sl) (C := kn_R) (T := kt_R) (N := 2) hx hb hts ki_R hown hK hP hh rfl 0 (by decide) (hts _ wi_40) (fun _ h9 => h9) rfl de_R_greatestSequence_14 ?_
        refine lv_iload_n hx hb de_R_greatestSequence_17 rfl (lv_at hl 2 rfl) ?_
        obtain ⟨x, hx9⟩ := ge_at c_82
        obtain ⟨a9, ha9, ha8⟩ := hf _ _ hx9
        have hxs := (hok x (List.mem_of_getElem? hx9)).2
        refine dk_aald (a := sl) (r := some a9) (C := dk_nE) hx hb hK hP hsl rfl i rfl (by omega) (by omega) ha9 de_R_greatestSequence_18 ?_
        refine dk_getN (a := a9) (v := .int (nI x.2.1)) (C := kn_E) (T := kt_E) (N := 4) (host := "RunKeeper") hx hb hts ki_E hown hK hP ha8 rfl 1 (by decide) (hN.use (dn_m 449 (by decide +kernel) rfl)) (fun _ h9 => h9) rfl de_R_greatestSequence_19 ?_
        refine va_mmax hx hb (by rw [hml]; exact hl.1.symm) hown (hts _ wi_325) (hts _ wi_232) (hts _ wi_17) (hts _ wi_233) (Nat.le_of_ble_eq_true rfl) (Nat.le_of_ble_eq_true rfl) (by first | exact Nat.le_of_ble_eq_true rfl | (simp only [Nat.zero_add]; omega) | omega) (by first | exact Nat.le_of_ble_eq_true rfl | (simp only [Nat.zero_add]; omega) | omega) (x := nI g) (y := nI x.2.1) (rest := []) de_R_greatestSequence_22 ?_
        rw [nx_max (a := g) (b := x.2.1) (by omega) (by omega)]
        refine lv_istore_n (lv' := [(1, .int (nI (max g x.2.1))), (0, .ref h), (2, .int (nI i))]) hx hb de_R_greatestSequence_25 rfl hl (by decide) rfl (fun ls hl => ?_)
        refine lv_iinc (v := nI (i + 1)) (lv' := [(2, .int (nI (i + 1))), (1, .int (nI (max g x.2.1))), (0, .ref h)]) hx hb de_R_greatestSequence_26 hl (k := 2) rfl (nx_inc i) (by decide) rfl (fun ls hl => ?_)
        refine lv_goto (tgt := 4) hx hb de_R_greatestSequence_29 (by decide) ?_
        exact ih (i + 1) (max g x.2.1) (by omega) (by omega) (by rw [ta_s hx9, mx_snoc, hg]) (by omega) _ _ hP hS _ (lv_sub hl [2, 1, 0] rfl)
  exact lp (L.length + 1) 0 0 (by omega) (Nat.zero_le _) rfl (by decide) _ _ hP hS _ (lv_sub hl [2, 1, 0] rfl)
abbrev rm_R_sortAsRun : Room := { frames := 1, cells := 0, slots := 0, locals := 21 }
set_option maxHeartbeats 4000000 in
set_option maxRecDepth 100000 in
theorem c_R_sortAsRun (l : Launch) (G : dk_G) (w : dk_H) (h t0 t1 cap : Nat) (L : List en_T) (hr0 : rw_at G w h t0 t1 cap L) (ht : t0 ≠ 0 ∧ t1 ≠ 0 ∧ t0 ≠ t1) (hok : ∀ x ∈ L, en_ok x) : dk_Mv l my_R_sortAsRun (wd_c my_R_sortAsRun mb_R_sortAsRun 4 none) rm_R_sortAsRun G w [.ref h] (fun w1 => rw_at G w1 h t0 t1 cap (so_st L) ∧ dk_fr (fun t => t = t0 ∨ t = t1) w w1) 0 0 := by
  obtain ⟨sl, f, hh, hsl, hle, hcap, hf⟩ := hr0
  obtain ⟨ht0, ht1, ht2⟩ := ht
  refine dk_enter (lv := [(0, .ref h)]) (by decide) (Nat.le_of_ble_eq_true rfl) rfl (fun p e s m args below meth c ls Q hQ C hP hS hl => ?_)
  obtain ⟨hx, hb, hr, hml, hlocks, hown, hnm, hts, hE⟩ := C
  have hK := hE.1
  have hN := hE.2.1
  refine lv_iconst (v := nI 1) hx hb de_R_sortAsRun_0 (by decide) ?_
  refine lv_istore_n (lv' := [(1, .int (nI 1)), (0, .ref h)]) hx hb de_R_sortAsRun_1 rfl hl (by decide) rfl (fun ls hl => ?_)
  have lp : ∀ (zk : Nat) (i : Nat) (g : Nat → Option Nat), L.length + 1 - i < zk → (1 ≤ i) → (i ≤ L.length + 1) → ∀ (H : Heap) (locs : List Loc) (v : dk_H), v h = some (t0, .inr (cx_R, [.ref sl, .int (nI L.length)])) → v sl = some (t1, dk_ca G 3 cap g) → (ra_ok v g (so_st (L.take i) ++ L.drop i)) → (dk_fr (fun t => t = t0 ∨ t = t1) w v) → dk_P G v H → dk_S G s.heap H locs → ∀ (ls : Array Slot), lv_has ls 4 [(0, .ref h), (1, .int (nI i))] → W p l e rm_R_sortAsRun s m args below meth c H locs 0 0 Q (F0 m 2 ls []) := by
    intro zk
    induction zk with
    | zero =>
      intro i g hk
      exact absurd hk (by omega)
    | succ zk ih =>
      intro i g hk hi hi2
      intro H locs v hh hsl hg hfr hP hS
      intro ls hl
      refine lv_iload_n hx hb de_R_sortAsRun_2 rfl (lv_at hl 1 rfl) ?_
      refine lv_aload_n hx hb de_R_sortAsRun_3 rfl (lv_at hl 0 rfl) ?_
      refine dk_get (a := h) (v := .int (nI L.length)) (C := kn_R) (T := kt_R) (N := 2) hx hb hts ki_R hown hK hP hh rfl 1 (by decide) (hts _ wi_41) (fun _ h9 => h9) rfl de_R_sortAsRun_4 ?_
      refine nx_icmp_ge (a := i) (b := L.length) (tgt := 71) hx hb (by omega) (by omega) de_R_sortAsRun_7 (by decide) (fun c_83 => ?_) (fun c_83 => ?_)
      · rw [List.take_of_length_le c_83, List.drop_eq_nil_of_le c_83, List.append_nil] at hg
        exact dk_vret hQ hx hb hr hlocks hP hS (Nat.le_refl _) (Nat.le_refl _) (⟨⟨sl, g, by rw [so_st_len]; exact hh, hsl, by rw [so_st_len]; exact hle, hcap, hg⟩, hfr⟩) de_R_sortAsRun_71
      · obtain ⟨x, hx9⟩ := ge_at c_83
        have hxi : (so_st (L.take i) ++ L.drop i)[i]? = some x := by rw [so_ci (by omega) (Nat.le_refl _)]; exact hx9
        obtain ⟨ax, hax, hax2⟩ := hg _ _ hxi
        have hxo := hok x (List.mem_of_getElem? hx9)
        have hPl := so_tl L (i := i) (by omega)
        have hsh := sh_ok.init hg
        rw [hPl] at hsh
        have hsr : sr_ok v g L i := fun j y hj hy => hg j y (by rw [so_ci (by omega) (by omega)]; exact hy)
        have hPo : ∀ j y, (so_st (L.take i))[j]? = some y → en_ok y := fun j y hy => hok y (List.mem_of_mem_take (so_st_mem.mp (List.mem_of_getElem? hy)))
        refine lv_aload_n hx hb de_R_sortAsRun_10 rfl (lv_at hl 0 rfl) ?_
        refine dk_get (a := h) (v := .ref sl) (C := kn_R) (T := kt_R) (N := 2) hx hb hts ki_R hown hK hP hh rfl 0 (by decide) (hts _ wi_40) (fun _ h9 => h9) rfl de_R_sortAsRun_11 ?_
        refine lv_iload_n hx hb de_R_sortAsRun_14 rfl (lv_at hl 1 rfl) ?_
        refine dk_aald (a := sl) (r := some ax) (C := dk_nE) hx hb hK hP hsl rfl i rfl (by omega) (by omega) hax de_R_sortAsRun_15 ?_
        refine lv_astore_n (lv' := [(2, .ref ax), (0, .ref h), (1, .int (nI i))]) hx hb de_R_sortAsRun_16 rfl hl (by decide) rfl (fun ls hl => ?_)
        refine lv_iload_n hx hb de_R_sortAsRun_17 rfl (lv_at hl 2 rfl) ?_
        refine lv_istore_n (lv' := [(3, .int (nI i)), (2, .ref ax), (0, .ref h), (1, .int (nI i))]) hx hb de_R_sortAsRun_18 rfl hl (by decide) rfl (fun ls hl => ?_)
        have lp2 : ∀ (zk2 : Nat) (p9 : Nat) (g2 : Nat → Option Nat), p9 < zk2 → (p9 ≤ i) → (∀ j y, p9 ≤ j → (so_st (L.take i))[j]? = some y → en_b x y = true) → ∀ (H : Heap) (locs : List Loc) (v2 : dk_H), v2 h = some (t0, .inr (cx_R, [.ref sl, .int (nI L.length)])) → v2 sl = some (t1, dk_ca G 3 cap g2) → (sh_ok v2 g2 (so_st (L.take i)) p9) → (sr_ok v2 g2 L i) → (en_at v2 ax x) → (dk_fr (fun t => t = t0 ∨ t = t1) w v2) → dk_P G v2 H → dk_S G s.heap H locs → ∀ (ls : Array Slot), lv_has ls 4 [(0, .ref h), (1, .int (nI i)), (2, .ref ax), (3, .int (nI p9))] → W p l e rm_R_sortAsRun s m args below meth c H locs 0 0 Q (F0 m 19 ls []) := by
          intro zk2
          induction zk2 with
          | zero =>
            intro p9 g2 hk
            exact absurd hk (by omega)
          | succ zk2 ih2 =>
            intro p9 g2 hk hp9 hal
            intro H locs v2 hh hsl hs2 hr2 hax3 hfr2 hP hS
            intro ls hl
            refine lv_iload_n hx hb de_R_sortAsRun_19 rfl (lv_at hl 3 rfl) ?_
            refine nx_if_le (a := p9) (tgt := 58) hx hb (by omega) de_R_sortAsRun_20 (by decide) (fun c_84 => ?_) (fun c_84 => ?_)
            · subst c_84
              refine lv_aload_n hx hb de_R_sortAsRun_58 rfl (lv_at hl 0 rfl) ?_
              refine dk_get (a := h) (v := .ref sl) (C := kn_R) (T := kt_R) (N := 2) hx hb hts ki_R hown hK hP hh rfl 0 (by decide) (hts _ wi_40) (fun _ h9 => h9) rfl de_R_sortAsRun_59 ?_
              refine lv_iload_n hx hb de_R_sortAsRun_62 rfl (lv_at hl 3 rfl) ?_
              refine lv_aload_n hx hb de_R_sortAsRun_63 rfl (lv_at hl 2 rfl) ?_
              refine dk_aast (a := sl) (v := ax) (r := (kn_E, kt_E, 4)) hx hb hK hP hS hsl rfl hax3 rfl 0 rfl (by omega) (by omega) de_R_sortAsRun_64 (fun H locs w_85 hw_86 hP hS => ?_)
              have h_87 : w_85 sl = some (t1, dk_ca G 3 cap (va_up g2 0 (some ax))) := dk_here hw_86
              have h_88 : w_85 h = some (t0, .inr (cx_R, [.ref sl, .int (nI L.length)])) := dk_keep hw_86 hsl hh (by omega)
              have h_89 : w_85 ax = some (0, .inr (cx_E, [.int (nI x.1), .int (nI x.2.1), .long x.2.2.1, .int (bo_i x.2.2.2)])) := dk_keep hw_86 hsl hax3 (by omega)
              have hfr3 := hfr2.tr ((dk_fr.rf).tr ((dk_fr.up (T := (fun t => t = t0 ∨ t = t1)) hsl (Or.inr rfl)).eq hw_86))
              have hra := (hs2.done hPl hr2 (so_n_of x _ 0 (Nat.zero_le _) hal (fun y h => absurd h (by omega))) hax3 c_83).fr ((dk_fr.rf).tr ((dk_fr.up (T := (fun t => t = t0 ∨ t = t1)) hsl (Or.inr rfl)).eq hw_86)) (by omega)
              rw [← so_snoc, ← ta_s hx9] at hra
              refine lv_iinc (v := nI (i + 1)) (lv' := [(1, .int (nI (i + 1))), (0, .ref h), (2, .ref ax), (3, .int (nI 0))]) hx hb de_R_sortAsRun_65 hl (k := 1) rfl (nx_inc i) (by decide) rfl (fun ls hl => ?_)
              refine lv_goto (tgt := 2) hx hb de_R_sortAsRun_68 (by decide) ?_
              exact ih (i + 1) (va_up g2 0 (some ax)) (by omega) (by omega) (by omega) _ _ _ h_88 h_87 hra hfr3 hP hS _ (lv_sub hl [1, 0] rfl)
            · obtain ⟨p9, rfl⟩ : ∃ q, p9 = q + 1 := ⟨p9 - 1, by omega⟩
              obtain ⟨y, hy9⟩ := ge_at (L := so_st (L.take i)) (i := p9) (by omega)
              obtain ⟨ay, hay, hay2⟩ := hs2.1 _ _ (by omega) hy9
              refine lv_aload_n hx hb de_R_sortAsRun_23 rfl (lv_at hl 2 rfl) ?_
              refine lv_aload_n hx hb de_R_sortAsRun_24 rfl (lv_at hl 0 rfl) ?_
              refine dk_get (a := h) (v := .ref sl) (C := kn_R) (T := kt_R) (N := 2) hx hb hts ki_R hown hK hP hh rfl 0 (by decide) (hts _ wi_40) (fun _ h9 => h9) rfl de_R_sortAsRun_25 ?_
              refine lv_iload_n hx hb de_R_sortAsRun_28 rfl (lv_at hl 3 rfl) ?_
              refine lv_iconst (v := nI 1) hx hb de_R_sortAsRun_29 (by decide) ?_
              refine nx_isub (a := p9 + 1) (b := 1) hx hb (by omega) de_R_sortAsRun_30 ?_
              refine dk_aald (a := sl) (r := some ay) (C := dk_nE) hx hb hK hP hsl rfl (p9 + 1 - 1) rfl (by omega) (by omega) hay de_R_sortAsRun_31 ?_
              refine dk_calli (va_runV (As := [.ref ay]) (rest := []) ⟨hx, hb, hml, hown, hts⟩ (c_E_standsBefore l G v2 ax ay x y hax3 hay2 hxo (hPo _ _ hy9)) (cwV 1 hts (wd_gV (C := "RunKeeper$Entry") wi_163 wi_160 wi_161 wi_162 wi_14) rfl rfl rfl (by decide +kernel) ⟨Nat.le_of_ble_eq_true rfl, Nat.le_of_ble_eq_true rfl⟩) (dk_preV (kn_E, kt_E, 4) hE hP hS hax3 rfl) rfl rfl hl.1 rfl (lv_room (Nat.le_of_ble_eq_true rfl)) de_R_sortAsRun_32 ⟨(by first | exact Nat.le_of_ble_eq_true rfl | (simp only [Nat.zero_add]; omega) | omega), (by first | exact Nat.le_of_ble_eq_true rfl | (simp only [Nat.zero_add]; omega) | omega)⟩) hS (fun r_92 w_90 H locs hq_91 hP hS => ?_)
              obtain ⟨hr_93, he_94⟩ := hq_91
              subst hr_93
              rw [he_94] at hP
              refine bo_if_eq (b := (en_b x y)) (tgt := 58) hx hb de_R_sortAsRun_35 (by decide) (fun c_95 => ?_) (fun c_95 => ?_)
              · refine lv_aload_n hx hb de_R_sortAsRun_58 rfl (lv_at hl 0 rfl) ?_
                refine dk_get (a := h) (v := .ref sl) (C := kn_R) (T := kt_R) (N := 2) hx hb hts ki_R hown hK hP hh rfl 0 (by decide) (hts _ wi_40) (fun _ h9 => h9) rfl de_R_sortAsRun_59 ?_
                refine lv_iload_n hx hb de_R_sortAsRun_62 rfl (lv_at hl 3 rfl) ?_
                refine lv_aload_n hx hb de_R_sortAsRun_63 rfl (lv_at hl 2 rfl) ?_
                refine dk_aast (a := sl) (v := ax) (r := (kn_E, kt_E, 4)) hx hb hK hP hS hsl rfl hax3 rfl (p9 + 1) rfl (by omega) (by omega) de_R_sortAsRun_64 (fun H locs w_96 hw_97 hP hS => ?_)
                have h_98 : w_96 sl = some (t1, dk_ca G 3 cap (va_up g2 (p9 + 1) (some ax))) := dk_here hw_97
                have h_99 : w_96 h = some (t0, .inr (cx_R, [.ref sl, .int (nI L.length)])) := dk_keep hw_97 hsl hh (by omega)
                have h_100 : w_96 ax = some (0, .inr (cx_E, [.int (nI x.1), .int (nI x.2.1), .long x.2.2.1, .int (bo_i x.2.2.2)])) := dk_keep hw_97 hsl hax3 (by omega)
                have hfr3 := hfr2.tr ((dk_fr.rf).tr ((dk_fr.up (T := (fun t => t = t0 ∨ t = t1)) hsl (Or.inr rfl)).eq hw_97))
                have hra := (hs2.done hPl hr2 (so_n_of x _ (p9 + 1) (by omega) hal (fun z h hz => by rw [Nat.add_sub_cancel, hy9] at hz; cases hz; exact c_95)) hax3 c_83).fr ((dk_fr.rf).tr ((dk_fr.up (T := (fun t => t = t0 ∨ t = t1)) hsl (Or.inr rfl)).eq hw_97)) (by omega)
                rw [← so_snoc, ← ta_s hx9] at hra
                refine lv_iinc (v := nI (i + 1)) (lv' := [(1, .int (nI (i + 1))), (0, .ref h), (2, .ref ax), (3, .int (nI (p9 + 1)))]) hx hb de_R_sortAsRun_65 hl (k := 1) rfl (nx_inc i) (by decide) rfl (fun ls hl => ?_)
                refine lv_goto (tgt := 2) hx hb de_R_sortAsRun_68 (by decide) ?_
                exact ih (i + 1) (va_up g2 (p9 + 1) (some ax)) (by omega) (by omega) (by omega) _ _ _ h_99 h_98 hra hfr3 hP hS _ (lv_sub hl [1, 0] rfl)
              · refine lv_aload_n hx hb de_R_sortAsRun_38 rfl (lv_at hl 0 rfl) ?_
                refine dk_get (a := h) (v := .ref sl) (C := kn_R) (T := kt_R) (N := 2) hx hb hts ki_R hown hK hP hh rfl 0 (by decide) (hts _ wi_40) (fun _ h9 => h9) rfl de_R_sortAsRun_39 ?_
                refine lv_iload_n hx hb de_R_sortAsRun_42 rfl (lv_at hl 3 rfl) ?_
                refine lv_aload_n hx hb de_R_sortAsRun_43 rfl (lv_at hl 0 rfl) ?_
                refine dk_get (a := h) (v := .ref sl) (C := kn_R) (T := kt_R) (N := 2) hx hb hts ki_R hown hK hP hh rfl 0 (by decide) (hts _ wi_40) (fun _ h9 => h9) rfl de_R_sortAsRun_44 ?_
                refine lv_iload_n hx hb de_R_sortAsRun_47 rfl (lv_at hl 3 rfl) ?_
                refine lv_iconst (v := nI 1) hx hb de_R_sortAsRun_48 (by decide) ?_
                refine nx_isub (a := p9 + 1) (b := 1) hx hb (by omega) de_R_sortAsRun_49 ?_
                refine dk_aald (a := sl) (r := some ay) (C := dk_nE) hx hb hK hP hsl rfl (p9 + 1 - 1) rfl (by omega) (by omega) hay de_R_sortAsRun_50 ?_
                refine dk_aast (a := sl) (v := ay) (r := (kn_E, kt_E, 4)) hx hb hK hP hS hsl rfl hay2 rfl (p9 + 1) rfl (by omega) (by omega) de_R_sortAsRun_51 (fun H locs w_101 hw_102 hP hS => ?_)
                have h_103 : w_101 sl = some (t1, dk_ca G 3 cap (va_up g2 (p9 + 1) (some ay))) := dk_here hw_102
                have h_104 : w_101 h = some (t0, .inr (cx_R, [.ref sl, .int (nI L.length)])) := dk_keep hw_102 hsl hh (by omega)
                have h_105 : w_101 ax = some (0, .inr (cx_E, [.int (nI x.1), .int (nI x.2.1), .long x.2.2.1, .int (bo_i x.2.2.2)])) := dk_keep hw_102 hsl hax3 (by omega)
                have h_106 : w_101 ay = some (0, .inr (cx_E, [.int (nI y.1), .int (nI y.2.1), .long y.2.2.1, .int (bo_i y.2.2.2)])) := dk_keep hw_102 hsl hay2 (by omega)
                have hfr3 := hfr2.tr ((dk_fr.rf).tr ((dk_fr.up (T := (fun t => t = t0 ∨ t = t1)) hsl (Or.inr rfl)).eq hw_102))
                have hup : va_up g2 (p9 + 1) (some ay) = va_up g2 (p9 + 1) (g2 p9) := by rw [hay]
                refine lv_iinc (v := nI (p9 + 1 - 1)) (lv' := [(3, .int (nI (p9 + 1 - 1))), (0, .ref h), (1, .int (nI i)), (2, .ref ax)]) hx hb de_R_sortAsRun_52 hl (k := 3) rfl (nx_dec (by omega)) (by decide) rfl (fun ls hl => ?_)
                refine lv_goto (tgt := 19) hx hb de_R_sortAsRun_55 (by decide) ?_
                exact ih2 p9 (va_up g2 (p9 + 1) (some ay)) (by omega) (by omega) (fun j z hj hz => by
        rcases Nat.lt_or_ge p9 j with h1 | h1
        · exact hal j z (by omega) hz
        · have : j = p9 := by omega
          subst this
          rw [hy9] at hz; cases hz; exact c_95) _ _ _ h_104 h_103 (by rw [hup]; exact ⟨fun j z hj hz => (hs2.step.1 j z hj hz).imp fun a q => ⟨q.1, q.2.fr ((dk_fr.rf).tr ((dk_fr.up (T := (fun t => t = t0 ∨ t = t1)) hsl (Or.inr rfl)).eq hw_102)) (by omega)⟩, fun j z hj hz => (hs2.step.2 j z hj hz).imp fun a q => ⟨q.1, q.2.fr ((dk_fr.rf).tr ((dk_fr.up (T := (fun t => t = t0 ∨ t = t1)) hsl (Or.inr rfl)).eq hw_102)) (by omega)⟩⟩) (fun j z hj hz => ((hr2.step (by omega)) j z hj hz).imp fun a q => ⟨q.1, q.2.fr ((dk_fr.rf).tr ((dk_fr.up (T := (fun t => t = t0 ∨ t = t1)) hsl (Or.inr rfl)).eq hw_102)) (by omega)⟩) (hax3.fr ((dk_fr.rf).tr ((dk_fr.up (T := (fun t => t = t0 ∨ t = t1)) hsl (Or.inr rfl)).eq hw_102)) (by omega)) hfr3 hP hS _ (lv_sub hl [1, 2, 3, 0] rfl)
        exact lp2 (i + 1) i g (by omega) (Nat.le_refl _) (fun j y hj hy => absurd (List.getElem?_eq_some_iff.mp hy).1 (by omega)) _ _ _ hh hsl hsh hsr hax2 hfr hP hS _ (lv_sub hl [2, 3, 1, 0] rfl)
  exact lp (L.length + 1 + 1) 1 f (by omega) (Nat.le_refl _) (by omega) _ _ _ hh hsl (by rw [so_one]; exact hf) dk_fr.rf hP hS _ (lv_sub hl [1, 0] rfl)
