/-! RunKeeper: merging (printed by gen/c_keep2.py) -/
theorem lv_two (lv : Nat → List (List en_T)) {j : Nat} (hj : j + 1 < 6) : le_ct (lv j) + le_ct (lv (j + 1)) ≤ lv_ct lv 6 := by
  have h1 : lv_ct lv (j + 1) + le_ct (lv (j + 1)) ≤ lv_ct lv 6 := lv_ct_mono lv (m := j + 1 + 1) (n := 6) (by omega)
  have h2 : lv_ct lv (j + 1) = lv_ct lv j + le_ct (lv j) := rfl
  omega
theorem mg_ok {G : dk_G} {w : dk_H} {h : Nat} {D : kp_D} {σ : kp_S} (H : kp_at G w h D σ) {j : Nat} (hj : j < 6) : ∀ y ∈ mg_A σ j, en_ok y := by
  intro y hy
  obtain ⟨R, hR, hy2⟩ := List.mem_flatten.mp (so_st_mem.mp hy)
  exact lv_fl_ok H hj R hR y hy2
theorem c_K_isSeenO (l : Launch) (G : dk_G) (w : dk_H) (h : Nat) (D : kp_D) (σ : kp_S) (hkp : kp_at G w h D σ) (a : Nat) (x : en_T) (ha : en_at w a x) (hx0 : en_ok x) (r : Option Nat) (o : Option en_T) (hq : en_q w r o) (ho : ∀ y, o = some y → en_ok y) : dk_Mi l my_K_isSeen (wd_c my_K_isSeen mb_K_isSeen 3 (some .boolean)) rm_K_isSeen G w [.ref h, .ref a, va_rf r] (fun r w1 => r = bo_i (se_o σ.sn x o) ∧ w1 = w) 0 0 := by
  cases o with
  | none =>
    have e : r = none := hq
    subst e
    exact c_K_isSeenN l G w h D σ hkp a
  | some y =>
    obtain ⟨b, rfl, hb⟩ := hq
    exact c_K_isSeen l G w h D σ hkp a b x y ha hb hx0 (ho y rfl)
theorem c_E_hasKeyOfO (l : Launch) (G : dk_G) (w : dk_H) (a : Nat) (x : en_T) (ha : en_at w a x) (hx0 : en_ok x) (r : Option Nat) (o : Option en_T) (hq : en_q w r o) (ho : ∀ y, o = some y → en_ok y) : dk_Mi l my_E_hasKeyOf (wd_c my_E_hasKeyOf mb_E_hasKeyOf 2 (some .boolean)) rm_E_hasKeyOf G w [.ref a, va_rf r] (fun r w1 => r = bo_i (hk_o x o) ∧ w1 = w) 0 0 := by
  cases o with
  | none =>
    have e : r = none := hq
    subst e
    exact c_E_hasKeyOfN l G w a x ha
  | some y =>
    obtain ⟨b, rfl, hb⟩ := hq
    exact c_E_hasKeyOf l G w a b x y ha hb hx0 (ho y rfl)
theorem pv_mem {L : List en_T} {i : Nat} {y : en_T} (h : pv_o L i = some y) : y ∈ L := by
  cases i with
  | zero => cases h
  | succ j => exact List.mem_of_getElem? h
abbrev rm_K_keepWhatIsSeen : Room := { frames := 2, cells := 0, slots := 0, locals := 45 }
set_option maxHeartbeats 4000000 in
set_option maxRecDepth 100000 in
theorem c_K_keepWhatIsSeen (l : Launch) (G : dk_G) (w : dk_H) (h : Nat) (D : kp_D) (σ : kp_S) (hkp : kp_at G w h D σ) (b : Bool) (hok : ∀ x ∈ σ.ga, en_ok x) : dk_Mv l my_K_keepWhatIsSeen (wd_c my_K_keepWhatIsSeen mb_K_keepWhatIsSeen 4 none) rm_K_keepWhatIsSeen G w [.ref h, .int (bo_i b)] (fun w1 => kp_at G w1 h D (σ.ke' (kw_L σ.sn b σ.ga σ.ga.length)) ∧ dk_fr kp_T w w1) 0 0 := by
  have hg6 : σ.ga.length ≤ 600 := hkp.g.choose_spec.choose_spec.2.2.1
  refine dk_enter (lv := [(0, .ref h), (1, .int (bo_i b))]) (by decide) (Nat.le_of_ble_eq_true rfl) rfl (fun p e s m args below meth c ls Q hQ C hP hS hl => ?_)
  obtain ⟨hx, hb, hr, hml, hlocks, hown, hnm, hts, hE⟩ := C
  have hK := hE.1
  have hN := hE.2.1
  have hh_658 : w h = some (1, .inr (cx_K, [.ref D.t, .ref D.a, .ref D.lv, .ref D.sn, .ref D.g, .ref D.k, .ref D.ne, .int (nI σ.sf), .int (bo_i σ.ib), .int (nI σ.sq), .int (nI σ.pr), .int (nI σ.mi)])) := hkp.o
  obtain ⟨sl_659, _, hc_660, -⟩ := id hkp.k
  refine lv_aload_n hx hb de_K_keepWhatIsSeen_0 rfl (lv_at hl 0 rfl) ?_
  refine dk_get (a := h) (v := .ref D.k) (C := kn_K) (T := kt_K) (N := 12) hx hb hts ki_K hown hK hP hh_658 rfl 5 (by decide) (hts _ wi_108) (fun _ h9 => h9) rfl de_K_keepWhatIsSeen_1 ?_
  refine lv_iconst (v := nI 0) hx hb de_K_keepWhatIsSeen_4 (by decide) ?_
  refine dk_callv (va_runV (As := [.int (nI 0)]) (rest := []) ⟨hx, hb, hml, hown, hts⟩ (c_R_cutTo l G w D.k 8 9 600 σ.ke hkp.k (by omega) 0 (by decide)) (cwV 1 hts (wd_gV (C := "RunKeeper$Row") wi_279 wi_276 wi_277 wi_278 wi_2) rfl rfl rfl (by decide +kernel) ⟨Nat.le_of_ble_eq_true rfl, Nat.le_of_ble_eq_true rfl⟩) (dk_preV (kn_R, kt_R, 2) hE hP hS hc_660 rfl) rfl rfl hl.1 rfl (lv_room (Nat.le_of_ble_eq_true rfl)) de_K_keepWhatIsSeen_5 ⟨(by first | exact Nat.le_of_ble_eq_true rfl | (simp only [Nat.zero_add]; omega) | omega), (by first | exact Nat.le_of_ble_eq_true rfl | (simp only [Nat.zero_add]; omega) | omega)⟩) hS (fun w_661 H locs hq_662 hP hS => ?_)
  have hk_664 : kp_at G w_661 h D (σ.ke' (σ.ke.take 0)) := hkp.ofk hq_662.2 hq_662.1
  have hh_665 : w_661 h = some (1, .inr (cx_K, [.ref D.t, .ref D.a, .ref D.lv, .ref D.sn, .ref D.g, .ref D.k, .ref D.ne, .int (nI σ.sf), .int (bo_i σ.ib), .int (nI σ.sq), .int (nI σ.pr), .int (nI σ.mi)])) := hk_664.o
  refine lv_iconst (v := nI 0) hx hb de_K_keepWhatIsSeen_8 (by decide) ?_
  refine lv_istore_n (lv' := [(2, .int (nI 0)), (0, .ref h), (1, .int (bo_i b))]) hx hb de_K_keepWhatIsSeen_9 rfl hl (by decide) rfl (fun ls hl => ?_)
  have lp : ∀ (zk : Nat) (i : Nat), σ.ga.length - i < zk → (i ≤ σ.ga.length) → ∀ (H : Heap) (locs : List Loc) (v : dk_H), (kp_at G v h D (σ.ke' (kw_L σ.sn b σ.ga i))) → (dk_fr kp_T w v) → dk_P G v H → dk_S G s.heap H locs → ∀ (ls : Array Slot), lv_has ls 4 [(0, .ref h), (1, .int (bo_i b)), (2, .int (nI i))] → W p l e rm_K_keepWhatIsSeen s m args below meth c H locs (0 + 0) (0 + 0) Q (F0 m 10 ls []) := by
    intro zk
    induction zk with
    | zero =>
      intro i hk
      exact absurd hk (by omega)
    | succ zk ih =>
      intro i hk hi
      intro H locs v hkv hg hP hS
      intro ls hl
      have hh_666 : v h = some (1, .inr (cx_K, [.ref D.t, .ref D.a, .ref D.lv, .ref D.sn, .ref D.g, .ref D.k, .ref D.ne, .int (nI σ.sf), .int (bo_i σ.ib), .int (nI σ.sq), .int (nI σ.pr), .int (nI σ.mi)])) := hkv.o
      obtain ⟨sl_667, _, hc_668, -⟩ := id hkv.g
      refine lv_iload_n hx hb de_K_keepWhatIsSeen_10 rfl (lv_at hl 2 rfl) ?_
      refine lv_aload_n hx hb de_K_keepWhatIsSeen_11 rfl (lv_at hl 0 rfl) ?_
      refine dk_get (a := h) (v := .ref D.g) (C := kn_K) (T := kt_K) (N := 12) hx hb hts ki_K hown hK hP hh_666 rfl 4 (by decide) (hts _ wi_107) (fun _ h9 => h9) rfl de_K_keepWhatIsSeen_12 ?_
      refine dk_calli (va_runV (As := []) (rest := [.int (nI i)]) ⟨hx, hb, hml, hown, hts⟩ (c_R_size l G v D.g 6 7 600 σ.ga hkv.g) (cwV 0 hts (wd_gV (C := "RunKeeper$Row") wi_147 wi_144 wi_145 wi_146 wi_2) rfl rfl rfl (by decide +kernel) ⟨Nat.le_of_ble_eq_true rfl, Nat.le_of_ble_eq_true rfl⟩) (dk_preV (kn_R, kt_R, 2) hE hP hS hc_668 rfl) rfl rfl hl.1 rfl (lv_room (Nat.le_of_ble_eq_true rfl)) de_K_keepWhatIsSeen_15 ⟨(by first | exact Nat.le_of_ble_eq_true rfl | (simp only [Nat.zero_add]; omega) | omega), (by first | exact Nat.le_of_ble_eq_true rfl | (simp only [Nat.zero_add]; omega) | omega)⟩) hS (fun r_671 w_669 H locs hq_670 hP hS => ?_)
      obtain ⟨hr_672, he_673⟩ := hq_670
      subst hr_672
      rw [he_673] at hP
      refine nx_icmp_ge (a := i) (b := σ.ga.length) (tgt := 98) hx hb (by omega) (by omega) de_K_keepWhatIsSeen_18 (by decide) (fun c_674 => ?_) (fun c_674 => ?_)
      · have e9 : i = σ.ga.length := by omega
        subst e9
        exact dk_vret hQ hx hb hr hlocks hP hS (Nat.le_refl _) (Nat.le_refl _) (⟨hkv, hg⟩) de_K_keepWhatIsSeen_98
      · obtain ⟨x, hx9⟩ := ge_at c_674
        have hxo := hok x (List.mem_of_getElem? hx9)
        have hkl := kw_len σ.sn b σ.ga i
        refine lv_aload_n hx hb de_K_keepWhatIsSeen_21 rfl (lv_at hl 0 rfl) ?_
        refine dk_get (a := h) (v := .ref D.g) (C := kn_K) (T := kt_K) (N := 12) hx hb hts ki_K hown hK hP hh_666 rfl 4 (by decide) (hts _ wi_107) (fun _ h9 => h9) rfl de_K_keepWhatIsSeen_22 ?_
        refine lv_iload_n hx hb de_K_keepWhatIsSeen_25 rfl (lv_at hl 2 rfl) ?_
        refine dk_callq (va_runV (As := [.int (nI i)]) (rest := []) ⟨hx, hb, hml, hown, hts⟩ (c_R_at l G v D.g 6 7 600 σ.ga hkv.g (nI i)) (cwV 1 hts (wd_gV (C := "RunKeeper$Row") wi_191 wi_516 wi_189 wi_190 wi_2) rfl rfl rfl (by decide +kernel) ⟨Nat.le_of_ble_eq_true rfl, Nat.le_of_ble_eq_true rfl⟩) (dk_preV (kn_R, kt_R, 2) hE hP hS hc_668 rfl) rfl rfl hl.1 rfl (lv_room (Nat.le_of_ble_eq_true rfl)) de_K_keepWhatIsSeen_26 ⟨(by first | exact Nat.le_of_ble_eq_true rfl | (simp only [Nat.zero_add]; omega) | omega), (by first | exact Nat.le_of_ble_eq_true rfl | (simp only [Nat.zero_add]; omega) | omega)⟩) hS (fun r_677 w_675 H locs hq_676 hP hS => ?_)
        obtain ⟨a1, ha1, ha2⟩ := at_in hq_676.2 (by omega) (by omega) hx9
        rw [hq_676.1] at hP
        subst ha1
        refine lv_astore_n (lv' := [(3, .ref a1), (0, .ref h), (1, .int (bo_i b)), (2, .int (nI i))]) hx hb de_K_keepWhatIsSeen_29 rfl hl (by decide) rfl (fun ls hl => ?_)
        refine lv_aload_n hx hb de_K_keepWhatIsSeen_30 rfl (lv_at hl 0 rfl) ?_
        refine lv_ifnull hx hb de_K_keepWhatIsSeen_31 ?_
        refine lv_aload_n hx hb de_K_keepWhatIsSeen_34 rfl (lv_at hl 1 rfl) ?_
        refine lv_aload_n hx hb de_K_keepWhatIsSeen_35 rfl (lv_at hl 0 rfl) ?_
        refine lv_aload_n hx hb de_K_keepWhatIsSeen_36 rfl (lv_at hl 1 rfl) ?_
        refine dk_get (a := h) (v := .ref D.g) (C := kn_K) (T := kt_K) (N := 12) hx hb hts ki_K hown hK hP hh_666 rfl 4 (by decide) (hts _ wi_107) (fun _ h9 => h9) rfl de_K_keepWhatIsSeen_37 ?_
        refine lv_iload_n hx hb de_K_keepWhatIsSeen_40 rfl (lv_at hl 3 rfl) ?_
        refine lv_iconst (v := nI 1) hx hb de_K_keepWhatIsSeen_41 (by decide) ?_
        refine lv_isub hx hb de_K_keepWhatIsSeen_42 ?_
        refine dk_callq (va_runV (As := [.int (nI i - nI 1)]) (rest := [.ref a1, .ref h]) ⟨hx, hb, hml, hown, hts⟩ (c_R_at l G v D.g 6 7 600 σ.ga hkv.g (nI i - nI 1)) (cwV 1 hts (wd_gV (C := "RunKeeper$Row") wi_191 wi_516 wi_189 wi_190 wi_2) rfl rfl rfl (by decide +kernel) ⟨Nat.le_of_ble_eq_true rfl, Nat.le_of_ble_eq_true rfl⟩) (dk_preV (kn_R, kt_R, 2) hE hP hS hc_668 rfl) rfl rfl hl.1 rfl (lv_room (Nat.le_of_ble_eq_true rfl)) de_K_keepWhatIsSeen_43 ⟨(by first | exact Nat.le_of_ble_eq_true rfl | (simp only [Nat.zero_add]; omega) | omega), (by first | exact Nat.le_of_ble_eq_true rfl | (simp only [Nat.zero_add]; omega) | omega)⟩) hS (fun r_681 w_679 H locs hq_680 hP hS => ?_)
        have hq0 := at_q hq_680.2 (by omega)
        rw [at_m (by omega)] at hq0
        rw [hq_680.1] at hP
        refine dk_calli (va_runV (As := [.ref a1, va_rf r_681]) (rest := []) ⟨hx, hb, hml, hown, hts⟩ (c_K_isSeenO l G v h D _ hkv a1 x ha2 hxo r_681 _ hq0 (fun y hy => hok y (pv_mem hy))) (cwV 2 hts (wd_gV (C := "RunKeeper") wi_548 wi_545 wi_547 (wd_p (q := (⟨"RunKeeper", "isSeen", "(LRunKeeper$Entry;LRunKeeper$Entry;)Z"⟩, 12)) (by decide +kernel) (by decide +kernel)) wi_1) rfl rfl rfl (by decide +kernel) ⟨Nat.le_of_ble_eq_true rfl, Nat.le_of_ble_eq_true rfl⟩) (dk_preV (kn_K, kt_K, 12) hE hP hS hh_666 rfl) rfl rfl hl.1 rfl (lv_room (Nat.le_of_ble_eq_true rfl)) de_K_keepWhatIsSeen_46 ⟨(by first | exact Nat.le_of_ble_eq_true rfl | (simp only [Nat.zero_add]; omega) | omega), (by first | exact Nat.le_of_ble_eq_true rfl | (simp only [Nat.zero_add]; omega) | omega)⟩) hS (fun r_684 w_682 H locs hq_683 hP hS => ?_)
        obtain ⟨hr_685, he_686⟩ := hq_683
        subst hr_685
        rw [he_686] at hP
        refine bo_if_eq (b := (se_o σ.sn x (pv_o σ.ga i))) (tgt := 60) hx hb de_K_keepWhatIsSeen_49 (by decide) (fun c_687 => ?_) (fun c_687 => ?_)
        · have e1 : kw_1 σ.sn σ.ga i x (kw_L σ.sn b σ.ga i) = kw_L σ.sn b σ.ga i := if_neg (fun z => by rw [c_687] at z; exact absurd z (by decide))
          refine lv_iload_n hx hb de_K_keepWhatIsSeen_60 rfl (lv_at hl 2 rfl) ?_
          refine bo_if_eq (b := b) (tgt := 92) hx hb de_K_keepWhatIsSeen_61 (by decide) (fun c_688 => ?_) (fun c_688 => ?_)
          · refine lv_iinc (v := nI (i + 1)) (lv' := [(2, .int (nI (i + 1))), (3, .ref a1), (0, .ref h), (1, .int (bo_i b))]) hx hb de_K_keepWhatIsSeen_92 hl (k := 3) rfl (nx_inc i) (by decide) rfl (fun ls hl => ?_)
            refine lv_goto (tgt := 10) hx hb de_K_keepWhatIsSeen_95 (by decide) ?_
            have hk7 : kp_at G v h D (σ.ke' (kw_L σ.sn b σ.ga (i + 1))) := by rw [kw_succ hx9, e1, kw_2, if_neg (fun z => by rw [c_688] at z; exact absurd z.1 (by decide))]; exact hkv
            exact ih (i + 1) (by omega) (by omega) _ _ _ hk7 (hg.tr dk_fr.rf) hP hS _ (lv_sub hl [2, 3, 0] rfl)
          · refine lv_aload_n hx hb de_K_keepWhatIsSeen_64 rfl (lv_at hl 0 rfl) ?_
            refine lv_ifnull hx hb de_K_keepWhatIsSeen_65 ?_
            refine lv_aload_n hx hb de_K_keepWhatIsSeen_68 rfl (lv_at hl 0 rfl) ?_
            refine lv_aload_n hx hb de_K_keepWhatIsSeen_69 rfl (lv_at hl 1 rfl) ?_
            refine dk_get (a := h) (v := .ref D.g) (C := kn_K) (T := kt_K) (N := 12) hx hb hts ki_K hown hK hP hh_666 rfl 4 (by decide) (hts _ wi_107) (fun _ h9 => h9) rfl de_K_keepWhatIsSeen_70 ?_
            refine lv_iload_n hx hb de_K_keepWhatIsSeen_73 rfl (lv_at hl 3 rfl) ?_
            refine lv_iconst (v := nI 1) hx hb de_K_keepWhatIsSeen_74 (by decide) ?_
            refine nx_iadd (a := i) (b := 1) hx hb de_K_keepWhatIsSeen_75 ?_
            refine dk_callq (va_runV (As := [.int (nI (i + 1))]) (rest := [.ref a1]) ⟨hx, hb, hml, hown, hts⟩ (c_R_at l G v D.g 6 7 600 σ.ga hkv.g (nI (i + 1))) (cwV 1 hts (wd_gV (C := "RunKeeper$Row") wi_191 wi_516 wi_189 wi_190 wi_2) rfl rfl rfl (by decide +kernel) ⟨Nat.le_of_ble_eq_true rfl, Nat.le_of_ble_eq_true rfl⟩) (dk_preV (kn_R, kt_R, 2) hE hP hS hc_668 rfl) rfl rfl hl.1 rfl (lv_room (Nat.le_of_ble_eq_true rfl)) de_K_keepWhatIsSeen_76 ⟨(by first | exact Nat.le_of_ble_eq_true rfl | (simp only [Nat.zero_add]; omega) | omega), (by first | exact Nat.le_of_ble_eq_true rfl | (simp only [Nat.zero_add]; omega) | omega)⟩) hS (fun r_692 w_690 H locs hq_691 hP hS => ?_)
            have hq8 := at_q hq_691.2 (by omega)
            rw [at_on (by omega)] at hq8
            rw [hq_691.1] at hP
            refine dk_calli (va_runV (As := [va_rf r_692]) (rest := []) ⟨hx, hb, hml, hown, hts⟩ (c_E_hasKeyOfO l G v a1 x ha2 hxo r_692 _ hq8 (fun y hy => hok y (List.mem_of_getElem? hy))) (cwV 1 hts (wd_gV (C := "RunKeeper$Entry") wi_552 wi_549 wi_550 wi_551 wi_14) rfl rfl rfl (by decide +kernel) ⟨Nat.le_of_ble_eq_true rfl, Nat.le_of_ble_eq_true rfl⟩) (dk_preV (kn_E, kt_E, 4) hE hP hS ha2 rfl) rfl rfl hl.1 rfl (lv_room (Nat.le_of_ble_eq_true rfl)) de_K_keepWhatIsSeen_79 ⟨(by first | exact Nat.le_of_ble_eq_true rfl | (simp only [Nat.zero_add]; omega) | omega), (by first | exact Nat.le_of_ble_eq_true rfl | (simp only [Nat.zero_add]; omega) | omega)⟩) hS (fun r_695 w_693 H locs hq_694 hP hS => ?_)
            obtain ⟨hr_696, he_697⟩ := hq_694
            subst hr_696
            rw [he_697] at hP
            refine bo_if_ne (b := (hk_o x σ.ga[i + 1]?)) (tgt := 92) hx hb de_K_keepWhatIsSeen_82 (by decide) (fun c_698 => ?_) (fun c_698 => ?_)
            · refine lv_iinc (v := nI (i + 1)) (lv' := [(2, .int (nI (i + 1))), (3, .ref a1), (0, .ref h), (1, .int (bo_i b))]) hx hb de_K_keepWhatIsSeen_92 hl (k := 3) rfl (nx_inc i) (by decide) rfl (fun ls hl => ?_)
              refine lv_goto (tgt := 10) hx hb de_K_keepWhatIsSeen_95 (by decide) ?_
              have hk7 : kp_at G v h D (σ.ke' (kw_L σ.sn b σ.ga (i + 1))) := by rw [kw_succ hx9, e1, kw_2, if_neg (fun z => by rw [c_698] at z; exact absurd z.2 (by decide))]; exact hkv
              exact ih (i + 1) (by omega) (by omega) _ _ _ hk7 (hg.tr dk_fr.rf) hP hS _ (lv_sub hl [2, 3, 0] rfl)
            · refine lv_aload_n hx hb de_K_keepWhatIsSeen_85 rfl (lv_at hl 1 rfl) ?_
              refine dk_get (a := h) (v := .ref D.k) (C := kn_K) (T := kt_K) (N := 12) hx hb hts ki_K hown hK hP hh_666 rfl 5 (by decide) (hts _ wi_108) (fun _ h9 => h9) rfl de_K_keepWhatIsSeen_86 ?_
              obtain ⟨sl_699, _, hc_700, -⟩ := id hkv.k
              refine dk_callv (va_runV (As := []) (rest := []) ⟨hx, hb, hml, hown, hts⟩ (c_R_cutDeletedTail l G v D.k 8 9 600 _ hkv.k (by omega)) (cwV 0 hts (wd_gV (C := "RunKeeper$Row") wi_560 wi_557 wi_558 wi_559 wi_2) rfl rfl rfl (by decide +kernel) ⟨Nat.le_of_ble_eq_true rfl, Nat.le_of_ble_eq_true rfl⟩) (dk_preV (kn_R, kt_R, 2) hE hP hS hc_700 rfl) rfl rfl hl.1 rfl (lv_room (Nat.le_of_ble_eq_true rfl)) de_K_keepWhatIsSeen_89 ⟨(by first | exact Nat.le_of_ble_eq_true rfl | (simp only [Nat.zero_add]; omega) | omega), (by first | exact Nat.le_of_ble_eq_true rfl | (simp only [Nat.zero_add]; omega) | omega)⟩) hS (fun w_701 H locs hq_702 hP hS => ?_)
              have hk_704 : kp_at G w_701 h D ((σ.ke' (kw_L σ.sn b σ.ga i)).ke' ((kw_L σ.sn b σ.ga i).take (cd_L (kw_L σ.sn b σ.ga i) (kw_L σ.sn b σ.ga i).length))) := hkv.ofk hq_702.2 hq_702.1
              have hh_705 : w_701 h = some (1, .inr (cx_K, [.ref D.t, .ref D.a, .ref D.lv, .ref D.sn, .ref D.g, .ref D.k, .ref D.ne, .int (nI σ.sf), .int (bo_i σ.ib), .int (nI σ.sq), .int (nI σ.pr), .int (nI σ.mi)])) := hk_704.o
              refine lv_iinc (v := nI (i + 1)) (lv' := [(2, .int (nI (i + 1))), (3, .ref a1), (0, .ref h), (1, .int (bo_i b))]) hx hb de_K_keepWhatIsSeen_92 hl (k := 3) rfl (nx_inc i) (by decide) rfl (fun ls hl => ?_)
              refine lv_goto (tgt := 10) hx hb de_K_keepWhatIsSeen_95 (by decide) ?_
              have hk7 : kp_at G w_701 h D (σ.ke' (kw_L σ.sn b σ.ga (i + 1))) := by rw [kw_succ hx9, e1, kw_2, if_pos ⟨c_688, c_698⟩]; exact hk_704
              exact ih (i + 1) (by omega) (by omega) _ _ _ hk7 (hg.tr (kp_r hq_702.2 (by omega))) hP hS _ (lv_sub hl [2, 3, 0] rfl)
        · have e1 : kw_1 σ.sn σ.ga i x (kw_L σ.sn b σ.ga i) = kw_L σ.sn b σ.ga i ++ [x] := if_pos c_687
          refine lv_aload_n hx hb de_K_keepWhatIsSeen_52 rfl (lv_at hl 1 rfl) ?_
          refine dk_get (a := h) (v := .ref D.k) (C := kn_K) (T := kt_K) (N := 12) hx hb hts ki_K hown hK hP hh_666 rfl 5 (by decide) (hts _ wi_108) (fun _ h9 => h9) rfl de_K_keepWhatIsSeen_53 ?_
          refine lv_aload_n hx hb de_K_keepWhatIsSeen_56 rfl (lv_at hl 0 rfl) ?_
          obtain ⟨sl_706, _, hc_707, -⟩ := id hkv.k
          refine dk_callv (va_runV (As := [.ref a1]) (rest := []) ⟨hx, hb, hml, hown, hts⟩ (c_R_add l G v D.k 8 9 600 (kw_L σ.sn b σ.ga i) hkv.k (by omega) a1 x ha2 (by omega)) (cwV 1 hts (wd_gV (C := "RunKeeper$Row") wi_187 wi_465 wi_185 wi_186 wi_2) rfl rfl rfl (by decide +kernel) ⟨Nat.le_of_ble_eq_true rfl, Nat.le_of_ble_eq_true rfl⟩) (dk_preV (kn_R, kt_R, 2) hE hP hS hc_707 rfl) rfl rfl hl.1 rfl (lv_room (Nat.le_of_ble_eq_true rfl)) de_K_keepWhatIsSeen_57 ⟨(by first | exact Nat.le_of_ble_eq_true rfl | (simp only [Nat.zero_add]; omega) | omega), (by first | exact Nat.le_of_ble_eq_true rfl | (simp only [Nat.zero_add]; omega) | omega)⟩) hS (fun w_708 H locs hq_709 hP hS => ?_)
          have hk_711 : kp_at G w_708 h D ((σ.ke' (kw_L σ.sn b σ.ga i)).ke' (kw_L σ.sn b σ.ga i ++ [x])) := hkv.ofk hq_709.2 hq_709.1
          have hh_712 : w_708 h = some (1, .inr (cx_K, [.ref D.t, .ref D.a, .ref D.lv, .ref D.sn, .ref D.g, .ref D.k, .ref D.ne, .int (nI σ.sf), .int (bo_i σ.ib), .int (nI σ.sq), .int (nI σ.pr), .int (nI σ.mi)])) := hk_711.o
          have ha3 : en_at w_708 a1 x := ha2.fr hq_709.2 (by omega)
          obtain ⟨sl_713, _, hc_714, -⟩ := id hk_711.g
          refine lv_iload_n hx hb de_K_keepWhatIsSeen_60 rfl (lv_at hl 2 rfl) ?_
          refine bo_if_eq (b := b) (tgt := 92) hx hb de_K_keepWhatIsSeen_61 (by decide) (fun c_715 => ?_) (fun c_715 => ?_)
          · refine lv_iinc (v := nI (i + 1)) (lv' := [(2, .int (nI (i + 1))), (3, .ref a1), (0, .ref h), (1, .int (bo_i b))]) hx hb de_K_keepWhatIsSeen_92 hl (k := 3) rfl (nx_inc i) (by decide) rfl (fun ls hl => ?_)
            refine lv_goto (tgt := 10) hx hb de_K_keepWhatIsSeen_95 (by decide) ?_
            have hk7 : kp_at G w_708 h D (σ.ke' (kw_L σ.sn b σ.ga (i + 1))) := by rw [kw_succ hx9, e1, kw_2, if_neg (fun z => by rw [c_715] at z; exact absurd z.1 (by decide))]; exact hk_711
            exact ih (i + 1) (by omega) (by omega) _ _ _ hk7 (hg.tr (kp_r hq_709.2 (by omega))) hP hS _ (lv_sub hl [2, 3, 0] rfl)
          · refine lv_aload_n hx hb de_K_keepWhatIsSeen_64 rfl (lv_at hl 0 rfl) ?_
            refine lv_ifnull hx hb de_K_keepWhatIsSeen_65 ?_
            refine lv_aload_n hx hb de_K_keepWhatIsSeen_68 rfl (lv_at hl 0 rfl) ?_
            refine lv_aload_n hx hb de_K_keepWhatIsSeen_69 rfl (lv_at hl 1 rfl) ?_
            refine dk_get (a := h) (v := .ref D.g) (C := kn_K) (T := kt_K) (N := 12) hx hb hts ki_K hown hK hP hh_712 rfl 4 (by decide) (hts _ wi_107) (fun _ h9 => h9) rfl de_K_keepWhatIsSeen_70 ?_
            refine lv_iload_n hx hb de_K_keepWhatIsSeen_73 rfl (lv_at hl 3 rfl) ?_
            refine lv_iconst (v := nI 1) hx hb de_K_keepWhatIsSeen_74 (by decide) ?_
            refine nx_iadd (a := i) (b := 1) hx hb de_K_keepWhatIsSeen_75 ?_
            refine dk_callq (va_runV (As := [.int (nI (i + 1))]) (rest := [.ref a1]) ⟨hx, hb, hml, hown, hts⟩ (c_R_at l G w_708 D.g 6 7 600 σ.ga hk_711.g (nI (i + 1))) (cwV 1 hts (wd_gV (C := "RunKeeper$Row") wi_191 wi_516 wi_189 wi_190 wi_2) rfl rfl rfl (by decide +kernel) ⟨Nat.le_of_ble_eq_true rfl, Nat.le_of_ble_eq_true rfl⟩) (dk_preV (kn_R, kt_R, 2) hE hP hS hc_714 rfl) rfl rfl hl.1 rfl (lv_room (Nat.le_of_ble_eq_true rfl)) de_K_keepWhatIsSeen_76 ⟨(by first | exact Nat.le_of_ble_eq_true rfl | (simp only [Nat.zero_add]; omega) | omega), (by first | exact Nat.le_of_ble_eq_true rfl | (simp only [Nat.zero_add]; omega) | omega)⟩) hS (fun r_719 w_717 H locs hq_718 hP hS => ?_)
            have hq8 := at_q hq_718.2 (by omega)
            rw [at_on (by omega)] at hq8
            rw [hq_718.1] at hP
            refine dk_calli (va_runV (As := [va_rf r_719]) (rest := []) ⟨hx, hb, hml, hown, hts⟩ (c_E_hasKeyOfO l G w_708 a1 x ha3 hxo r_719 _ hq8 (fun y hy => hok y (List.mem_of_getElem? hy))) (cwV 1 hts (wd_gV (C := "RunKeeper$Entry") wi_552 wi_549 wi_550 wi_551 wi_14) rfl rfl rfl (by decide +kernel) ⟨Nat.le_of_ble_eq_true rfl, Nat.le_of_ble_eq_true rfl⟩) (dk_preV (kn_E, kt_E, 4) hE hP hS ha3 rfl) rfl rfl hl.1 rfl (lv_room (Nat.le_of_ble_eq_true rfl)) de_K_keepWhatIsSeen_79 ⟨(by first | exact Nat.le_of_ble_eq_true rfl | (simp only [Nat.zero_add]; omega) | omega), (by first | exact Nat.le_of_ble_eq_true rfl | (simp only [Nat.zero_add]; omega) | omega)⟩) hS (fun r_722 w_720 H locs hq_721 hP hS => ?_)
            obtain ⟨hr_723, he_724⟩ := hq_721
            subst hr_723
            rw [he_724] at hP
            refine bo_if_ne (b := (hk_o x σ.ga[i + 1]?)) (tgt := 92) hx hb de_K_keepWhatIsSeen_82 (by decide) (fun c_725 => ?_) (fun c_725 => ?_)
            · refine lv_iinc (v := nI (i + 1)) (lv' := [(2, .int (nI (i + 1))), (3, .ref a1), (0, .ref h), (1, .int (bo_i b))]) hx hb de_K_keepWhatIsSeen_92 hl (k := 3) rfl (nx_inc i) (by decide) rfl (fun ls hl => ?_)
              refine lv_goto (tgt := 10) hx hb de_K_keepWhatIsSeen_95 (by decide) ?_
              have hk7 : kp_at G w_708 h D (σ.ke' (kw_L σ.sn b σ.ga (i + 1))) := by rw [kw_succ hx9, e1, kw_2, if_neg (fun z => by rw [c_725] at z; exact absurd z.2 (by decide))]; exact hk_711
              exact ih (i + 1) (by omega) (by omega) _ _ _ hk7 (hg.tr (kp_r hq_709.2 (by omega))) hP hS _ (lv_sub hl [2, 3, 0] rfl)
            · refine lv_aload_n hx hb de_K_keepWhatIsSeen_85 rfl (lv_at hl 1 rfl) ?_
              refine dk_get (a := h) (v := .ref D.k) (C := kn_K) (T := kt_K) (N := 12) hx hb hts ki_K hown hK hP hh_712 rfl 5 (by decide) (hts _ wi_108) (fun _ h9 => h9) rfl de_K_keepWhatIsSeen_86 ?_
              obtain ⟨sl_726, _, hc_727, -⟩ := id hk_711.k
              refine dk_callv (va_runV (As := []) (rest := []) ⟨hx, hb, hml, hown, hts⟩ (c_R_cutDeletedTail l G w_708 D.k 8 9 600 _ hk_711.k (by omega)) (cwV 0 hts (wd_gV (C := "RunKeeper$Row") wi_560 wi_557 wi_558 wi_559 wi_2) rfl rfl rfl (by decide +kernel) ⟨Nat.le_of_ble_eq_true rfl, Nat.le_of_ble_eq_true rfl⟩) (dk_preV (kn_R, kt_R, 2) hE hP hS hc_727 rfl) rfl rfl hl.1 rfl (lv_room (Nat.le_of_ble_eq_true rfl)) de_K_keepWhatIsSeen_89 ⟨(by first | exact Nat.le_of_ble_eq_true rfl | (simp only [Nat.zero_add]; omega) | omega), (by first | exact Nat.le_of_ble_eq_true rfl | (simp only [Nat.zero_add]; omega) | omega)⟩) hS (fun w_728 H locs hq_729 hP hS => ?_)
              have hk_731 : kp_at G w_728 h D (((σ.ke' (kw_L σ.sn b σ.ga i)).ke' (kw_L σ.sn b σ.ga i ++ [x])).ke' ((kw_L σ.sn b σ.ga i ++ [x]).take (cd_L (kw_L σ.sn b σ.ga i ++ [x]) (kw_L σ.sn b σ.ga i ++ [x]).length))) := hk_711.ofk hq_729.2 hq_729.1
              have hh_732 : w_728 h = some (1, .inr (cx_K, [.ref D.t, .ref D.a, .ref D.lv, .ref D.sn, .ref D.g, .ref D.k, .ref D.ne, .int (nI σ.sf), .int (bo_i σ.ib), .int (nI σ.sq), .int (nI σ.pr), .int (nI σ.mi)])) := hk_731.o
              refine lv_iinc (v := nI (i + 1)) (lv' := [(2, .int (nI (i + 1))), (3, .ref a1), (0, .ref h), (1, .int (bo_i b))]) hx hb de_K_keepWhatIsSeen_92 hl (k := 3) rfl (nx_inc i) (by decide) rfl (fun ls hl => ?_)
              refine lv_goto (tgt := 10) hx hb de_K_keepWhatIsSeen_95 (by decide) ?_
              have hk7 : kp_at G w_728 h D (σ.ke' (kw_L σ.sn b σ.ga (i + 1))) := by rw [kw_succ hx9, e1, kw_2, if_pos ⟨c_715, c_725⟩]; exact hk_731
              exact ih (i + 1) (by omega) (by omega) _ _ _ hk7 (hg.tr (((kp_r hq_709.2 (by omega))).tr (kp_r hq_729.2 (by omega)))) hP hS _ (lv_sub hl [2, 3, 0] rfl)
  exact lp (σ.ga.length + 1) 0 (by omega) (Nat.zero_le _) _ _ _ hk_664 (kp_r hq_662.2 (by omega)) hP hS _ (lv_sub hl [1, 2, 0] rfl)
abbrev rm_K_mergeOnce (c : Nat) : Room := { frames := 9, cells := (5 * c), slots := (1579 * c), locals := 214 }
set_option maxHeartbeats 4000000 in
set_option maxRecDepth 100000 in
theorem c_K_mergeOnce0 (l : Launch) (G : dk_G) (w : dk_H) (h : Nat) (D : kp_D) (σ : kp_S) (hkp : kp_at G w h D σ) (h0 : mg_1 σ = none) : dk_Mi l my_K_mergeOnce (wd_c my_K_mergeOnce mb_K_mergeOnce 3 (some .boolean)) (rm_K_mergeOnce 0) G w [.ref h] (fun r w1 => r = bo_i false ∧ w1 = w) 0 0 := by
  refine dk_enter (lv := [(0, .ref h)]) (by decide) (Nat.le_of_ble_eq_true rfl) rfl (fun p e s m args below meth c ls Q hQ C hP hS hl => ?_)
  obtain ⟨hx, hb, hr, hml, hlocks, hown, hnm, hts, hE⟩ := C
  have hK := hE.1
  have hN := hE.2.1
  have hh_733 : w h = some (1, .inr (cx_K, [.ref D.t, .ref D.a, .ref D.lv, .ref D.sn, .ref D.g, .ref D.k, .ref D.ne, .int (nI σ.sf), .int (bo_i σ.ib), .int (nI σ.sq), .int (nI σ.pr), .int (nI σ.mi)])) := hkp.o
  refine lv_aload_n hx hb de_K_mergeOnce_0 rfl (lv_at hl 0 rfl) ?_
  refine dk_calli (va_runV (As := []) (rest := []) ⟨hx, hb, hml, hown, hts⟩ (c_K_leastLevelToMerge l G w h D σ hkp) (cwV 0 hts (wd_gV (C := "RunKeeper") wi_532 wi_529 wi_531 (wd_p (q := (⟨"RunKeeper", "leastLevelToMerge", "()I"⟩, 12)) (by decide +kernel) (by decide +kernel)) wi_1) rfl rfl rfl (by decide +kernel) ⟨Nat.le_of_ble_eq_true rfl, Nat.le_of_ble_eq_true rfl⟩) (dk_preV (kn_K, kt_K, 12) hE hP hS hh_733 rfl) rfl rfl hl.1 rfl (lv_room (Nat.le_of_ble_eq_true rfl)) de_K_mergeOnce_1 ⟨(by first | exact Nat.le_of_ble_eq_true rfl | (simp only [Nat.zero_add]; omega) | omega), (by first | exact Nat.le_of_ble_eq_true rfl | (simp only [Nat.zero_add]; omega) | omega)⟩) hS (fun r_736 w_734 H locs hq_735 hP hS => ?_)
  obtain ⟨hq1, hq2⟩ := hq_735
  rw [hq2] at hP
  rcases hq1 with ⟨j, hj5, hr9, hj4, hjn⟩ | ⟨hr9, hjn⟩
  · rw [mg_1, mg_js hj5 hj4 hjn] at h0
    cases h0
  · subst hr9
    refine lv_istore_n (lv' := [(1, .int (-1)), (0, .ref h)]) hx hb de_K_mergeOnce_4 rfl hl (by decide) rfl (fun ls hl => ?_)
    refine lv_iload_n hx hb de_K_mergeOnce_5 rfl (lv_at hl 0 rfl) ?_
    refine lv_if_ge (tgt := 11) hx hb de_K_mergeOnce_6 (by decide) (fun c_737 => ?_) (fun c_737 => ?_)
    · exact absurd c_737 (by decide)
    · refine lv_iconst (v := nI 0) hx hb de_K_mergeOnce_9 (by decide) ?_
      exact dk_zret hQ hx hb hr hlocks hP hS (Nat.le_refl _) (Nat.le_refl _) (by decide +kernel) (⟨bo_of0 rfl, rfl⟩) de_K_mergeOnce_10
set_option maxHeartbeats 4000000 in
set_option maxRecDepth 100000 in
theorem c_K_mergeOnce1 (l : Launch) (G : dk_G) (w : dk_H) (h : Nat) (D : kp_D) (σ : kp_S) (hkp : kp_at G w h D σ) (hc6 : kp_n σ ≤ 600) (σ1 : kp_S) (h0 : mg_1 σ = some σ1) : dk_Mi l my_K_mergeOnce (wd_c my_K_mergeOnce mb_K_mergeOnce 3 (some .boolean)) (rm_K_mergeOnce 1) G w [.ref h] (fun r w1 => r = bo_i true ∧ kp_at G w1 h D σ1 ∧ dk_fr kp_T w w1) 5 1579 := by
  unfold kp_n at hc6
  refine dk_enter (lv := [(0, .ref h)]) (by decide) (Nat.le_of_ble_eq_true rfl) rfl (fun p e s m args below meth c ls Q hQ C hP hS hl => ?_)
  obtain ⟨hx, hb, hr, hml, hlocks, hown, hnm, hts, hE⟩ := C
  have hK := hE.1
  have hN := hE.2.1
  have hh_738 : w h = some (1, .inr (cx_K, [.ref D.t, .ref D.a, .ref D.lv, .ref D.sn, .ref D.g, .ref D.k, .ref D.ne, .int (nI σ.sf), .int (bo_i σ.ib), .int (nI σ.sq), .int (nI σ.pr), .int (nI σ.mi)])) := hkp.o
  refine lv_aload_n hx hb de_K_mergeOnce_0 rfl (lv_at hl 0 rfl) ?_
  refine dk_calli (va_runV (As := []) (rest := []) ⟨hx, hb, hml, hown, hts⟩ (c_K_leastLevelToMerge l G w h D σ hkp) (cwV 0 hts (wd_gV (C := "RunKeeper") wi_532 wi_529 wi_531 (wd_p (q := (⟨"RunKeeper", "leastLevelToMerge", "()I"⟩, 12)) (by decide +kernel) (by decide +kernel)) wi_1) rfl rfl rfl (by decide +kernel) ⟨Nat.le_of_ble_eq_true rfl, Nat.le_of_ble_eq_true rfl⟩) (dk_preV (kn_K, kt_K, 12) hE hP hS hh_738 rfl) rfl rfl hl.1 rfl (lv_room (Nat.le_of_ble_eq_true rfl)) de_K_mergeOnce_1 ⟨(by first | exact Nat.le_of_ble_eq_true rfl | (simp only [Nat.zero_add]; omega) | omega), (by first | exact Nat.le_of_ble_eq_true rfl | (simp only [Nat.zero_add]; omega) | omega)⟩) hS (fun r_741 w_739 H locs hq_740 hP hS => ?_)
  obtain ⟨hq1, hq2⟩ := hq_740
  rw [hq2] at hP
  rcases hq1 with ⟨j, hj5, hr9, hj4, hjn⟩ | ⟨hr9, hjn⟩
  · have h9 : σ1 = mg_S σ j := by rw [mg_1, mg_js hj5 hj4 hjn] at h0; exact (Option.some.inj h0).symm
    have hL6 : (σ.lv (j + 1)).length < 600 := by have h1 := hkp.rl (i := j) (by omega); have h2 := hkp.rl (i := j + 1) (by omega); have h3 := lv_two σ.lv (j := j) (by omega); omega
    subst hr9
    refine lv_istore_n (lv' := [(1, .int (nI j)), (0, .ref h)]) hx hb de_K_mergeOnce_4 rfl hl (by decide) rfl (fun ls hl => ?_)
    refine lv_iload_n hx hb de_K_mergeOnce_5 rfl (lv_at hl 0 rfl) ?_
    refine nx_if_ge (a := j) (tgt := 11) hx hb (by omega) de_K_mergeOnce_6 (by decide) ?_
    have hjj : le_ct (σ.lv j) + le_ct (σ.lv (j + 1)) ≤ lv_ct σ.lv 6 := lv_two σ.lv (by omega)
    have hfl : (σ.lv j).flatten.length = le_ct (σ.lv j) := le_flat _
    have hso := so_st_len (σ.lv j).flatten
    have hmA : ∀ y ∈ mg_A σ j, en_ok y := mg_ok hkp (by omega)
    refine lv_aload_n hx hb de_K_mergeOnce_11 rfl (lv_at hl 1 rfl) ?_
    refine lv_iload_n hx hb de_K_mergeOnce_12 rfl (lv_at hl 0 rfl) ?_
    refine lv_iconst (v := nI 1) hx hb de_K_mergeOnce_13 (by decide) ?_
    refine nx_iadd (a := j) (b := 1) hx hb de_K_mergeOnce_14 ?_
    refine dk_calli (va_runV (As := [.int (nI (j + 1))]) (rest := []) ⟨hx, hb, hml, hown, hts⟩ (c_K_areEmptyFrom l G w h D σ hkp (j + 1) (by omega)) (cwV 1 hts (wd_gV (C := "RunKeeper") wi_540 wi_537 wi_539 (wd_p (q := (⟨"RunKeeper", "areEmptyFrom", "(I)Z"⟩, 12)) (by decide +kernel) (by decide +kernel)) wi_1) rfl rfl rfl (by decide +kernel) ⟨Nat.le_of_ble_eq_true rfl, Nat.le_of_ble_eq_true rfl⟩) (dk_preV (kn_K, kt_K, 12) hE hP hS hh_738 rfl) rfl rfl hl.1 rfl (lv_room (Nat.le_of_ble_eq_true rfl)) de_K_mergeOnce_15 ⟨(by first | exact Nat.le_of_ble_eq_true rfl | (simp only [Nat.zero_add]; omega) | omega), (by first | exact Nat.le_of_ble_eq_true rfl | (simp only [Nat.zero_add]; omega) | omega)⟩) hS (fun r_745 w_743 H locs hq_744 hP hS => ?_)
    obtain ⟨⟨b9, hb9, hb8⟩, hq3⟩ := hq_744
    rw [hq3] at hP
    subst hb9
    obtain rfl := mg_eb hb8
    refine lv_istore_n (lv' := [(2, .int (bo_i (mg_e σ.lv (j + 1)))), (1, .int (nI j)), (0, .ref h)]) hx hb de_K_mergeOnce_18 rfl hl (by decide) rfl (fun ls hl => ?_)
    refine lv_aload_n hx hb de_K_mergeOnce_19 rfl (lv_at hl 2 rfl) ?_
    refine dk_get (a := h) (v := .ref D.g) (C := kn_K) (T := kt_K) (N := 12) hx hb hts ki_K hown hK hP hh_738 rfl 4 (by decide) (hts _ wi_107) (fun _ h9 => h9) rfl de_K_mergeOnce_20 ?_
    refine lv_iconst (v := nI 0) hx hb de_K_mergeOnce_23 (by decide) ?_
    obtain ⟨sl_746, _, hc_747, -⟩ := id hkp.g
    refine dk_callv (va_runV (As := [.int (nI 0)]) (rest := []) ⟨hx, hb, hml, hown, hts⟩ (c_R_cutTo l G w D.g 6 7 600 σ.ga hkp.g (by omega) 0 (by decide)) (cwV 1 hts (wd_gV (C := "RunKeeper$Row") wi_279 wi_276 wi_277 wi_278 wi_2) rfl rfl rfl (by decide +kernel) ⟨Nat.le_of_ble_eq_true rfl, Nat.le_of_ble_eq_true rfl⟩) (dk_preV (kn_R, kt_R, 2) hE hP hS hc_747 rfl) rfl rfl hl.1 rfl (lv_room (Nat.le_of_ble_eq_true rfl)) de_K_mergeOnce_24 ⟨(by first | exact Nat.le_of_ble_eq_true rfl | (simp only [Nat.zero_add]; omega) | omega), (by first | exact Nat.le_of_ble_eq_true rfl | (simp only [Nat.zero_add]; omega) | omega)⟩) hS (fun w_748 H locs hq_749 hP hS => ?_)
    have hk_751 : kp_at G w_748 h D (σ.ga' (σ.ga.take 0)) := hkp.ofg hq_749.2 hq_749.1
    have hh_752 : w_748 h = some (1, .inr (cx_K, [.ref D.t, .ref D.a, .ref D.lv, .ref D.sn, .ref D.g, .ref D.k, .ref D.ne, .int (nI σ.sf), .int (bo_i σ.ib), .int (nI σ.sq), .int (nI σ.pr), .int (nI σ.mi)])) := hk_751.o
    refine lv_aload_n hx hb de_K_mergeOnce_27 rfl (lv_at hl 2 rfl) ?_
    refine dk_get (a := h) (v := .ref D.lv) (C := kn_K) (T := kt_K) (N := 12) hx hb hts ki_K hown hK hP hh_752 rfl 2 (by decide) (hts _ wi_105) (fun _ h9 => h9) rfl de_K_mergeOnce_28 ?_
    refine lv_iload_n hx hb de_K_mergeOnce_31 rfl (lv_at hl 1 rfl) ?_
    refine dk_aald (a := D.lv) (r := some (D.le j)) (C := dk_nL) hx hb hK hP hk_751.l rfl j rfl (by omega) (by omega) ((hk_751.v j (by omega)).1) de_K_mergeOnce_32 ?_
    obtain ⟨al_753, _, hc_754, -⟩ := id (hk_751.v j (by omega)).2
    refine lv_aload_n hx hb de_K_mergeOnce_33 rfl (lv_at hl 2 rfl) ?_
    refine dk_get (a := h) (v := .ref D.g) (C := kn_K) (T := kt_K) (N := 12) hx hb hts ki_K hown hK hP hh_752 rfl 4 (by decide) (hts _ wi_107) (fun _ h9 => h9) rfl de_K_mergeOnce_34 ?_
    refine dk_callv (va_runV (As := [.ref D.g]) (rest := []) ⟨hx, hb, hml, hown, hts⟩ (c_V_copyTo l G w_748 (D.le j) (20 + 3 * j) (σ.lv j) (hk_751.v j (by omega)).2 (by omega) D.g 6 7 600 (σ.ga.take 0) hk_751.g (by omega) (fun t z1 z2 => by unfold le_T at z2; omega) (by simp; omega)) (cwV 1 hts (wd_gV (C := "RunKeeper$Level") wi_300 wi_297 wi_298 wi_299 wi_4) rfl rfl rfl (by decide +kernel) ⟨Nat.le_of_ble_eq_true rfl, Nat.le_of_ble_eq_true rfl⟩) (dk_preV (kn_V, kt_V, 2) hE hP hS hc_754 rfl) rfl rfl hl.1 rfl (lv_room (Nat.le_of_ble_eq_true rfl)) de_K_mergeOnce_37 ⟨(by first | exact Nat.le_of_ble_eq_true rfl | (simp only [Nat.zero_add]; omega) | omega), (by first | exact Nat.le_of_ble_eq_true rfl | (simp only [Nat.zero_add]; omega) | omega)⟩) hS (fun w_755 H locs hq_756 hP hS => ?_)
    have hk_758 : kp_at G w_755 h D ((σ.ga' (σ.ga.take 0)).ga' (σ.ga.take 0 ++ (σ.lv j).flatten)) := hk_751.ofg hq_756.2 hq_756.1
    have hh_759 : w_755 h = some (1, .inr (cx_K, [.ref D.t, .ref D.a, .ref D.lv, .ref D.sn, .ref D.g, .ref D.k, .ref D.ne, .int (nI σ.sf), .int (bo_i σ.ib), .int (nI σ.sq), .int (nI σ.pr), .int (nI σ.mi)])) := hk_758.o
    refine lv_aload_n hx hb de_K_mergeOnce_40 rfl (lv_at hl 2 rfl) ?_
    refine dk_get (a := h) (v := .ref D.g) (C := kn_K) (T := kt_K) (N := 12) hx hb hts ki_K hown hK hP hh_759 rfl 4 (by decide) (hts _ wi_107) (fun _ h9 => h9) rfl de_K_mergeOnce_41 ?_
    obtain ⟨sl_760, _, hc_761, -⟩ := id hk_758.g
    refine dk_callv (va_runV (As := []) (rest := []) ⟨hx, hb, hml, hown, hts⟩ (c_R_sortAsRun l G w_755 D.g 6 7 600 (σ.ga.take 0 ++ (σ.lv j).flatten) hk_758.g (by omega) (fun y hy => hmA y (so_st_mem.mpr (by simpa using hy)))) (cwV 0 hts (wd_gV (C := "RunKeeper$Row") wi_159 wi_156 wi_157 wi_158 wi_2) rfl rfl rfl (by decide +kernel) ⟨Nat.le_of_ble_eq_true rfl, Nat.le_of_ble_eq_true rfl⟩) (dk_preV (kn_R, kt_R, 2) hE hP hS hc_761 rfl) rfl rfl hl.1 rfl (lv_room (Nat.le_of_ble_eq_true rfl)) de_K_mergeOnce_44 ⟨(by first | exact Nat.le_of_ble_eq_true rfl | (simp only [Nat.zero_add]; omega) | omega), (by first | exact Nat.le_of_ble_eq_true rfl | (simp only [Nat.zero_add]; omega) | omega)⟩) hS (fun w_762 H locs hq_763 hP hS => ?_)
    have hk_765 : kp_at G w_762 h D (((σ.ga' (σ.ga.take 0)).ga' (σ.ga.take 0 ++ (σ.lv j).flatten)).ga' (so_st (σ.ga.take 0 ++ (σ.lv j).flatten))) := hk_758.ofg hq_763.2 hq_763.1
    have hh_766 : w_762 h = some (1, .inr (cx_K, [.ref D.t, .ref D.a, .ref D.lv, .ref D.sn, .ref D.g, .ref D.k, .ref D.ne, .int (nI σ.sf), .int (bo_i σ.ib), .int (nI σ.sq), .int (nI σ.pr), .int (nI σ.mi)])) := hk_765.o
    have hk6 : kp_at G w_762 h D (σ.ga' (mg_A σ j)) := hk_765
    have hh_767 : w_762 h = some (1, .inr (cx_K, [.ref D.t, .ref D.a, .ref D.lv, .ref D.sn, .ref D.g, .ref D.k, .ref D.ne, .int (nI σ.sf), .int (bo_i σ.ib), .int (nI σ.sq), .int (nI σ.pr), .int (nI σ.mi)])) := hk6.o
    refine lv_aload_n hx hb de_K_mergeOnce_47 rfl (lv_at hl 2 rfl) ?_
    refine lv_iload_n hx hb de_K_mergeOnce_48 rfl (lv_at hl 0 rfl) ?_
    refine dk_callv (va_runV (As := [.int (bo_i (mg_e σ.lv (j + 1)))]) (rest := []) ⟨hx, hb, hml, hown, hts⟩ (c_K_keepWhatIsSeen l G w_762 h D (σ.ga' (mg_A σ j)) hk6 (mg_e σ.lv (j + 1)) hmA) (cwV 1 hts (wd_gV (C := "RunKeeper") wi_544 wi_541 wi_543 (wd_p (q := (⟨"RunKeeper", "keepWhatIsSeen", "(Z)V"⟩, 12)) (by decide +kernel) (by decide +kernel)) wi_1) rfl rfl rfl (by decide +kernel) ⟨Nat.le_of_ble_eq_true rfl, Nat.le_of_ble_eq_true rfl⟩) (dk_preV (kn_K, kt_K, 12) hE hP hS hh_767 rfl) rfl rfl hl.1 rfl (lv_room (Nat.le_of_ble_eq_true rfl)) de_K_mergeOnce_49 ⟨(by first | exact Nat.le_of_ble_eq_true rfl | (simp only [Nat.zero_add]; omega) | omega), (by first | exact Nat.le_of_ble_eq_true rfl | (simp only [Nat.zero_add]; omega) | omega)⟩) hS (fun w_768 H locs hq_769 hP hS => ?_)
    have hk_771 : kp_at G w_768 h D ((σ.ga' (mg_A σ j)).ke' (mg_K σ j)) := hq_769.1
    have hh_772 : w_768 h = some (1, .inr (cx_K, [.ref D.t, .ref D.a, .ref D.lv, .ref D.sn, .ref D.g, .ref D.k, .ref D.ne, .int (nI σ.sf), .int (bo_i σ.ib), .int (nI σ.sq), .int (nI σ.pr), .int (nI σ.mi)])) := hk_771.o
    have hKl : (mg_K σ j).length ≤ le_ct (σ.lv j) := Nat.le_trans (kw_len _ _ _ _) (by rw [mg_A, hso, hfl]; exact Nat.le_refl _)
    refine lv_aload_n hx hb de_K_mergeOnce_52 rfl (lv_at hl 2 rfl) ?_
    refine dk_get (a := h) (v := .ref D.lv) (C := kn_K) (T := kt_K) (N := 12) hx hb hts ki_K hown hK hP hh_772 rfl 2 (by decide) (hts _ wi_105) (fun _ h9 => h9) rfl de_K_mergeOnce_53 ?_
    refine lv_iload_n hx hb de_K_mergeOnce_56 rfl (lv_at hl 1 rfl) ?_
    refine dk_aald (a := D.lv) (r := some (D.le j)) (C := dk_nL) hx hb hK hP hk_771.l rfl j rfl (by omega) (by omega) ((hk_771.v j (by omega)).1) de_K_mergeOnce_57 ?_
    obtain ⟨al_773, _, hc_774, -⟩ := id (hk_771.v j (by omega)).2
    refine dk_callv (va_runV (As := []) (rest := []) ⟨hx, hb, hml, hown, hts⟩ (c_V_clear l G w_768 (D.le j) (20 + 3 * j) (σ.lv j) (hk_771.v j (by omega)).2 (by omega)) (cwV 0 hts (wd_gV (C := "RunKeeper$Level") wi_564 wi_561 wi_562 wi_563 wi_4) rfl rfl rfl (by decide +kernel) ⟨Nat.le_of_ble_eq_true rfl, Nat.le_of_ble_eq_true rfl⟩) (dk_preV (kn_V, kt_V, 2) hE hP hS hc_774 rfl) rfl rfl hl.1 rfl (lv_room (Nat.le_of_ble_eq_true rfl)) de_K_mergeOnce_58 ⟨(by first | exact Nat.le_of_ble_eq_true rfl | (simp only [Nat.zero_add]; omega) | omega), (by first | exact Nat.le_of_ble_eq_true rfl | (simp only [Nat.zero_add]; omega) | omega)⟩) hS (fun w_775 H locs hq_776 hP hS => ?_)
    have hk_778 : kp_at G w_775 h D (((σ.ga' (mg_A σ j)).ke' (mg_K σ j)).lv' (va_up σ.lv j ([]))) := hk_771.ofv (by omega) hq_776.2 hq_776.1
    have hh_779 : w_775 h = some (1, .inr (cx_K, [.ref D.t, .ref D.a, .ref D.lv, .ref D.sn, .ref D.g, .ref D.k, .ref D.ne, .int (nI σ.sf), .int (bo_i σ.ib), .int (nI σ.sq), .int (nI σ.pr), .int (nI σ.mi)])) := hk_778.o
    have hun : va_up σ.lv j [] (j + 1) = σ.lv (j + 1) := dk_un (by omega)
    refine lv_aload_n hx hb de_K_mergeOnce_61 rfl (lv_at hl 2 rfl) ?_
    refine lv_iload_n hx hb de_K_mergeOnce_62 rfl (lv_at hl 1 rfl) ?_
    refine lv_iconst (v := nI 1) hx hb de_K_mergeOnce_63 (by decide) ?_
    refine nx_iadd (a := j) (b := 1) hx hb de_K_mergeOnce_64 ?_
    refine lv_aload_n hx hb de_K_mergeOnce_65 rfl (lv_at hl 2 rfl) ?_
    refine dk_get (a := h) (v := .ref D.k) (C := kn_K) (T := kt_K) (N := 12) hx hb hts ki_K hown hK hP hh_779 rfl 5 (by decide) (hts _ wi_108) (fun _ h9 => h9) rfl de_K_mergeOnce_66 ?_
    refine dk_callv (va_runV (As := [.int (nI (j + 1)), .ref D.k]) (rest := []) ⟨hx, hb, hml, hown, hts⟩ (c_K_addRun l G w_775 h D _ hk_778 (j + 1) D.k 8 9 600 (mg_K σ j) (by omega) hk_778.k (by omega) (by show (va_up σ.lv j [] (j + 1)).length < 600; rw [hun]; exact hL6) (by show le_ct (va_up σ.lv j [] (j + 1)) + _ ≤ 600; rw [hun]; omega) (fun y hy => hmA y (kw_mem _ hy))) (cwV 2 hts (wd_gV (C := "RunKeeper") wi_167 wi_164 wi_166 (wd_p (q := (⟨"RunKeeper", "addRun", "(ILRunKeeper$Row;)V"⟩, 12)) (by decide +kernel) (by decide +kernel)) wi_1) rfl rfl rfl (by decide +kernel) ⟨Nat.le_of_ble_eq_true rfl, Nat.le_of_ble_eq_true rfl⟩) (dk_preV (kn_K, kt_K, 12) hE hP hS hh_779 rfl) rfl rfl hl.1 rfl (lv_room (Nat.le_of_ble_eq_true rfl)) de_K_mergeOnce_69 ⟨(by first | exact Nat.le_of_ble_eq_true rfl | (simp only [Nat.zero_add]; omega) | omega), (by first | exact Nat.le_of_ble_eq_true rfl | (simp only [Nat.zero_add]; omega) | omega)⟩) hS (fun w_780 H locs hq_781 hP hS => ?_)
    have hf9 : dk_fr kp_T _ _ := hq_781.2.mono (fun t z => by unfold kp_T; omega)
    refine lv_iconst (v := nI 1) hx hb de_K_mergeOnce_72 (by decide) ?_
    exact dk_zret hQ hx hb hr hlocks hP hS (by omega) (by omega) (by decide +kernel) (⟨bo_of1 rfl, by rw [h9]; exact hq_781.1, ((((((kp_r hq_749.2 (by omega))).tr (kp_r hq_756.2 (by omega))).tr (kp_r hq_763.2 (by omega))).tr (hq_769.2)).tr (kp_v (by omega) hq_776.2)).tr (hf9)⟩) de_K_mergeOnce_73
  · rw [mg_1, mg_jn hjn] at h0
    cases h0
