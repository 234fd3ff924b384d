/-! RunKeeper: looking (printed by gen/c_keep3.py) -/
abbrev mI (n : Nat) : Int32 := nI n - nI 1
theorem mI_0 {n : Nat} (hn : n < 2 ^ 31) (h : mI n < 0) : n = 0 := by
  cases n with
  | zero => rfl
  | succ j => exact absurd h (by rw [show mI (j + 1) = nI j from nI_s1 j]; exact nI_pos (by omega))
theorem mI_p {n : Nat} (h : ¬ mI n < 0) : ∃ j, n = j + 1 := by
  cases n with
  | zero => exact absurd nI_m1 h
  | succ j => exact ⟨j, rfl⟩
theorem rn_in {G : dk_G} {w : dk_H} {Rs : List (List en_T)} {r : Option Nat} {j : Nat} {R : List en_T} (h : rn_q G w Rs (nI j) r) (hj : j < 2 ^ 31) (hl : Rs.length < 2 ^ 31) (hR : Rs[j]? = some R) : ∃ a, r = some a ∧ rn_at G w a R := by
  have hjl := (List.getElem?_eq_some_iff.mp hR).1
  rcases h with ⟨-, h⟩ | ⟨i, S, a, h1, h2, h3, h4⟩
  · exact absurd (h j rfl hj) (by omega)
  · have hil := (List.getElem?_eq_some_iff.mp h2).1
    have e := (nI_eq hj (by omega)).mp h1
    subst e
    rw [hR] at h2
    cases h2
    exact ⟨a, h3, h4⟩
theorem lk_v0 {k u : Nat} {lv : Nat → List (List en_T)} {i : Nat} {q : Nat × Nat} (hi : i < 6) (h : (lk_l k u (lv i) (lv i).length q).1 = none) : lk_v k u lv (6 - i) q = lk_v k u lv (6 - (i + 1)) (lk_l k u (lv i) (lv i).length q).2 := by
  have e : 6 - i = (6 - (i + 1)) + 1 := by omega
  have e2 : 5 - (6 - (i + 1)) = i := by omega
  rw [e]
  simp only [lk_v, e2, h]
theorem lk_v1 {k u : Nat} {lv : Nat → List (List en_T)} {i : Nat} {q : Nat × Nat} {x : en_T} (hi : i < 6) (h : (lk_l k u (lv i) (lv i).length q).1 = some x) : lk_v k u lv (6 - i) q = (some x, (lk_l k u (lv i) (lv i).length q).2) := by
  have e : 6 - i = (6 - (i + 1)) + 1 := by omega
  have e2 : 5 - (6 - (i + 1)) = i := by omega
  rw [e]
  simp only [lk_v, e2, h]
/-- the sequence that a view is of: -1 is now -/
def vw_u (σ : kp_S) (k : Int32) : Option Nat := if k = -1 then some σ.sq else sn_g σ.sn k
theorem sn_gs {sn : Nat → Option Nat} {k : Int32} {u : Nat} (h : sn_g sn k = some u) : ∃ j, j < 6 ∧ k = nI j ∧ sn j = some u := by
  by_cases hk : k < 0
  · rw [sn_g1 hk] at h; cases h
  · obtain ⟨j, hj, e⟩ := nI_of hk
    subst e
    by_cases h6 : j < 6
    · rw [sn_g3 h6] at h
      exact ⟨j, h6, rfl, h⟩
    · rw [sn_g2 (by omega) hj] at h; cases h
theorem kp_at.nwx {G : dk_G} {w : dk_H} {h : Nat} {D : kp_D} {σ : kp_S} (H : kp_at G w h D σ) {f : Nat → Option en_T} (hf : ∀ i, i < 1024 → f i = σ.nw i) : kp_at G w h D (σ.nw' f) := ⟨H.o, H.t, H.a, H.l, H.v, H.s, H.g, H.k, H.n.ext hf, H.tk⟩
theorem nw_s (i : Nat) (nw : Nat → Option en_T) : ∀ j, j < 1024 → (fun j => if j < i + 1 then none else nw j) j = va_up (fun j => if j < i then none else nw j) i none j := by
  intro j _
  by_cases e : j = i
  · subst e
    rw [dk_us]
    exact if_pos (by omega)
  · rw [dk_un e]
    by_cases h : j < i
    · show (if j < i + 1 then none else nw j) = if j < i then none else nw j
      rw [if_pos h, if_pos (by omega)]
    · show (if j < i + 1 then none else nw j) = if j < i then none else nw j
      rw [if_neg h, if_neg (by omega)]
theorem nn_mem' {u k : Nat} : ∀ (L : List en_T) (f : Nat → Option en_T) {y : en_T}, L.foldl (nn_f u) f k = some y → y ∈ L ∨ f k = some y
  | [], f, y, h => Or.inr h
  | x :: L, f, y, h => by
    rw [List.foldl_cons] at h
    rcases nn_mem' L _ h with h1 | h1
    · exact Or.inl (List.mem_cons_of_mem _ h1)
    · unfold nn_f at h1
      split at h1
      · by_cases e : k = x.1
        · subst e
          rw [dk_us] at h1
          cases h1
          exact Or.inl List.mem_cons_self
        · rw [dk_un e] at h1
          exact Or.inr h1
      · exact Or.inr h1
theorem nn_mem {u k : Nat} (L : List en_T) {y : en_T} (h : nn_L u L k = some y) : y ∈ L := by
  rcases nn_mem' L _ h with h1 | h1
  · exact h1
  · cases h1
abbrev rm_K_probe : Room := { frames := 1, cells := 0, slots := 0, locals := 25 }
set_option maxHeartbeats 4000000 in
set_option maxRecDepth 100000 in
theorem c_K_probe (l : Launch) (G : dk_G) (w : dk_H) (h : Nat) (D : kp_D) (σ : kp_S) (hkp : kp_at G w h D σ) (a : Nat) (R : List en_T) (ha : rn_at G w a R) (k u : Nat) (hk0 : k < 2 ^ 31) (hu0 : u < 2 ^ 31) : dk_Mq l my_K_probe (wd_c my_K_probe mb_K_probe 4 (some (.object "RunKeeper$Entry"))) rm_K_probe G w [.ref h, .ref a, .int (nI k), .int (nI u)] (fun r w1 => en_q w1 r (la_L k u R) ∧ kp_at G w1 h D ((σ.pr' (pb_q k R (σ.pr, σ.mi)).1).mi' (pb_q k R (σ.pr, σ.mi)).2) ∧ dk_fr kp_T w w1) 0 0 := by
  obtain ⟨r9, fl9, f9, hac, hrw, -, -, hR0, hR6, hRk⟩ := id ha
  refine dk_enter (lv := [(0, .ref h), (1, .ref a), (2, .int (nI k)), (3, .int (nI u))]) (by decide) (Nat.le_of_ble_eq_true rfl) rfl (fun p e s m args below meth c ls Q hQ C hP hS hl => ?_)
  obtain ⟨hx, hb, hr, hml, hlocks, hown, hnm, hts, hE⟩ := C
  have hK := hE.1
  have hN := hE.2.1
  have hh_783 : w h = some (1, .inr (cx_K, [.ref D.t, .ref D.a, .ref D.lv, .ref D.sn, .ref D.g, .ref D.k, .ref D.ne, .int (nI σ.sf), .int (bo_i σ.ib), .int (nI σ.sq), .int (nI σ.pr), .int (nI σ.mi)])) := hkp.o
  refine lv_aload_n hx hb de_K_probe_0 rfl (lv_at hl 0 rfl) ?_
  refine lv_dup hx hb de_K_probe_1 rfl ?_
  refine dk_get (a := h) (v := .int (nI σ.pr)) (C := kn_K) (T := kt_K) (N := 12) hx hb hts ki_K hown hK hP hh_783 rfl 10 (by decide) (hts _ wi_113) (fun _ h9 => h9) rfl de_K_probe_2 ?_
  refine lv_iconst (v := nI 1) hx hb de_K_probe_5 (by decide) ?_
  refine nx_iadd (a := σ.pr) (b := 1) hx hb de_K_probe_6 ?_
  refine dk_put (a := h) (v := .int (nI (σ.pr + 1))) (ty := .int) (C := kn_K) (T := kt_K) (N := 12) hx hb hts ki_K ky_K kk_K kd_K hown hK hP hS hh_783 rfl 10 (by decide) (hts _ wi_113) (fun _ h9 => h9) rfl (by decide +kernel) rfl rfl (Nat.le_of_ble_eq_true rfl) de_K_probe_7 (fun H locs w_784 hw_785 hP hS => ?_)
  have h_786 : w_784 h = some (1, .inr (cx_K, [.ref D.t, .ref D.a, .ref D.lv, .ref D.sn, .ref D.g, .ref D.k, .ref D.ne, .int (nI σ.sf), .int (bo_i σ.ib), .int (nI σ.sq), .int (nI (σ.pr + 1)), .int (nI σ.mi)])) := dk_here hw_785
  have h_787 : w_784 D.lv = some (11, dk_ca G 4 6 D.lf) := dk_keep hw_785 hh_783 hkp.l (by decide)
  have h_788 : w_784 a = some (0, .inr (cx_U, [.ref r9, .ref fl9])) := dk_keep hw_785 hh_783 hac (by decide)
  have hf_789 : dk_fr (fun t => t = 1) w w_784 := ((dk_fr.up (T := fun t => t = 1) hh_783 rfl).eq hw_785)
  have hk_790 : kp_at G w_784 h D (σ.pr' (σ.pr + 1)) := hkp.ofo hf_789 h_786 rfl rfl rfl rfl rfl rfl rfl
  have hh_791 : w_784 h = some (1, .inr (cx_K, [.ref D.t, .ref D.a, .ref D.lv, .ref D.sn, .ref D.g, .ref D.k, .ref D.ne, .int (nI σ.sf), .int (bo_i σ.ib), .int (nI σ.sq), .int (nI (σ.pr + 1)), .int (nI σ.mi)])) := hk_790.o
  have hrw2 := hrw.fr hf_789 (by omega) (by omega) (by omega)
  refine lv_aload_n hx hb de_K_probe_10 rfl (lv_at hl 1 rfl) ?_
  refine dk_callq (va_runV (As := []) (rest := []) ⟨hx, hb, hml, hown, hts⟩ (c_U_entries l G w_784 a 0 r9 fl9 h_788) (cwV 0 hts (wd_gV (C := "RunKeeper$Run") wi_274 wi_651 wi_272 wi_273 wi_15) rfl rfl rfl (by decide +kernel) ⟨Nat.le_of_ble_eq_true rfl, Nat.le_of_ble_eq_true rfl⟩) (dk_preV (kn_U, kt_U, 2) hE hP hS h_788 rfl) rfl rfl hl.1 rfl (lv_room (Nat.le_of_ble_eq_true rfl)) de_K_probe_11 ⟨(by first | exact Nat.le_of_ble_eq_true rfl | (simp only [Nat.zero_add]; omega) | omega), (by first | exact Nat.le_of_ble_eq_true rfl | (simp only [Nat.zero_add]; omega) | omega)⟩) hS (fun r_794 w_792 H locs hq_793 hP hS => ?_)
  obtain ⟨hr8, hw8⟩ := hq_793
  subst hr8
  rw [hw8] at hP
  obtain ⟨sl_796, _, hc_795, -⟩ := id hrw2
  refine lv_iload_n hx hb de_K_probe_14 rfl (lv_at hl 2 rfl) ?_
  refine dk_calli (va_runV (As := [.int (nI k)]) (rest := []) ⟨hx, hb, hml, hown, hts⟩ (c_R_hasKey l G w_784 r9 0 0 R.length R hrw2 k hk0 hRk) (cwV 1 hts (wd_gV (C := "RunKeeper$Row") wi_655 wi_652 wi_653 wi_654 wi_2) rfl rfl rfl (by decide +kernel) ⟨Nat.le_of_ble_eq_true rfl, Nat.le_of_ble_eq_true rfl⟩) (dk_preV (kn_R, kt_R, 2) hE hP hS hc_795 rfl) rfl rfl hl.1 rfl (lv_room (Nat.le_of_ble_eq_true rfl)) de_K_probe_15 ⟨(by first | exact Nat.le_of_ble_eq_true rfl | (simp only [Nat.zero_add]; omega) | omega), (by first | exact Nat.le_of_ble_eq_true rfl | (simp only [Nat.zero_add]; omega) | omega)⟩) hS (fun r_799 w_797 H locs hq_798 hP hS => ?_)
  obtain ⟨hr_800, he_801⟩ := hq_798
  subst hr_800
  rw [he_801] at hP
  refine bo_if_ne (b := (R.any (fun x => decide (x.1 = k)))) (tgt := 31) hx hb de_K_probe_18 (by decide) (fun c_802 => ?_) (fun c_802 => ?_)
  · have e7 : (pb_q k R (σ.pr, σ.mi)).2 = σ.mi := if_pos c_802
    refine lv_aload_n hx hb de_K_probe_31 rfl (lv_at hl 1 rfl) ?_
    refine dk_callq (va_runV (As := []) (rest := []) ⟨hx, hb, hml, hown, hts⟩ (c_U_entries l G w_784 a 0 r9 fl9 h_788) (cwV 0 hts (wd_gV (C := "RunKeeper$Run") wi_274 wi_651 wi_272 wi_273 wi_15) rfl rfl rfl (by decide +kernel) ⟨Nat.le_of_ble_eq_true rfl, Nat.le_of_ble_eq_true rfl⟩) (dk_preV (kn_U, kt_U, 2) hE hP hS h_788 rfl) rfl rfl hl.1 rfl (lv_room (Nat.le_of_ble_eq_true rfl)) de_K_probe_32 ⟨(by first | exact Nat.le_of_ble_eq_true rfl | (simp only [Nat.zero_add]; omega) | omega), (by first | exact Nat.le_of_ble_eq_true rfl | (simp only [Nat.zero_add]; omega) | omega)⟩) hS (fun r_805 w_803 H locs hq_804 hP hS => ?_)
    obtain ⟨hr8, hw8⟩ := hq_804
    subst hr8
    rw [hw8] at hP
    obtain ⟨sl_807, _, hc_806, -⟩ := id hrw2
    refine lv_iload_n hx hb de_K_probe_35 rfl (lv_at hl 2 rfl) ?_
    refine lv_iload_n hx hb de_K_probe_36 rfl (lv_at hl 3 rfl) ?_
    refine dk_callq (va_runV (As := [.int (nI k), .int (nI u)]) (rest := []) ⟨hx, hb, hml, hown, hts⟩ (c_R_latestOf l G w_784 r9 0 0 R.length R hrw2 k u hk0 hu0 hRk) (cwV 2 hts (wd_gV (C := "RunKeeper$Row") wi_630 wi_627 wi_628 wi_629 wi_2) rfl rfl rfl (by decide +kernel) ⟨Nat.le_of_ble_eq_true rfl, Nat.le_of_ble_eq_true rfl⟩) (dk_preV (kn_R, kt_R, 2) hE hP hS hc_806 rfl) rfl rfl hl.1 rfl (lv_room (Nat.le_of_ble_eq_true rfl)) de_K_probe_37 ⟨(by first | exact Nat.le_of_ble_eq_true rfl | (simp only [Nat.zero_add]; omega) | omega), (by first | exact Nat.le_of_ble_eq_true rfl | (simp only [Nat.zero_add]; omega) | omega)⟩) hS (fun r_810 w_808 H locs hq_809 hP hS => ?_)
    rw [hq_809.2] at hP
    exact dk_aret (r := r_810) hQ hx hb hr (Or.inl ⟨_, rfl⟩) hlocks hP hS (Nat.le_refl _) (Nat.le_refl _) (⟨hq_809.1, by rw [e7]; exact hk_790, (kp_o hf_789)⟩) de_K_probe_40
  · have e7 : (pb_q k R (σ.pr, σ.mi)).2 = σ.mi + 1 := if_neg (fun z => by rw [c_802] at z; exact absurd z (by decide))
    refine lv_aload_n hx hb de_K_probe_21 rfl (lv_at hl 0 rfl) ?_
    refine lv_dup hx hb de_K_probe_22 rfl ?_
    refine dk_get (a := h) (v := .int (nI σ.mi)) (C := kn_K) (T := kt_K) (N := 12) hx hb hts ki_K hown hK hP hh_791 rfl 11 (by decide) (hts _ wi_114) (fun _ h9 => h9) rfl de_K_probe_23 ?_
    refine lv_iconst (v := nI 1) hx hb de_K_probe_26 (by decide) ?_
    refine nx_iadd (a := σ.mi) (b := 1) hx hb de_K_probe_27 ?_
    refine dk_put (a := h) (v := .int (nI (σ.mi + 1))) (ty := .int) (C := kn_K) (T := kt_K) (N := 12) hx hb hts ki_K ky_K kk_K kd_K hown hK hP hS hh_791 rfl 11 (by decide) (hts _ wi_114) (fun _ h9 => h9) rfl (by decide +kernel) rfl rfl (Nat.le_of_ble_eq_true rfl) de_K_probe_28 (fun H locs w_811 hw_812 hP hS => ?_)
    have h_813 : w_811 h = some (1, .inr (cx_K, [.ref D.t, .ref D.a, .ref D.lv, .ref D.sn, .ref D.g, .ref D.k, .ref D.ne, .int (nI σ.sf), .int (bo_i σ.ib), .int (nI σ.sq), .int (nI (σ.pr + 1)), .int (nI (σ.mi + 1))])) := dk_here hw_812
    have h_814 : w_811 a = some (0, .inr (cx_U, [.ref r9, .ref fl9])) := dk_keep hw_812 hh_791 h_788 (by decide)
    have h_815 : w_811 D.lv = some (11, dk_ca G 4 6 D.lf) := dk_keep hw_812 hh_791 hk_790.l (by decide)
    have h_816 : w_811 r9 = some (0, .inr (cx_R, [.ref sl_796, .int (nI R.length)])) := dk_keep hw_812 hh_791 hc_795 (by decide)
    have hf_817 : dk_fr (fun t => t = 1) w_784 w_811 := ((dk_fr.up (T := fun t => t = 1) hh_791 rfl).eq hw_812)
    have hk_818 : kp_at G w_811 h D ((σ.pr' (σ.pr + 1)).mi' (σ.mi + 1)) := hk_790.ofo hf_817 h_813 rfl rfl rfl rfl rfl rfl rfl
    have hh_819 : w_811 h = some (1, .inr (cx_K, [.ref D.t, .ref D.a, .ref D.lv, .ref D.sn, .ref D.g, .ref D.k, .ref D.ne, .int (nI σ.sf), .int (bo_i σ.ib), .int (nI σ.sq), .int (nI (σ.pr + 1)), .int (nI (σ.mi + 1))])) := hk_818.o
    have hrw3 := hrw2.fr hf_817 (by omega) (by omega) (by omega)
    refine lv_aload_n hx hb de_K_probe_31 rfl (lv_at hl 1 rfl) ?_
    refine dk_callq (va_runV (As := []) (rest := []) ⟨hx, hb, hml, hown, hts⟩ (c_U_entries l G w_811 a 0 r9 fl9 h_814) (cwV 0 hts (wd_gV (C := "RunKeeper$Run") wi_274 wi_651 wi_272 wi_273 wi_15) rfl rfl rfl (by decide +kernel) ⟨Nat.le_of_ble_eq_true rfl, Nat.le_of_ble_eq_true rfl⟩) (dk_preV (kn_U, kt_U, 2) hE hP hS h_814 rfl) rfl rfl hl.1 rfl (lv_room (Nat.le_of_ble_eq_true rfl)) de_K_probe_32 ⟨(by first | exact Nat.le_of_ble_eq_true rfl | (simp only [Nat.zero_add]; omega) | omega), (by first | exact Nat.le_of_ble_eq_true rfl | (simp only [Nat.zero_add]; omega) | omega)⟩) hS (fun r_822 w_820 H locs hq_821 hP hS => ?_)
    obtain ⟨hr8, hw8⟩ := hq_821
    subst hr8
    rw [hw8] at hP
    obtain ⟨sl_824, _, hc_823, -⟩ := id hrw3
    refine lv_iload_n hx hb de_K_probe_35 rfl (lv_at hl 2 rfl) ?_
    refine lv_iload_n hx hb de_K_probe_36 rfl (lv_at hl 3 rfl) ?_
    refine dk_callq (va_runV (As := [.int (nI k), .int (nI u)]) (rest := []) ⟨hx, hb, hml, hown, hts⟩ (c_R_latestOf l G w_811 r9 0 0 R.length R hrw3 k u hk0 hu0 hRk) (cwV 2 hts (wd_gV (C := "RunKeeper$Row") wi_630 wi_627 wi_628 wi_629 wi_2) rfl rfl rfl (by decide +kernel) ⟨Nat.le_of_ble_eq_true rfl, Nat.le_of_ble_eq_true rfl⟩) (dk_preV (kn_R, kt_R, 2) hE hP hS hc_823 rfl) rfl rfl hl.1 rfl (lv_room (Nat.le_of_ble_eq_true rfl)) de_K_probe_37 ⟨(by first | exact Nat.le_of_ble_eq_true rfl | (simp only [Nat.zero_add]; omega) | omega), (by first | exact Nat.le_of_ble_eq_true rfl | (simp only [Nat.zero_add]; omega) | omega)⟩) hS (fun r_827 w_825 H locs hq_826 hP hS => ?_)
    rw [hq_826.2] at hP
    exact dk_aret (r := r_827) hQ hx hb hr (Or.inl ⟨_, rfl⟩) hlocks hP hS (Nat.le_refl _) (Nat.le_refl _) (⟨hq_826.1, by rw [e7]; exact hk_818, ((kp_o hf_789)).tr (kp_o hf_817)⟩) de_K_probe_40
abbrev rm_K_lookInLevel : Room := { frames := 4, cells := 0, slots := 0, locals := 85 }
set_option maxHeartbeats 4000000 in
set_option maxRecDepth 100000 in
theorem c_K_lookInLevel (l : Launch) (G : dk_G) (w : dk_H) (h : Nat) (D : kp_D) (σ : kp_S) (hkp : kp_at G w h D σ) (i : Nat) (hi6 : i < 6) (k u : Nat) (hk0 : k < 2 ^ 31) (hu0 : u < 2 ^ 31) : dk_Mq l my_K_lookInLevel (wd_c my_K_lookInLevel mb_K_lookInLevel 7 (some (.object "RunKeeper$Entry"))) rm_K_lookInLevel G w [.ref h, .ref (D.le i), .int (nI k), .int (nI u)] (fun r w1 => en_q w1 r (lk_l k u (σ.lv i) (σ.lv i).length (σ.pr, σ.mi)).1 ∧ kp_at G w1 h D ((σ.pr' (lk_l k u (σ.lv i) (σ.lv i).length (σ.pr, σ.mi)).2.1).mi' (lk_l k u (σ.lv i) (σ.lv i).length (σ.pr, σ.mi)).2.2) ∧ dk_fr kp_T w w1) 0 0 := by
  have hl9 : (σ.lv i).length ≤ 600 := (hkp.v i hi6).2.choose_spec.choose_spec.2.2.2.1
  refine dk_enter (lv := [(0, .ref h), (1, .ref (D.le i)), (2, .int (nI k)), (3, .int (nI u))]) (by decide) (Nat.le_of_ble_eq_true rfl) rfl (fun p e s m args below meth c ls Q hQ C hP hS hl => ?_)
  obtain ⟨hx, hb, hr, hml, hlocks, hown, hnm, hts, hE⟩ := C
  have hK := hE.1
  have hN := hE.2.1
  have hh_828 : w h = some (1, .inr (cx_K, [.ref D.t, .ref D.a, .ref D.lv, .ref D.sn, .ref D.g, .ref D.k, .ref D.ne, .int (nI σ.sf), .int (bo_i σ.ib), .int (nI σ.sq), .int (nI σ.pr), .int (nI σ.mi)])) := hkp.o
  obtain ⟨al_829, _, hc_830, -⟩ := id (hkp.v i (by omega)).2
  refine lv_null hx hb de_K_lookInLevel_0 ?_
  refine lv_astoreN (lv' := [(4, .null), (0, .ref h), (1, .ref (D.le i)), (2, .int (nI k)), (3, .int (nI u))]) hx hb de_K_lookInLevel_1 hl (by decide) rfl (fun ls hl => ?_)
  refine lv_aload_n hx hb de_K_lookInLevel_3 rfl (lv_at hl 2 rfl) ?_
  refine dk_calli (va_runV (As := []) (rest := []) ⟨hx, hb, hml, hown, hts⟩ (c_V_runCount l G w (D.le i) (20 + 3 * i) (σ.lv i) (hkp.v i hi6).2) (cwV 0 hts (wd_gV (C := "RunKeeper$Level") wi_536 wi_533 wi_534 wi_535 wi_4) rfl rfl rfl (by decide +kernel) ⟨Nat.le_of_ble_eq_true rfl, Nat.le_of_ble_eq_true rfl⟩) (dk_preV (kn_V, kt_V, 2) hE hP hS hc_830 rfl) rfl rfl hl.1 rfl (lv_room (Nat.le_of_ble_eq_true rfl)) de_K_lookInLevel_4 ⟨(by first | exact Nat.le_of_ble_eq_true rfl | (simp only [Nat.zero_add]; omega) | omega), (by first | exact Nat.le_of_ble_eq_true rfl | (simp only [Nat.zero_add]; omega) | omega)⟩) hS (fun r_833 w_831 H locs hq_832 hP hS => ?_)
  obtain ⟨hr_834, he_835⟩ := hq_832
  subst hr_834
  rw [he_835] at hP
  refine lv_iconst (v := nI 1) hx hb de_K_lookInLevel_7 (by decide) ?_
  refine lv_isub hx hb de_K_lookInLevel_8 ?_
  refine lv_istore (lv' := [(5, .int (mI (σ.lv i).length)), (4, .null), (0, .ref h), (1, .ref (D.le i)), (2, .int (nI k)), (3, .int (nI u))]) hx hb de_K_lookInLevel_9 hl (by decide) rfl (fun ls hl => ?_)
  have lp : ∀ (zk : Nat) (n : Nat) (p9 : Nat) (m9 : Nat), n < zk → (n ≤ (σ.lv i).length) → (lk_l k u (σ.lv i) n (p9, m9) = (lk_l k u (σ.lv i) (σ.lv i).length (σ.pr, σ.mi))) → ∀ (H : Heap) (locs : List Loc) (v : dk_H), (kp_at G v h D ((σ.pr' p9).mi' m9)) → (dk_fr kp_T w v) → dk_P G v H → dk_S G s.heap H locs → ∀ (ls : Array Slot), lv_has ls 7 [(0, .ref h), (1, .ref (D.le i)), (2, .int (nI k)), (3, .int (nI u)), (4, .null), (5, .int (mI n))] → W p l e rm_K_lookInLevel s m args below meth c H locs (0 + 0) (0 + 0) Q (F0 m 11 ls []) := by
    intro zk
    induction zk with
    | zero =>
      intro n p9 m9 hk
      exact absurd hk (by omega)
    | succ zk ih =>
      intro n p9 m9 hk hn hres
      intro H locs v hkv hg hP hS
      intro ls hl
      have hh_836 : v h = some (1, .inr (cx_K, [.ref D.t, .ref D.a, .ref D.lv, .ref D.sn, .ref D.g, .ref D.k, .ref D.ne, .int (nI σ.sf), .int (bo_i σ.ib), .int (nI σ.sq), .int (nI p9), .int (nI m9)])) := hkv.o
      obtain ⟨al_837, _, hc_838, -⟩ := id (hkv.v i (by omega)).2
      refine lv_aloadN hx hb de_K_lookInLevel_11 (lv_at hl 4 rfl) ?_
      refine lv_ifnonnullN hx hb de_K_lookInLevel_13 ?_
      refine lv_iload hx hb de_K_lookInLevel_16 (lv_at hl 5 rfl) ?_
      refine lv_if_lt (tgt := 59) hx hb de_K_lookInLevel_18 (by decide) (fun c_840 => ?_) (fun c_840 => ?_)
      · have e9 : n = 0 := mI_0 (by omega) c_840
        subst e9
        have e8 : (lk_l k u (σ.lv i) (σ.lv i).length (σ.pr, σ.mi)) = (none, (p9, m9)) := hres.symm
        refine lv_aloadN hx hb de_K_lookInLevel_59 (lv_at hl 4 rfl) ?_
        exact dk_aret (r := none) hQ hx hb hr (Or.inl ⟨_, rfl⟩) hlocks hP hS (Nat.le_refl _) (Nat.le_refl _) (⟨by rw [e8]; rfl, by rw [e8]; exact hkv, hg⟩) de_K_lookInLevel_61
      · obtain ⟨j, hj⟩ := mI_p c_840
        subst hj
        rw [show mI (j + 1) = nI j from nI_s1 j] at hl
        obtain ⟨R, hR⟩ := ge_at (L := σ.lv i) (i := j) (by omega)
        refine lv_aload_n hx hb de_K_lookInLevel_21 rfl (lv_at hl 1 rfl) ?_
        refine lv_iload hx hb de_K_lookInLevel_22 (lv_at hl 5 rfl) ?_
        refine dk_callq (va_runV (As := [.int (nI j)]) (rest := []) ⟨hx, hb, hml, hown, hts⟩ (c_V_runAt l G v (D.le i) (20 + 3 * i) (σ.lv i) (hkv.v i hi6).2 (nI j)) (cwV 1 hts (wd_gV (C := "RunKeeper$Level") wi_638 wi_635 wi_636 wi_637 wi_4) rfl rfl rfl (by decide +kernel) ⟨Nat.le_of_ble_eq_true rfl, Nat.le_of_ble_eq_true rfl⟩) (dk_preV (kn_V, kt_V, 2) hE hP hS hc_838 rfl) rfl rfl hl.1 rfl (lv_room (Nat.le_of_ble_eq_true rfl)) de_K_lookInLevel_24 ⟨(by first | exact Nat.le_of_ble_eq_true rfl | (simp only [Nat.zero_add]; omega) | omega), (by first | exact Nat.le_of_ble_eq_true rfl | (simp only [Nat.zero_add]; omega) | omega)⟩) hS (fun r_843 w_841 H locs hq_842 hP hS => ?_)
        obtain ⟨a9, ha9, hrn⟩ := rn_in hq_842.1 (by omega) (by omega) hR
        rw [hq_842.2] at hP
        subst ha9
        obtain ⟨r9, fl9, f9, hac, -⟩ := id hrn
        refine lv_astore (lv' := [(6, .ref a9), (0, .ref h), (1, .ref (D.le i)), (2, .int (nI k)), (3, .int (nI u)), (4, .null), (5, .int (nI j))]) hx hb de_K_lookInLevel_27 hl (by decide) rfl (fun ls hl => ?_)
        refine lv_aload hx hb de_K_lookInLevel_29 (lv_at hl 0 rfl) ?_
        refine lv_ifnull hx hb de_K_lookInLevel_31 ?_
        refine lv_aload hx hb de_K_lookInLevel_34 (lv_at hl 0 rfl) ?_
        refine lv_iload_n hx hb de_K_lookInLevel_36 rfl (lv_at hl 3 rfl) ?_
        refine dk_calli (va_runV (As := [.int (nI k)]) (rest := []) ⟨hx, hb, hml, hown, hts⟩ (c_U_mayHave l G v a9 k R hrn hk0) (cwV 1 hts (wd_gV (C := "RunKeeper$Run") wi_642 wi_639 wi_640 wi_641 wi_15) rfl rfl rfl (by decide +kernel) ⟨Nat.le_of_ble_eq_true rfl, Nat.le_of_ble_eq_true rfl⟩) (dk_preV (kn_U, kt_U, 2) hE hP hS hac rfl) rfl rfl hl.1 rfl (lv_room (Nat.le_of_ble_eq_true rfl)) de_K_lookInLevel_37 ⟨(by first | exact Nat.le_of_ble_eq_true rfl | (simp only [Nat.zero_add]; omega) | omega), (by first | exact Nat.le_of_ble_eq_true rfl | (simp only [Nat.zero_add]; omega) | omega)⟩) hS (fun r_847 w_845 H locs hq_846 hP hS => ?_)
        obtain ⟨hr_848, he_849⟩ := hq_846
        subst hr_848
        rw [he_849] at hP
        refine bo_if_eq (b := (rn_m R k)) (tgt := 53) hx hb de_K_lookInLevel_40 (by decide) (fun c_850 => ?_) (fun c_850 => ?_)
        · refine lv_iinc (v := mI j) (lv' := [(5, .int (mI j)), (6, .ref a9), (0, .ref h), (1, .ref (D.le i)), (2, .int (nI k)), (3, .int (nI u)), (4, .null)]) hx hb de_K_lookInLevel_53 hl (k := 6) rfl (nI_p1 j) (by decide) rfl (fun ls hl => ?_)
          refine lv_goto (tgt := 11) hx hb de_K_lookInLevel_56 (by decide) ?_
          exact ih j p9 m9 (by omega) (by omega) (by rw [← hres, lk_no hR c_850]) _ _ _ hkv hg hP hS _ (lv_sub hl [2, 3, 4, 5, 6, 0] rfl)
        · refine lv_aload_n hx hb de_K_lookInLevel_43 rfl (lv_at hl 1 rfl) ?_
          refine lv_aload hx hb de_K_lookInLevel_44 (lv_at hl 0 rfl) ?_
          refine lv_iload_n hx hb de_K_lookInLevel_46 rfl (lv_at hl 3 rfl) ?_
          refine lv_iload_n hx hb de_K_lookInLevel_47 rfl (lv_at hl 4 rfl) ?_
          refine dk_callq (va_runV (As := [.ref a9, .int (nI k), .int (nI u)]) (rest := []) ⟨hx, hb, hml, hown, hts⟩ (c_K_probe l G v h D _ hkv a9 R hrn k u hk0 hu0) (cwV 3 hts (wd_gV (C := "RunKeeper") wi_650 wi_647 wi_649 (wd_p (q := (⟨"RunKeeper", "probe", "(LRunKeeper$Run;II)LRunKeeper$Entry;"⟩, 12)) (by decide +kernel) (by decide +kernel)) wi_1) rfl rfl rfl (by decide +kernel) ⟨Nat.le_of_ble_eq_true rfl, Nat.le_of_ble_eq_true rfl⟩) (dk_preV (kn_K, kt_K, 12) hE hP hS hh_836 rfl) rfl rfl hl.1 rfl (lv_room (Nat.le_of_ble_eq_true rfl)) de_K_lookInLevel_48 ⟨(by first | exact Nat.le_of_ble_eq_true rfl | (simp only [Nat.zero_add]; omega) | omega), (by first | exact Nat.le_of_ble_eq_true rfl | (simp only [Nat.zero_add]; omega) | omega)⟩) hS (fun r_853 w_851 H locs hq_852 hP hS => ?_)
          obtain ⟨hq1, hq2, hq3⟩ := hq_852
          rcases en_qc hq1 with ⟨hr9, hn9⟩ | ⟨a8, x8, hr9, hn9, ha8⟩
          · subst hr9
            refine lv_astoreN (lv' := [(4, .null), (6, .ref a9), (0, .ref h), (1, .ref (D.le i)), (2, .int (nI k)), (3, .int (nI u)), (5, .int (nI j))]) hx hb de_K_lookInLevel_51 hl (by decide) rfl (fun ls hl => ?_)
            refine lv_iinc (v := mI j) (lv' := [(5, .int (mI j)), (4, .null), (6, .ref a9), (0, .ref h), (1, .ref (D.le i)), (2, .int (nI k)), (3, .int (nI u))]) hx hb de_K_lookInLevel_53 hl (k := 6) rfl (nI_p1 j) (by decide) rfl (fun ls hl => ?_)
            refine lv_goto (tgt := 11) hx hb de_K_lookInLevel_56 (by decide) ?_
            exact ih j ((pb_q k R (p9, m9)).1) ((pb_q k R (p9, m9)).2) (by omega) (by omega) (by rw [← hres, lk_0 hR c_850 hn9]) _ _ _ hq2 (hg.tr hq3) hP hS _ (lv_sub hl [3, 4, 5, 6, 1, 0] rfl)
          · subst hr9
            refine lv_astore (lv' := [(4, .ref a8), (6, .ref a9), (0, .ref h), (1, .ref (D.le i)), (2, .int (nI k)), (3, .int (nI u)), (5, .int (nI j))]) hx hb de_K_lookInLevel_51 hl (by decide) rfl (fun ls hl => ?_)
            refine lv_iinc (v := mI j) (lv' := [(5, .int (mI j)), (4, .ref a8), (6, .ref a9), (0, .ref h), (1, .ref (D.le i)), (2, .int (nI k)), (3, .int (nI u))]) hx hb de_K_lookInLevel_53 hl (k := 6) rfl (nI_p1 j) (by decide) rfl (fun ls hl => ?_)
            refine lv_goto (tgt := 11) hx hb de_K_lookInLevel_56 (by decide) ?_
            refine lv_aload hx hb de_K_lookInLevel_11 (lv_at hl 1 rfl) ?_
            refine lv_ifnonnull (tgt := 59) hx hb de_K_lookInLevel_13 (by decide) ?_
            have e8 : (lk_l k u (σ.lv i) (σ.lv i).length (σ.pr, σ.mi)) = (some x8, (pb_q k R (p9, m9))) := by rw [← hres, lk_1 hR c_850 hn9]
            refine lv_aload hx hb de_K_lookInLevel_59 (lv_at hl 1 rfl) ?_
            exact dk_aret (r := some a8) hQ hx hb hr (Or.inl ⟨_, rfl⟩) hlocks hP hS (Nat.le_refl _) (Nat.le_refl _) (⟨by rw [e8]; exact ⟨a8, rfl, ha8⟩, by rw [e8]; exact hq2, hg.tr hq3⟩) de_K_lookInLevel_61
  exact lp ((σ.lv i).length + 1) ((σ.lv i).length) σ.pr σ.mi (by omega) (Nat.le_refl _) rfl _ _ _ hkp dk_fr.rf hP hS _ (lv_sub hl [2, 3, 4, 5, 1, 0] rfl)
abbrev rm_K_look : Room := { frames := 5, cells := 0, slots := 0, locals := 111 }
set_option maxHeartbeats 4000000 in
set_option maxRecDepth 100000 in
theorem c_K_look (l : Launch) (G : dk_G) (w : dk_H) (h : Nat) (D : kp_D) (σ : kp_S) (hkp : kp_at G w h D σ) (k u : Nat) (hk0 : k < 2 ^ 31) (hu0 : u < 2 ^ 31) : dk_Mq l my_K_look (wd_c my_K_look mb_K_look 5 (some (.object "RunKeeper$Entry"))) rm_K_look G w [.ref h, .int (nI k), .int (nI u)] (fun r w1 => en_q w1 r (lk_K σ k u).1 ∧ kp_at G w1 h D ((σ.pr' (lk_K σ k u).2.1).mi' (lk_K σ k u).2.2) ∧ dk_fr kp_T w w1) 0 0 := by
  refine dk_enter (lv := [(0, .ref h), (1, .int (nI k)), (2, .int (nI u))]) (by decide) (Nat.le_of_ble_eq_true rfl) rfl (fun p e s m args below meth c ls Q hQ C hP hS hl => ?_)
  obtain ⟨hx, hb, hr, hml, hlocks, hown, hnm, hts, hE⟩ := C
  have hK := hE.1
  have hN := hE.2.1
  have hh_855 : w h = some (1, .inr (cx_K, [.ref D.t, .ref D.a, .ref D.lv, .ref D.sn, .ref D.g, .ref D.k, .ref D.ne, .int (nI σ.sf), .int (bo_i σ.ib), .int (nI σ.sq), .int (nI σ.pr), .int (nI σ.mi)])) := hkp.o
  refine lv_aload_n hx hb de_K_look_0 rfl (lv_at hl 0 rfl) ?_
  refine lv_iconst (v := nI 0) hx hb de_K_look_1 (by decide) ?_
  refine dk_put (a := h) (v := .int (nI 0)) (ty := .int) (C := kn_K) (T := kt_K) (N := 12) hx hb hts ki_K ky_K kk_K kd_K hown hK hP hS hh_855 rfl 10 (by decide) (hts _ wi_113) (fun _ h9 => h9) rfl (by decide +kernel) rfl rfl (Nat.le_of_ble_eq_true rfl) de_K_look_2 (fun H locs w_856 hw_857 hP hS => ?_)
  have h_858 : w_856 h = some (1, .inr (cx_K, [.ref D.t, .ref D.a, .ref D.lv, .ref D.sn, .ref D.g, .ref D.k, .ref D.ne, .int (nI σ.sf), .int (bo_i σ.ib), .int (nI σ.sq), .int (nI 0), .int (nI σ.mi)])) := dk_here hw_857
  have h_859 : w_856 D.lv = some (11, dk_ca G 4 6 D.lf) := dk_keep hw_857 hh_855 hkp.l (by decide)
  refine lv_aload_n hx hb de_K_look_5 rfl (lv_at hl 0 rfl) ?_
  refine lv_iconst (v := nI 0) hx hb de_K_look_6 (by decide) ?_
  refine dk_put (a := h) (v := .int (nI 0)) (ty := .int) (C := kn_K) (T := kt_K) (N := 12) hx hb hts ki_K ky_K kk_K kd_K hown hK hP hS h_858 rfl 11 (by decide) (hts _ wi_114) (fun _ h9 => h9) rfl (by decide +kernel) rfl rfl (Nat.le_of_ble_eq_true rfl) de_K_look_7 (fun H locs w_860 hw_861 hP hS => ?_)
  have h_862 : w_860 h = some (1, .inr (cx_K, [.ref D.t, .ref D.a, .ref D.lv, .ref D.sn, .ref D.g, .ref D.k, .ref D.ne, .int (nI σ.sf), .int (bo_i σ.ib), .int (nI σ.sq), .int (nI 0), .int (nI 0)])) := dk_here hw_861
  have h_863 : w_860 D.lv = some (11, dk_ca G 4 6 D.lf) := dk_keep hw_861 h_858 h_859 (by decide)
  have hf_864 : dk_fr (fun t => t = 1) w w_860 := (((dk_fr.up (T := fun t => t = 1) hh_855 rfl).eq hw_857)).tr ((dk_fr.up (T := fun t => t = 1) h_858 rfl).eq hw_861)
  have hk_865 : kp_at G w_860 h D ((σ.pr' (0)).mi' (0)) := hkp.ofo hf_864 h_862 rfl rfl rfl rfl rfl rfl rfl
  have hh_866 : w_860 h = some (1, .inr (cx_K, [.ref D.t, .ref D.a, .ref D.lv, .ref D.sn, .ref D.g, .ref D.k, .ref D.ne, .int (nI σ.sf), .int (bo_i σ.ib), .int (nI σ.sq), .int (nI 0), .int (nI 0)])) := hk_865.o
  obtain ⟨sl_867, _, hc_868, -⟩ := id hk_865.t
  refine lv_aload_n hx hb de_K_look_10 rfl (lv_at hl 0 rfl) ?_
  refine dk_get (a := h) (v := .ref D.t) (C := kn_K) (T := kt_K) (N := 12) hx hb hts ki_K hown hK hP hh_866 rfl 0 (by decide) (hts _ wi_103) (fun _ h9 => h9) rfl de_K_look_11 ?_
  refine lv_iload_n hx hb de_K_look_14 rfl (lv_at hl 1 rfl) ?_
  refine lv_iload_n hx hb de_K_look_15 rfl (lv_at hl 2 rfl) ?_
  refine dk_callq (va_runV (As := [.int (nI k), .int (nI u)]) (rest := []) ⟨hx, hb, hml, hown, hts⟩ (c_R_latestOf l G w_860 D.t 2 3 40 σ.tb hk_865.t k u hk0 hu0 hkp.tk) (cwV 2 hts (wd_gV (C := "RunKeeper$Row") wi_630 wi_627 wi_628 wi_629 wi_2) rfl rfl rfl (by decide +kernel) ⟨Nat.le_of_ble_eq_true rfl, Nat.le_of_ble_eq_true rfl⟩) (dk_preV (kn_R, kt_R, 2) hE hP hS hc_868 rfl) rfl rfl hl.1 rfl (lv_room (Nat.le_of_ble_eq_true rfl)) de_K_look_16 ⟨(by first | exact Nat.le_of_ble_eq_true rfl | (simp only [Nat.zero_add]; omega) | omega), (by first | exact Nat.le_of_ble_eq_true rfl | (simp only [Nat.zero_add]; omega) | omega)⟩) hS (fun r_871 w_869 H locs hq_870 hP hS => ?_)
  obtain ⟨hq1, hq2⟩ := hq_870
  rw [hq2] at hP
  rcases en_qc hq1 with ⟨hr9, hn9⟩ | ⟨a8, x8, hr9, hn9, ha8⟩
  · subst hr9
    have e8 : (lk_K σ k u) = lk_v k u σ.lv 6 (0, 0) := by rw [lk_K, hn9]
    refine lv_astore_nN (lv' := [(3, .null), (0, .ref h), (1, .int (nI k)), (2, .int (nI u))]) hx hb de_K_look_19 rfl hl (by decide) rfl (fun ls hl => ?_)
    refine lv_iconst (v := nI 0) hx hb de_K_look_20 (by decide) ?_
    refine lv_istore (lv' := [(4, .int (nI 0)), (3, .null), (0, .ref h), (1, .int (nI k)), (2, .int (nI u))]) hx hb de_K_look_21 hl (by decide) rfl (fun ls hl => ?_)
    have lp : ∀ (zk : Nat) (i : Nat) (p9 : Nat) (m9 : Nat), 6 - i < zk → (i ≤ 6) → (lk_v k u σ.lv (6 - i) (p9, m9) = (lk_K σ k u)) → ∀ (H : Heap) (locs : List Loc) (v : dk_H), (kp_at G v h D ((σ.pr' p9).mi' m9)) → (dk_fr kp_T w v) → dk_P G v H → dk_S G s.heap H locs → ∀ (ls : Array Slot), lv_has ls 5 [(0, .ref h), (1, .int (nI k)), (2, .int (nI u)), (3, .null), (4, .int (nI i))] → W p l e rm_K_look s m args below meth c H locs (0 + 0) (0 + 0) Q (F0 m 23 ls []) := by
      intro zk
      induction zk with
      | zero =>
        intro i p9 m9 hk
        exact absurd hk (by omega)
      | succ zk ih =>
        intro i p9 m9 hk hi hres
        intro H locs v hkv hg hP hS
        intro ls hl
        have hh_873 : v h = some (1, .inr (cx_K, [.ref D.t, .ref D.a, .ref D.lv, .ref D.sn, .ref D.g, .ref D.k, .ref D.ne, .int (nI σ.sf), .int (bo_i σ.ib), .int (nI σ.sq), .int (nI p9), .int (nI m9)])) := hkv.o
        refine lv_aload_nN hx hb de_K_look_23 rfl (lv_at hl 3 rfl) ?_
        refine lv_ifnonnullN hx hb de_K_look_24 ?_
        refine lv_iload hx hb de_K_look_27 (lv_at hl 4 rfl) ?_
        refine lv_bipush (v := nI 6) hx hb de_K_look_29 (by decide) ?_
        refine nx_icmp_ge (a := i) (b := 6) (tgt := 54) hx hb (by omega) (by omega) de_K_look_31 (by decide) (fun c_875 => ?_) (fun c_875 => ?_)
        · have e9 : i = 6 := by omega
          subst e9
          have e7 : (lk_K σ k u) = (none, (p9, m9)) := hres.symm
          refine lv_aload_nN hx hb de_K_look_54 rfl (lv_at hl 3 rfl) ?_
          exact dk_aret (r := none) hQ hx hb hr (Or.inl ⟨_, rfl⟩) hlocks hP hS (Nat.le_refl _) (Nat.le_refl _) (⟨by rw [e7]; rfl, by rw [e7]; exact hkv, hg⟩) de_K_look_55
        · refine lv_aload_n hx hb de_K_look_34 rfl (lv_at hl 0 rfl) ?_
          refine lv_aload_n hx hb de_K_look_35 rfl (lv_at hl 0 rfl) ?_
          refine dk_get (a := h) (v := .ref D.lv) (C := kn_K) (T := kt_K) (N := 12) hx hb hts ki_K hown hK hP hh_873 rfl 2 (by decide) (hts _ wi_105) (fun _ h9 => h9) rfl de_K_look_36 ?_
          refine lv_iload hx hb de_K_look_39 (lv_at hl 4 rfl) ?_
          refine dk_aald (a := D.lv) (r := some (D.le i)) (C := dk_nL) hx hb hK hP hkv.l rfl i rfl (by omega) (by omega) ((hkv.v i (by omega)).1) de_K_look_41 ?_
          obtain ⟨al_876, _, hc_877, -⟩ := id (hkv.v i (by omega)).2
          refine lv_iload_n hx hb de_K_look_42 rfl (lv_at hl 1 rfl) ?_
          refine lv_iload_n hx hb de_K_look_43 rfl (lv_at hl 2 rfl) ?_
          refine dk_callq (va_runV (As := [.ref (D.le i), .int (nI k), .int (nI u)]) (rest := []) ⟨hx, hb, hml, hown, hts⟩ (c_K_lookInLevel l G v h D _ hkv i (by omega) k u hk0 hu0) (cwV 3 hts (wd_gV (C := "RunKeeper") wi_634 wi_631 wi_633 (wd_p (q := (⟨"RunKeeper", "lookInLevel", "(LRunKeeper$Level;II)LRunKeeper$Entry;"⟩, 12)) (by decide +kernel) (by decide +kernel)) wi_1) rfl rfl rfl (by decide +kernel) ⟨Nat.le_of_ble_eq_true rfl, Nat.le_of_ble_eq_true rfl⟩) (dk_preV (kn_K, kt_K, 12) hE hP hS hh_873 rfl) rfl rfl hl.1 rfl (lv_room (Nat.le_of_ble_eq_true rfl)) de_K_look_44 ⟨(by first | exact Nat.le_of_ble_eq_true rfl | (simp only [Nat.zero_add]; omega) | omega), (by first | exact Nat.le_of_ble_eq_true rfl | (simp only [Nat.zero_add]; omega) | omega)⟩) hS (fun r_880 w_878 H locs hq_879 hP hS => ?_)
          obtain ⟨hq1, hq2, hq3⟩ := hq_879
          rcases en_qc hq1 with ⟨hr9, hn9⟩ | ⟨a8, x8, hr9, hn9, ha8⟩
          · subst hr9
            refine lv_astore_nN (lv' := [(3, .null), (0, .ref h), (1, .int (nI k)), (2, .int (nI u)), (4, .int (nI i))]) hx hb de_K_look_47 rfl hl (by decide) rfl (fun ls hl => ?_)
            refine lv_iinc (v := nI (i + 1)) (lv' := [(4, .int (nI (i + 1))), (3, .null), (0, .ref h), (1, .int (nI k)), (2, .int (nI u))]) hx hb de_K_look_48 hl (k := 4) rfl (nx_inc i) (by decide) rfl (fun ls hl => ?_)
            refine lv_goto (tgt := 23) hx hb de_K_look_51 (by decide) ?_
            exact ih (i + 1) ((lk_l k u (σ.lv i) (σ.lv i).length (p9, m9)).2.1) ((lk_l k u (σ.lv i) (σ.lv i).length (p9, m9)).2.2) (by omega) (by omega) (by rw [← hres, lk_v0 (by omega) hn9]) _ _ _ hq2 (hg.tr hq3) hP hS _ (lv_sub hl [2, 3, 4, 1, 0] rfl)
          · subst hr9
            refine lv_astore_n (lv' := [(3, .ref a8), (0, .ref h), (1, .int (nI k)), (2, .int (nI u)), (4, .int (nI i))]) hx hb de_K_look_47 rfl hl (by decide) rfl (fun ls hl => ?_)
            refine lv_iinc (v := nI (i + 1)) (lv' := [(4, .int (nI (i + 1))), (3, .ref a8), (0, .ref h), (1, .int (nI k)), (2, .int (nI u))]) hx hb de_K_look_48 hl (k := 4) rfl (nx_inc i) (by decide) rfl (fun ls hl => ?_)
            refine lv_goto (tgt := 23) hx hb de_K_look_51 (by decide) ?_
            refine lv_aload_n hx hb de_K_look_23 rfl (lv_at hl 1 rfl) ?_
            refine lv_ifnonnull (tgt := 54) hx hb de_K_look_24 (by decide) ?_
            have e7 : (lk_K σ k u) = (some x8, (lk_l k u (σ.lv i) (σ.lv i).length (p9, m9)).2) := by rw [← hres, lk_v1 (by omega) hn9]
            refine lv_aload_n hx hb de_K_look_54 rfl (lv_at hl 1 rfl) ?_
            exact dk_aret (r := some a8) hQ hx hb hr (Or.inl ⟨_, rfl⟩) hlocks hP hS (Nat.le_refl _) (Nat.le_refl _) (⟨by rw [e7]; exact ⟨a8, rfl, ha8⟩, by rw [e7]; exact hq2, hg.tr hq3⟩) de_K_look_55
    exact lp 7 0 0 0 (by omega) (by omega) e8.symm _ _ _ hk_865 (kp_o hf_864) hP hS _ (lv_sub hl [2, 3, 4, 1, 0] rfl)
  · subst hr9
    refine lv_astore_n (lv' := [(3, .ref a8), (0, .ref h), (1, .int (nI k)), (2, .int (nI u))]) hx hb de_K_look_19 rfl hl (by decide) rfl (fun ls hl => ?_)
    refine lv_iconst (v := nI 0) hx hb de_K_look_20 (by decide) ?_
    refine lv_istore (lv' := [(4, .int (nI 0)), (3, .ref a8), (0, .ref h), (1, .int (nI k)), (2, .int (nI u))]) hx hb de_K_look_21 hl (by decide) rfl (fun ls hl => ?_)
    refine lv_aload_n hx hb de_K_look_23 rfl (lv_at hl 1 rfl) ?_
    refine lv_ifnonnull (tgt := 54) hx hb de_K_look_24 (by decide) ?_
    have e8 : (lk_K σ k u) = (some x8, (0, 0)) := by rw [lk_K, hn9]
    refine lv_aload_n hx hb de_K_look_54 rfl (lv_at hl 1 rfl) ?_
    exact dk_aret (r := some a8) hQ hx hb hr (Or.inl ⟨_, rfl⟩) hlocks hP hS (Nat.le_refl _) (Nat.le_refl _) (⟨by rw [e8]; exact ⟨a8, rfl, ha8⟩, by rw [e8]; exact hk_865, (kp_o hf_864)⟩) de_K_look_55
abbrev rm_K_sequenceOf : Room := { frames := 2, cells := 0, slots := 0, locals := 42 }
set_option maxHeartbeats 4000000 in
set_option maxRecDepth 100000 in
theorem c_K_sequenceOf (l : Launch) (G : dk_G) (w : dk_H) (h : Nat) (D : kp_D) (σ : kp_S) (hkp : kp_at G w h D σ) (k : Int32) (u : Nat) (hv : vw_u σ k = some u) : dk_Mi l my_K_sequenceOf (wd_c my_K_sequenceOf mb_K_sequenceOf 2 (some .int)) rm_K_sequenceOf G w [.ref h, .int k] (fun r w1 => r = nI u ∧ w1 = w) 0 0 := by
  refine dk_enter (lv := [(0, .ref h), (1, .int k)]) (by decide) (Nat.le_of_ble_eq_true rfl) rfl (fun p e s m args below meth c ls Q hQ C hP hS hl => ?_)
  obtain ⟨hx, hb, hr, hml, hlocks, hown, hnm, hts, hE⟩ := C
  have hK := hE.1
  have hN := hE.2.1
  have hh_882 : w h = some (1, .inr (cx_K, [.ref D.t, .ref D.a, .ref D.lv, .ref D.sn, .ref D.g, .ref D.k, .ref D.ne, .int (nI σ.sf), .int (bo_i σ.ib), .int (nI σ.sq), .int (nI σ.pr), .int (nI σ.mi)])) := hkp.o
  refine lv_iload_n hx hb de_K_sequenceOf_0 rfl (lv_at hl 1 rfl) ?_
  refine lv_iconst (v := (-1)) hx hb de_K_sequenceOf_1 (by decide) ?_
  refine lv_icmp_ne (tgt := 12) hx hb de_K_sequenceOf_2 (by decide) (fun c_883 => ?_) (fun c_883 => ?_)
  · rw [vw_u, if_neg c_883] at hv
    obtain ⟨j, hj6, rfl, hsj⟩ := sn_gs hv
    obtain ⟨a_884, a_885, _, _, hc_886, -⟩ := id hkp.s
    refine lv_aload_n hx hb de_K_sequenceOf_12 rfl (lv_at hl 0 rfl) ?_
    refine dk_get (a := h) (v := .ref D.sn) (C := kn_K) (T := kt_K) (N := 12) hx hb hts ki_K hown hK hP hh_882 rfl 3 (by decide) (hts _ wi_106) (fun _ h9 => h9) rfl de_K_sequenceOf_13 ?_
    refine lv_iload_n hx hb de_K_sequenceOf_16 rfl (lv_at hl 1 rfl) ?_
    refine dk_calli (va_runV (As := [.int (nI j)]) (rest := []) ⟨hx, hb, hml, hown, hts⟩ (c_S_sequenceAt l G w D.sn σ.sn hkp.s j u hj6 hsj) (cwV 1 hts (wd_gV (C := "RunKeeper$Snapshots") wi_622 wi_619 wi_620 wi_621 wi_3) rfl rfl rfl (by decide +kernel) ⟨Nat.le_of_ble_eq_true rfl, Nat.le_of_ble_eq_true rfl⟩) (dk_preV (kn_S, kt_S, 2) hE hP hS hc_886 rfl) rfl rfl hl.1 rfl (lv_room (Nat.le_of_ble_eq_true rfl)) de_K_sequenceOf_17 ⟨(by first | exact Nat.le_of_ble_eq_true rfl | (simp only [Nat.zero_add]; omega) | omega), (by first | exact Nat.le_of_ble_eq_true rfl | (simp only [Nat.zero_add]; omega) | omega)⟩) hS (fun r_889 w_887 H locs hq_888 hP hS => ?_)
    obtain ⟨hr_890, he_891⟩ := hq_888
    subst hr_890
    rw [he_891] at hP
    exact dk_iret hQ hx hb hr hlocks hP hS (Nat.le_refl _) (Nat.le_refl _) (⟨rfl, rfl⟩) de_K_sequenceOf_20
  · rw [vw_u, if_pos (by simpa using c_883)] at hv
    refine lv_aload_n hx hb de_K_sequenceOf_5 rfl (lv_at hl 0 rfl) ?_
    refine dk_get (a := h) (v := .int (nI σ.sq)) (C := kn_K) (T := kt_K) (N := 12) hx hb hts ki_K hown hK hP hh_882 rfl 9 (by decide) (hts _ wi_112) (fun _ h9 => h9) rfl de_K_sequenceOf_6 ?_
    refine lv_goto (tgt := 20) hx hb de_K_sequenceOf_9 (by decide) ?_
    exact dk_iret hQ hx hb hr hlocks hP hS (Nat.le_refl _) (Nat.le_refl _) (⟨by rw [Option.some.inj hv], rfl⟩) de_K_sequenceOf_20
abbrev rm_K_noteIfNewest : Room := { frames := 1, cells := 0, slots := 0, locals := 20 }
set_option maxHeartbeats 4000000 in
set_option maxRecDepth 100000 in
theorem c_K_noteIfNewest (l : Launch) (G : dk_G) (w : dk_H) (h : Nat) (D : kp_D) (σ : kp_S) (hkp : kp_at G w h D σ) (a : Nat) (x : en_T) (ha : en_at w a x) (hx0 : en_ok x) (u : Nat) (hu0 : u < 2 ^ 31) (hno : ∀ y, σ.nw x.1 = some y → en_ok y) : dk_Mv l my_K_noteIfNewest (wd_c my_K_noteIfNewest mb_K_noteIfNewest 4 none) rm_K_noteIfNewest G w [.ref h, .ref a, .int (nI u)] (fun w1 => kp_at G w1 h D (σ.nw' (nn_f u σ.nw x)) ∧ dk_fr kp_T w w1) 0 0 := by
  have hx1 := hx0.1
  have hx2 := hx0.2
  obtain ⟨nf, hnf, hne⟩ := id hkp.n
  refine dk_enter (lv := [(0, .ref h), (1, .ref a), (2, .int (nI u))]) (by decide) (Nat.le_of_ble_eq_true rfl) rfl (fun p e s m args below meth c ls Q hQ C hP hS hl => ?_)
  obtain ⟨hx, hb, hr, hml, hlocks, hown, hnm, hts, hE⟩ := C
  have hK := hE.1
  have hN := hE.2.1
  have hh_892 : w h = some (1, .inr (cx_K, [.ref D.t, .ref D.a, .ref D.lv, .ref D.sn, .ref D.g, .ref D.k, .ref D.ne, .int (nI σ.sf), .int (bo_i σ.ib), .int (nI σ.sq), .int (nI σ.pr), .int (nI σ.mi)])) := hkp.o
  refine lv_aload_n hx hb de_K_noteIfNewest_0 rfl (lv_at hl 1 rfl) ?_
  refine lv_ifnull hx hb de_K_noteIfNewest_1 ?_
  refine lv_aload_n hx hb de_K_noteIfNewest_4 rfl (lv_at hl 1 rfl) ?_
  refine dk_getN (a := a) (v := .int (nI x.2.1)) (C := kn_E) (T := kt_E) (N := 4) (host := "RunKeeper") hx hb hts ki_E hown hK hP ha rfl 1 (by decide) (hN.use (dn_m 450 (by decide +kernel) rfl)) (fun _ h9 => h9) rfl de_K_noteIfNewest_5 ?_
  refine lv_iload_n hx hb de_K_noteIfNewest_8 rfl (lv_at hl 2 rfl) ?_
  refine nx_icmp_gt (a := x.2.1) (b := u) (tgt := 22) hx hb (by omega) (by omega) de_K_noteIfNewest_9 (by decide) (fun c_894 => ?_) (fun c_894 => ?_)
  · exact dk_vret hQ hx hb hr hlocks hP hS (Nat.le_refl _) (Nat.le_refl _) (⟨by rw [nn_f, if_neg (fun z => absurd z.1 (by omega))]; exact hkp, dk_fr.rf⟩) de_K_noteIfNewest_22
  · refine lv_aload_n hx hb de_K_noteIfNewest_12 rfl (lv_at hl 1 rfl) ?_
    refine dk_getN (a := a) (v := .int (nI x.1)) (C := kn_E) (T := kt_E) (N := 4) (host := "RunKeeper") hx hb hts ki_E hown hK hP ha rfl 0 (by decide) (hN.use (dn_m 447 (by decide +kernel) rfl)) (fun _ h9 => h9) rfl de_K_noteIfNewest_13 ?_
    refine dk_calli (va_runS (As := [.int (nI x.1)]) (rest := []) ⟨hx, hb, hml, hown, hts⟩ (c_K_isKey l G w (nI x.1)) (va_cwS 1 hts (wd_gS wi_341 wi_339 wi_340 wi_1) rfl rfl rfl (by decide +kernel) ⟨Nat.le_of_ble_eq_true rfl, Nat.le_of_ble_eq_true rfl⟩) (dk_preS hE hP hS) rfl rfl hl.1 rfl (lv_room (Nat.le_of_ble_eq_true rfl)) de_K_noteIfNewest_16 ⟨(by first | exact Nat.le_of_ble_eq_true rfl | (simp only [Nat.zero_add]; omega) | omega), (by first | exact Nat.le_of_ble_eq_true rfl | (simp only [Nat.zero_add]; omega) | omega)⟩) hS (fun r_897 w_895 H locs hq_896 hP hS => ?_)
    rw [in_nat (by omega) (by decide)] at hq_896
    obtain ⟨hr_898, he_899⟩ := hq_896
    subst hr_898
    rw [he_899] at hP
    refine bo_if_ne (b := (decide (x.1 < 1024))) (tgt := 23) hx hb de_K_noteIfNewest_19 (by decide) (fun c_900 => ?_) (fun c_900 => ?_)
    · refine lv_aload_n hx hb de_K_noteIfNewest_23 rfl (lv_at hl 0 rfl) ?_
      refine dk_get (a := h) (v := .ref D.ne) (C := kn_K) (T := kt_K) (N := 12) hx hb hts ki_K hown hK hP hh_892 rfl 6 (by decide) (hts _ wi_109) (fun _ h9 => h9) rfl de_K_noteIfNewest_24 ?_
      refine lv_aload_n hx hb de_K_noteIfNewest_27 rfl (lv_at hl 1 rfl) ?_
      refine dk_getN (a := a) (v := .int (nI x.1)) (C := kn_E) (T := kt_E) (N := 4) (host := "RunKeeper") hx hb hts ki_E hown hK hP ha rfl 0 (by decide) (hN.use (dn_m 447 (by decide +kernel) rfl)) (fun _ h9 => h9) rfl de_K_noteIfNewest_28 ?_
      have hq := hne x.1 hx1
      rcases en_qc hq with ⟨hr9, hn9⟩ | ⟨b9, y9, hr9, hn9, hb9⟩
      · refine dk_aald (a := D.ne) (r := none) (C := dk_nE) hx hb hK hP hnf rfl x.1 rfl (by omega) (by omega) hr9 de_K_noteIfNewest_31 ?_
        refine lv_astore_nN (lv' := [(3, .null), (0, .ref h), (1, .ref a), (2, .int (nI u))]) hx hb de_K_noteIfNewest_32 rfl hl (by decide) rfl (fun ls hl => ?_)
        refine lv_aload_nN hx hb de_K_noteIfNewest_33 rfl (lv_at hl 0 rfl) ?_
        refine lv_ifnullN (tgt := 48) hx hb de_K_noteIfNewest_34 (by decide) ?_
        refine lv_aload_n hx hb de_K_noteIfNewest_48 rfl (lv_at hl 1 rfl) ?_
        refine dk_get (a := h) (v := .ref D.ne) (C := kn_K) (T := kt_K) (N := 12) hx hb hts ki_K hown hK hP hh_892 rfl 6 (by decide) (hts _ wi_109) (fun _ h9 => h9) rfl de_K_noteIfNewest_49 ?_
        refine lv_aload_n hx hb de_K_noteIfNewest_52 rfl (lv_at hl 2 rfl) ?_
        refine dk_getN (a := a) (v := .int (nI x.1)) (C := kn_E) (T := kt_E) (N := 4) (host := "RunKeeper") hx hb hts ki_E hown hK hP ha rfl 0 (by decide) (hN.use (dn_m 447 (by decide +kernel) rfl)) (fun _ h9 => h9) rfl de_K_noteIfNewest_53 ?_
        refine lv_aload_n hx hb de_K_noteIfNewest_56 rfl (lv_at hl 2 rfl) ?_
        refine dk_aast (a := D.ne) (v := a) (r := (kn_E, kt_E, 4)) hx hb hK hP hS hnf rfl ha rfl x.1 rfl (by omega) (by omega) de_K_noteIfNewest_57 (fun H locs w_902 hw_903 hP hS => ?_)
        have h_904 : w_902 D.ne = some (10, dk_ca G 3 1024 (va_up nf x.1 (some a))) := dk_here hw_903
        have h_905 : w_902 h = some (1, .inr (cx_K, [.ref D.t, .ref D.a, .ref D.lv, .ref D.sn, .ref D.g, .ref D.k, .ref D.ne, .int (nI σ.sf), .int (bo_i σ.ib), .int (nI σ.sq), .int (nI σ.pr), .int (nI σ.mi)])) := dk_keep hw_903 hnf hh_892 (by decide)
        have h_906 : w_902 D.lv = some (11, dk_ca G 4 6 D.lf) := dk_keep hw_903 hnf hkp.l (by decide)
        have h_907 : w_902 a = some (0, .inr (cx_E, [.int (nI x.1), .int (nI x.2.1), .long x.2.2.1, .int (bo_i x.2.2.2)])) := dk_keep hw_903 hnf ha (by decide)
        have hf9 : dk_fr (fun t => t = 10) w w_902 := (dk_fr.up (T := fun t => t = 10) hnf rfl).eq hw_903
        exact dk_vret hQ hx hb hr hlocks hP hS (Nat.le_refl _) (Nat.le_refl _) (⟨by rw [nn_f, if_pos ⟨by omega, by rw [hn9]; rfl⟩]; exact hkp.ofn hf9 (nw_at.put hne hf9 h_904 ha), hf9.mono (fun t z => by unfold kp_T; omega)⟩) de_K_noteIfNewest_58
      · have hyo := (hno y9 hn9).2
        refine dk_aald (a := D.ne) (r := some b9) (C := dk_nE) hx hb hK hP hnf rfl x.1 rfl (by omega) (by omega) hr9 de_K_noteIfNewest_31 ?_
        refine lv_astore_n (lv' := [(3, .ref b9), (0, .ref h), (1, .ref a), (2, .int (nI u))]) hx hb de_K_noteIfNewest_32 rfl hl (by decide) rfl (fun ls hl => ?_)
        refine lv_aload_n hx hb de_K_noteIfNewest_33 rfl (lv_at hl 0 rfl) ?_
        refine lv_ifnull hx hb de_K_noteIfNewest_34 ?_
        refine lv_aload_n hx hb de_K_noteIfNewest_37 rfl (lv_at hl 0 rfl) ?_
        refine dk_getN (a := b9) (v := .int (nI y9.2.1)) (C := kn_E) (T := kt_E) (N := 4) (host := "RunKeeper") hx hb hts ki_E hown hK hP hb9 rfl 1 (by decide) (hN.use (dn_m 450 (by decide +kernel) rfl)) (fun _ h9 => h9) rfl de_K_noteIfNewest_38 ?_
        refine lv_aload_n hx hb de_K_noteIfNewest_41 rfl (lv_at hl 2 rfl) ?_
        refine dk_getN (a := a) (v := .int (nI x.2.1)) (C := kn_E) (T := kt_E) (N := 4) (host := "RunKeeper") hx hb hts ki_E hown hK hP ha rfl 1 (by decide) (hN.use (dn_m 450 (by decide +kernel) rfl)) (fun _ h9 => h9) rfl de_K_noteIfNewest_42 ?_
        refine nx_icmp_ge (a := y9.2.1) (b := x.2.1) (tgt := 58) hx hb (by omega) (by omega) de_K_noteIfNewest_45 (by decide) (fun c_909 => ?_) (fun c_909 => ?_)
        · exact dk_vret hQ hx hb hr hlocks hP hS (Nat.le_refl _) (Nat.le_refl _) (⟨by rw [nn_f, if_neg (fun z => absurd z.2 (by rw [hn9]; simp; omega))]; exact hkp, dk_fr.rf⟩) de_K_noteIfNewest_58
        · refine lv_aload_n hx hb de_K_noteIfNewest_48 rfl (lv_at hl 1 rfl) ?_
          refine dk_get (a := h) (v := .ref D.ne) (C := kn_K) (T := kt_K) (N := 12) hx hb hts ki_K hown hK hP hh_892 rfl 6 (by decide) (hts _ wi_109) (fun _ h9 => h9) rfl de_K_noteIfNewest_49 ?_
          refine lv_aload_n hx hb de_K_noteIfNewest_52 rfl (lv_at hl 2 rfl) ?_
          refine dk_getN (a := a) (v := .int (nI x.1)) (C := kn_E) (T := kt_E) (N := 4) (host := "RunKeeper") hx hb hts ki_E hown hK hP ha rfl 0 (by decide) (hN.use (dn_m 447 (by decide +kernel) rfl)) (fun _ h9 => h9) rfl de_K_noteIfNewest_53 ?_
          refine lv_aload_n hx hb de_K_noteIfNewest_56 rfl (lv_at hl 2 rfl) ?_
          refine dk_aast (a := D.ne) (v := a) (r := (kn_E, kt_E, 4)) hx hb hK hP hS hnf rfl ha rfl x.1 rfl (by omega) (by omega) de_K_noteIfNewest_57 (fun H locs w_910 hw_911 hP hS => ?_)
          have h_912 : w_910 D.ne = some (10, dk_ca G 3 1024 (va_up nf x.1 (some a))) := dk_here hw_911
          have h_913 : w_910 h = some (1, .inr (cx_K, [.ref D.t, .ref D.a, .ref D.lv, .ref D.sn, .ref D.g, .ref D.k, .ref D.ne, .int (nI σ.sf), .int (bo_i σ.ib), .int (nI σ.sq), .int (nI σ.pr), .int (nI σ.mi)])) := dk_keep hw_911 hnf hh_892 (by decide)
          have h_914 : w_910 D.lv = some (11, dk_ca G 4 6 D.lf) := dk_keep hw_911 hnf hkp.l (by decide)
          have h_915 : w_910 a = some (0, .inr (cx_E, [.int (nI x.1), .int (nI x.2.1), .long x.2.2.1, .int (bo_i x.2.2.2)])) := dk_keep hw_911 hnf ha (by decide)
          have h_916 : w_910 b9 = some (0, .inr (cx_E, [.int (nI y9.1), .int (nI y9.2.1), .long y9.2.2.1, .int (bo_i y9.2.2.2)])) := dk_keep hw_911 hnf hb9 (by decide)
          have hf9 : dk_fr (fun t => t = 10) w w_910 := (dk_fr.up (T := fun t => t = 10) hnf rfl).eq hw_911
          exact dk_vret hQ hx hb hr hlocks hP hS (Nat.le_refl _) (Nat.le_refl _) (⟨by rw [nn_f, if_pos ⟨by omega, by rw [hn9]; simp; omega⟩]; exact hkp.ofn hf9 (nw_at.put hne hf9 h_912 ha), hf9.mono (fun t z => by unfold kp_T; omega)⟩) de_K_noteIfNewest_58
    · exact absurd c_900 (by simp [hx1])
abbrev rm_K_noteNewestOfKeys : Room := { frames := 5, cells := 0, slots := 0, locals := 107 }
set_option maxHeartbeats 4000000 in
set_option maxRecDepth 100000 in
theorem c_K_noteNewestOfKeys (l : Launch) (G : dk_G) (w : dk_H) (h : Nat) (D : kp_D) (σ : kp_S) (hkp : kp_at G w h D σ) (u : Nat) (hu0 : u < 2 ^ 31) (hc6 : kp_n σ ≤ 600) : dk_Mv l my_K_noteNewestOfKeys (wd_c my_K_noteNewestOfKeys mb_K_noteNewestOfKeys 3 none) rm_K_noteNewestOfKeys G w [.ref h, .int (nI u)] (fun w1 => kp_at G w1 h D ((σ.ga' (σ.tb ++ lv_fl σ.lv 6)).nw' (nn_L u (σ.tb ++ lv_fl σ.lv 6))) ∧ dk_fr kp_T w w1) 0 0 := by
  have hgl : (σ.tb ++ lv_fl σ.lv 6).length ≤ 600 := by rw [List.length_append, lv_fl_len]; exact hc6
  have hok := ga_ok hkp
  refine dk_enter (lv := [(0, .ref h), (1, .int (nI u))]) (by decide) (Nat.le_of_ble_eq_true rfl) rfl (fun p e s m args below meth c ls Q hQ C hP hS hl => ?_)
  obtain ⟨hx, hb, hr, hml, hlocks, hown, hnm, hts, hE⟩ := C
  have hK := hE.1
  have hN := hE.2.1
  have hh_917 : w h = some (1, .inr (cx_K, [.ref D.t, .ref D.a, .ref D.lv, .ref D.sn, .ref D.g, .ref D.k, .ref D.ne, .int (nI σ.sf), .int (bo_i σ.ib), .int (nI σ.sq), .int (nI σ.pr), .int (nI σ.mi)])) := hkp.o
  refine lv_iconst (v := nI 0) hx hb de_K_noteNewestOfKeys_0 (by decide) ?_
  refine lv_istore_n (lv' := [(2, .int (nI 0)), (0, .ref h), (1, .int (nI u))]) hx hb de_K_noteNewestOfKeys_1 rfl hl (by decide) rfl (fun ls hl => ?_)
  have lp : ∀ (zk : Nat) (i : Nat), 1024 - i < zk → (i ≤ 1024) → ∀ (H : Heap) (locs : List Loc) (v : dk_H), (kp_at G v h D (σ.nw' (fun j => if j < i then none else σ.nw j))) → (dk_fr kp_T w v) → dk_P G v H → dk_S G s.heap H locs → ∀ (ls : Array Slot), lv_has ls 3 [(0, .ref h), (1, .int (nI u)), (2, .int (nI i))] → W p l e rm_K_noteNewestOfKeys s m args below meth c H locs 0 0 Q (F0 m 2 ls []) := by
    intro zk
    induction zk with
    | zero =>
      intro i hk
      exact absurd hk (by omega)
    | succ zk ih =>
      intro i hk hi
      intro H locs v hkv hg hP hS
      intro ls hl
      have hh_918 : v h = some (1, .inr (cx_K, [.ref D.t, .ref D.a, .ref D.lv, .ref D.sn, .ref D.g, .ref D.k, .ref D.ne, .int (nI σ.sf), .int (bo_i σ.ib), .int (nI σ.sq), .int (nI σ.pr), .int (nI σ.mi)])) := hkv.o
      refine lv_iload_n hx hb de_K_noteNewestOfKeys_2 rfl (lv_at hl 2 rfl) ?_
      refine lv_sipush (v := nI 1024) hx hb de_K_noteNewestOfKeys_3 (by decide) ?_
      refine nx_icmp_ge (a := i) (b := 1024) (tgt := 22) hx hb (by omega) (by omega) de_K_noteNewestOfKeys_6 (by decide) (fun c_919 => ?_) (fun c_919 => ?_)
      · have e9 : i = 1024 := by omega
        subst e9
        have hk8 : kp_at G v h D (σ.nw' (fun _ => none)) := hkv.nwx (fun j hj => (if_pos hj).symm)
        have hh_925 : v h = some (1, .inr (cx_K, [.ref D.t, .ref D.a, .ref D.lv, .ref D.sn, .ref D.g, .ref D.k, .ref D.ne, .int (nI σ.sf), .int (bo_i σ.ib), .int (nI σ.sq), .int (nI σ.pr), .int (nI σ.mi)])) := hk8.o
        refine lv_aload_n hx hb de_K_noteNewestOfKeys_22 rfl (lv_at hl 0 rfl) ?_
        refine dk_callv (va_runV (As := []) (rest := []) ⟨hx, hb, hml, hown, hts⟩ (c_K_gatherEverything l G v h D _ hk8 hc6) (cwV 0 hts (wd_gV (C := "RunKeeper") wi_295 wi_292 wi_294 (wd_p (q := (⟨"RunKeeper", "gatherEverything", "()V"⟩, 12)) (by decide +kernel) (by decide +kernel)) wi_1) rfl rfl rfl (by decide +kernel) ⟨Nat.le_of_ble_eq_true rfl, Nat.le_of_ble_eq_true rfl⟩) (dk_preV (kn_K, kt_K, 12) hE hP hS hh_925 rfl) rfl rfl hl.1 rfl (lv_room (Nat.le_of_ble_eq_true rfl)) de_K_noteNewestOfKeys_23 ⟨(by first | exact Nat.le_of_ble_eq_true rfl | (simp only [Nat.zero_add]; omega) | omega), (by first | exact Nat.le_of_ble_eq_true rfl | (simp only [Nat.zero_add]; omega) | omega)⟩) hS (fun w_926 H locs hq_927 hP hS => ?_)
        have hk_929 : kp_at G w_926 h D ((σ.nw' (fun _ => none)).ga' (σ.tb ++ lv_fl σ.lv 6)) := hq_927.1
        have hh_930 : w_926 h = some (1, .inr (cx_K, [.ref D.t, .ref D.a, .ref D.lv, .ref D.sn, .ref D.g, .ref D.k, .ref D.ne, .int (nI σ.sf), .int (bo_i σ.ib), .int (nI σ.sq), .int (nI σ.pr), .int (nI σ.mi)])) := hk_929.o
        refine lv_iconst (v := nI 0) hx hb de_K_noteNewestOfKeys_26 (by decide) ?_
        refine lv_istore_n (lv' := [(2, .int (nI 0)), (0, .ref h), (1, .int (nI u))]) hx hb de_K_noteNewestOfKeys_27 rfl hl (by decide) rfl (fun ls hl => ?_)
        have lp2 : ∀ (zk2 : Nat) (i2 : Nat), (σ.tb ++ lv_fl σ.lv 6).length - i2 < zk2 → (i2 ≤ (σ.tb ++ lv_fl σ.lv 6).length) → ∀ (H : Heap) (locs : List Loc) (v2 : dk_H), (kp_at G v2 h D ((σ.ga' (σ.tb ++ lv_fl σ.lv 6)).nw' (nn_L u ((σ.tb ++ lv_fl σ.lv 6).take i2)))) → (dk_fr kp_T w v2) → dk_P G v2 H → dk_S G s.heap H locs → ∀ (ls : Array Slot), lv_has ls 3 [(0, .ref h), (1, .int (nI u)), (2, .int (nI i2))] → W p l e rm_K_noteNewestOfKeys s m args below meth c H locs (0 + 0) (0 + 0) Q (F0 m 28 ls []) := by
          intro zk2
          induction zk2 with
          | zero =>
            intro i2 hk
            exact absurd hk (by omega)
          | succ zk2 ih2 =>
            intro i2 hk hi2
            intro H locs v2 hkv2 hg2 hP hS
            intro ls hl
            have hh_931 : v2 h = some (1, .inr (cx_K, [.ref D.t, .ref D.a, .ref D.lv, .ref D.sn, .ref D.g, .ref D.k, .ref D.ne, .int (nI σ.sf), .int (bo_i σ.ib), .int (nI σ.sq), .int (nI σ.pr), .int (nI σ.mi)])) := hkv2.o
            obtain ⟨sl_932, _, hc_933, -⟩ := id hkv2.g
            refine lv_iload_n hx hb de_K_noteNewestOfKeys_28 rfl (lv_at hl 2 rfl) ?_
            refine lv_aload_n hx hb de_K_noteNewestOfKeys_29 rfl (lv_at hl 0 rfl) ?_
            refine dk_get (a := h) (v := .ref D.g) (C := kn_K) (T := kt_K) (N := 12) hx hb hts ki_K hown hK hP hh_931 rfl 4 (by decide) (hts _ wi_107) (fun _ h9 => h9) rfl de_K_noteNewestOfKeys_30 ?_
            refine dk_calli (va_runV (As := []) (rest := [.int (nI i2)]) ⟨hx, hb, hml, hown, hts⟩ (c_R_size l G v2 D.g 6 7 600 (σ.tb ++ lv_fl σ.lv 6) hkv2.g) (cwV 0 hts (wd_gV (C := "RunKeeper$Row") wi_147 wi_144 wi_145 wi_146 wi_2) rfl rfl rfl (by decide +kernel) ⟨Nat.le_of_ble_eq_true rfl, Nat.le_of_ble_eq_true rfl⟩) (dk_preV (kn_R, kt_R, 2) hE hP hS hc_933 rfl) rfl rfl hl.1 rfl (lv_room (Nat.le_of_ble_eq_true rfl)) de_K_noteNewestOfKeys_33 ⟨(by first | exact Nat.le_of_ble_eq_true rfl | (simp only [Nat.zero_add]; omega) | omega), (by first | exact Nat.le_of_ble_eq_true rfl | (simp only [Nat.zero_add]; omega) | omega)⟩) hS (fun r_936 w_934 H locs hq_935 hP hS => ?_)
            obtain ⟨hr_937, he_938⟩ := hq_935
            subst hr_937
            rw [he_938] at hP
            refine nx_icmp_ge (a := i2) (b := (σ.tb ++ lv_fl σ.lv 6).length) (tgt := 58) hx hb (by omega) (by omega) de_K_noteNewestOfKeys_36 (by decide) (fun c_939 => ?_) (fun c_939 => ?_)
            · have e9 : (σ.tb ++ lv_fl σ.lv 6).take i2 = (σ.tb ++ lv_fl σ.lv 6) := List.take_of_length_le (by omega)
              rw [e9] at hkv2
              exact dk_vret hQ hx hb hr hlocks hP hS (Nat.le_refl _) (Nat.le_refl _) (⟨hkv2, hg2⟩) de_K_noteNewestOfKeys_58
            · obtain ⟨x, hx9⟩ := ge_at c_939
              have hxo := hok x (List.mem_of_getElem? hx9)
              refine lv_aload_n hx hb de_K_noteNewestOfKeys_39 rfl (lv_at hl 0 rfl) ?_
              refine lv_aload_n hx hb de_K_noteNewestOfKeys_40 rfl (lv_at hl 0 rfl) ?_
              refine dk_get (a := h) (v := .ref D.g) (C := kn_K) (T := kt_K) (N := 12) hx hb hts ki_K hown hK hP hh_931 rfl 4 (by decide) (hts _ wi_107) (fun _ h9 => h9) rfl de_K_noteNewestOfKeys_41 ?_
              refine lv_iload_n hx hb de_K_noteNewestOfKeys_44 rfl (lv_at hl 2 rfl) ?_
              refine dk_callq (va_runV (As := [.int (nI i2)]) (rest := [.ref h]) ⟨hx, hb, hml, hown, hts⟩ (c_R_at l G v2 D.g 6 7 600 (σ.tb ++ lv_fl σ.lv 6) hkv2.g (nI i2)) (cwV 1 hts (wd_gV (C := "RunKeeper$Row") wi_191 wi_516 wi_189 wi_190 wi_2) rfl rfl rfl (by decide +kernel) ⟨Nat.le_of_ble_eq_true rfl, Nat.le_of_ble_eq_true rfl⟩) (dk_preV (kn_R, kt_R, 2) hE hP hS hc_933 rfl) rfl rfl hl.1 rfl (lv_room (Nat.le_of_ble_eq_true rfl)) de_K_noteNewestOfKeys_45 ⟨(by first | exact Nat.le_of_ble_eq_true rfl | (simp only [Nat.zero_add]; omega) | omega), (by first | exact Nat.le_of_ble_eq_true rfl | (simp only [Nat.zero_add]; omega) | omega)⟩) hS (fun r_942 w_940 H locs hq_941 hP hS => ?_)
              obtain ⟨a1, ha1, ha2⟩ := at_in hq_941.2 (by omega) (by omega) hx9
              rw [hq_941.1] at hP
              subst ha1
              refine lv_iload_n hx hb de_K_noteNewestOfKeys_48 rfl (lv_at hl 1 rfl) ?_
              refine dk_callv (va_runV (As := [.ref a1, .int (nI u)]) (rest := []) ⟨hx, hb, hml, hown, hts⟩ (c_K_noteIfNewest l G v2 h D _ hkv2 a1 x ha2 hxo u hu0 (fun y hy => hok y (List.mem_of_mem_take (nn_mem _ hy)))) (cwV 2 hts (wd_gV (C := "RunKeeper") wi_686 wi_683 wi_685 (wd_p (q := (⟨"RunKeeper", "noteIfNewest", "(LRunKeeper$Entry;I)V"⟩, 12)) (by decide +kernel) (by decide +kernel)) wi_1) rfl rfl rfl (by decide +kernel) ⟨Nat.le_of_ble_eq_true rfl, Nat.le_of_ble_eq_true rfl⟩) (dk_preV (kn_K, kt_K, 12) hE hP hS hh_931 rfl) rfl rfl hl.1 rfl (lv_room (Nat.le_of_ble_eq_true rfl)) de_K_noteNewestOfKeys_49 ⟨(by first | exact Nat.le_of_ble_eq_true rfl | (simp only [Nat.zero_add]; omega) | omega), (by first | exact Nat.le_of_ble_eq_true rfl | (simp only [Nat.zero_add]; omega) | omega)⟩) hS (fun w_943 H locs hq_944 hP hS => ?_)
              have hk7 : kp_at G w_943 h D ((σ.ga' (σ.tb ++ lv_fl σ.lv 6)).nw' (nn_L u ((σ.tb ++ lv_fl σ.lv 6).take (i2 + 1)))) := by rw [ta_s hx9, nn_snoc]; exact hq_944.1
              refine lv_iinc (v := nI (i2 + 1)) (lv' := [(2, .int (nI (i2 + 1))), (0, .ref h), (1, .int (nI u))]) hx hb de_K_noteNewestOfKeys_52 hl (k := 2) rfl (nx_inc i2) (by decide) rfl (fun ls hl => ?_)
              refine lv_goto (tgt := 28) hx hb de_K_noteNewestOfKeys_55 (by decide) ?_
              exact ih2 (i2 + 1) (by omega) (by omega) _ _ _ hk7 (hg2.tr hq_944.2) hP hS _ (lv_sub hl [1, 2, 0] rfl)
        exact lp2 ((σ.tb ++ lv_fl σ.lv 6).length + 1) 0 (by omega) (by omega) _ _ _ (by exact hk_929) (hg.tr ((hq_927.2))) hP hS _ (lv_sub hl [1, 2, 0] rfl)
      · obtain ⟨nf, hnf, hne⟩ := id hkv.n
        refine lv_aload_n hx hb de_K_noteNewestOfKeys_9 rfl (lv_at hl 0 rfl) ?_
        refine dk_get (a := h) (v := .ref D.ne) (C := kn_K) (T := kt_K) (N := 12) hx hb hts ki_K hown hK hP hh_918 rfl 6 (by decide) (hts _ wi_109) (fun _ h9 => h9) rfl de_K_noteNewestOfKeys_10 ?_
        refine lv_iload_n hx hb de_K_noteNewestOfKeys_13 rfl (lv_at hl 2 rfl) ?_
        refine lv_null hx hb de_K_noteNewestOfKeys_14 ?_
        refine dk_aastN (a := D.ne) (C := dk_nE) hx hb hK hP hS hnf rfl i rfl (by omega) (by omega) de_K_noteNewestOfKeys_15 (fun H locs w_920 hw_921 hP hS => ?_)
        have h_922 : w_920 D.ne = some (10, dk_ca G 3 1024 (va_up nf i none)) := dk_here hw_921
        have h_923 : w_920 h = some (1, .inr (cx_K, [.ref D.t, .ref D.a, .ref D.lv, .ref D.sn, .ref D.g, .ref D.k, .ref D.ne, .int (nI σ.sf), .int (bo_i σ.ib), .int (nI σ.sq), .int (nI σ.pr), .int (nI σ.mi)])) := dk_keep hw_921 hnf hh_918 (by decide)
        have h_924 : w_920 D.lv = some (11, dk_ca G 4 6 D.lf) := dk_keep hw_921 hnf hkv.l (by decide)
        have hf9 : dk_fr (fun t => t = 10) v w_920 := (dk_fr.up (T := fun t => t = 10) hnf rfl).eq hw_921
        have hk7 : kp_at G w_920 h D (σ.nw' (fun j => if j < i + 1 then none else σ.nw j)) := hkv.ofn hf9 ((nw_at.cut hne hf9 h_922).ext (nw_s i σ.nw))
        refine lv_iinc (v := nI (i + 1)) (lv' := [(2, .int (nI (i + 1))), (0, .ref h), (1, .int (nI u))]) hx hb de_K_noteNewestOfKeys_16 hl (k := 2) rfl (nx_inc i) (by decide) rfl (fun ls hl => ?_)
        refine lv_goto (tgt := 2) hx hb de_K_noteNewestOfKeys_19 (by decide) ?_
        exact ih (i + 1) (by omega) (by omega) _ _ _ hk7 (hg.tr (hf9.mono (fun t z => by unfold kp_T; omega))) hP hS _ (lv_sub hl [1, 2, 0] rfl)
  exact lp 1025 0 (by omega) (by omega) _ _ _ (hkp.nwx (fun j hj => by simp)) dk_fr.rf hP hS _ (lv_sub hl [1, 2, 0] rfl)
