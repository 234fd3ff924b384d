/-! RunKeeper, walked (printed by gen/c_keep.py) -/
theorem bo_nf : bo_i false = nI 0 := by decide
theorem bo_nt : bo_i true = nI 1 := by decide
/-- an int from 0 and below n -/
def in_r (n : Nat) (k : Int32) : Bool := decide (¬ k < 0) && decide (k < nI n)
theorem in_neg {n : Nat} {k : Int32} (h : k < 0) : in_r n k = false := by simp [in_r, h]
theorem in_nat {n j : Nat} (hj : j < 2 ^ 31) (hn : n < 2 ^ 31) : in_r n (nI j) = decide (j < n) := by
  have h1 := nI_pos hj
  by_cases h : j < n
  · simp [in_r, h1, h, nI_lt h hn]
  · have h2 : ¬ nI j < nI n := fun z => h ((nI_ltI hj hn).mp z)
    simp [in_r, h, h2]
theorem tb_ok {L : List en_T} {x : en_T} (h : ∀ y ∈ L, en_ok y) (hx : en_ok x) : ∀ y ∈ L ++ [x], en_ok y := by
  intro y hy
  rcases List.mem_append.mp hy with h1 | h1
  · exact h y h1
  · rw [List.mem_singleton.mp h1]; exact hx
theorem le_ge {G : dk_G} {w : dk_H} {h tb : Nat} {Rs : List (List en_T)} (H : le_at G w h tb Rs) : Rs.length ≤ le_ct Rs := by
  obtain ⟨al, xs, -, -, h3, -⟩ := H
  have hp : ∀ R ∈ Rs, 0 < R.length := by
    intro R hR
    obtain ⟨j, hj⟩ := List.getElem?_of_mem hR
    have hl := (List.getElem?_eq_some_iff.mp hj).1
    obtain ⟨y, hy⟩ := ge_at (L := xs) (i := j) (by rw [h3.1]; exact hl)
    obtain ⟨r, fl, f, -, -, -, -, h0, -⟩ := h3.2 j y R hy hj
    exact h0
  clear h3
  induction Rs with
  | nil => exact Nat.le_refl _
  | cons R Rs ih =>
    have h1 := hp R List.mem_cons_self
    have h2 := ih (fun S hS => hp S (List.mem_cons_of_mem _ hS))
    simp only [le_ct, List.length_cons]
    omega
theorem kp_at.rl {G : dk_G} {w : dk_H} {h : Nat} {D : kp_D} {σ : kp_S} (H : kp_at G w h D σ) {i : Nat} (hi : i < 6) : (σ.lv i).length ≤ le_ct (σ.lv i) := le_ge (H.v i hi).2
theorem em_s {lv : Nat → List (List en_T)} {k i : Nat} (h : ∀ j, k ≤ j → j < i → lv j = []) (e : lv i = []) : ∀ j, k ≤ j → j < i + 1 → lv j = [] := by
  intro j h1 h2
  by_cases e8 : j = i
  · rw [e8]; exact e
  · exact h j h1 (by omega)
def lv_add (σ : kp_S) (i : Nat) (L : List en_T) : kp_S := if L = [] then σ else σ.lv' (va_up σ.lv i (σ.lv i ++ [L]))
def kp_fl (σ : kp_S) (n : Nat) : kp_S := if n ≤ σ.tb.length then ((σ.lv' (va_up σ.lv 0 (σ.lv 0 ++ [so_st σ.tb]))).tb' []).sf' 0 else σ
abbrev rm_K_isKey : Room := { frames := 0, cells := 0, slots := 0, locals := 0 }
set_option maxHeartbeats 4000000 in
set_option maxRecDepth 100000 in
theorem c_K_isKey (l : Launch) (G : dk_G) (w : dk_H) (k : Int32) : dk_Mi l my_K_isKey (wd_c my_K_isKey mb_K_isKey 1 (some .boolean)) rm_K_isKey G w [.int k] (fun r w1 => r = bo_i (in_r 1024 k) ∧ w1 = w) 0 0 := by
  refine dk_enter (lv := [(0, .int k)]) (by decide) (Nat.le_of_ble_eq_true rfl) rfl (fun p e s m args below meth c ls Q hQ C hP hS hl => ?_)
  obtain ⟨hx, hb, hr, hml, hlocks, hown, hnm, hts, hE⟩ := C
  have hK := hE.1
  have hN := hE.2.1
  refine lv_iload_n hx hb de_K_isKey_0 rfl (lv_at hl 0 rfl) ?_
  refine lv_if_lt (tgt := 15) hx hb de_K_isKey_1 (by decide) (fun c_469 => ?_) (fun c_469 => ?_)
  · refine lv_iconst (v := nI 0) hx hb de_K_isKey_15 (by decide) ?_
    exact dk_zret hQ hx hb hr hlocks hP hS (Nat.le_refl _) (Nat.le_refl _) (by decide +kernel) (⟨bo_of0 (in_neg c_469), rfl⟩) de_K_isKey_16
  · obtain ⟨j0, hj0, rfl⟩ := nI_of c_469
    refine lv_iload_n hx hb de_K_isKey_4 rfl (lv_at hl 0 rfl) ?_
    refine lv_sipush (v := nI 1024) hx hb de_K_isKey_5 (by decide) ?_
    refine nx_icmp_ge (a := j0) (b := 1024) (tgt := 15) hx hb (by omega) (by omega) de_K_isKey_8 (by decide) (fun c_470 => ?_) (fun c_470 => ?_)
    · refine lv_iconst (v := nI 0) hx hb de_K_isKey_15 (by decide) ?_
      exact dk_zret hQ hx hb hr hlocks hP hS (Nat.le_refl _) (Nat.le_refl _) (by decide +kernel) (⟨bo_of0 (by rw [in_nat hj0 (by omega)]; simp; omega), rfl⟩) de_K_isKey_16
    · refine lv_iconst (v := nI 1) hx hb de_K_isKey_11 (by decide) ?_
      refine lv_goto (tgt := 16) hx hb de_K_isKey_12 (by decide) ?_
      exact dk_zret hQ hx hb hr hlocks hP hS (Nat.le_refl _) (Nat.le_refl _) (by decide +kernel) (⟨bo_of1 (by rw [in_nat hj0 (by omega)]; simp; omega), rfl⟩) de_K_isKey_16
abbrev rm_K_isLevel : Room := { frames := 0, cells := 0, slots := 0, locals := 0 }
set_option maxHeartbeats 4000000 in
set_option maxRecDepth 100000 in
theorem c_K_isLevel (l : Launch) (G : dk_G) (w : dk_H) (k : Int32) : dk_Mi l my_K_isLevel (wd_c my_K_isLevel mb_K_isLevel 1 (some .boolean)) rm_K_isLevel G w [.int k] (fun r w1 => r = bo_i (in_r 6 k) ∧ w1 = w) 0 0 := by
  refine dk_enter (lv := [(0, .int k)]) (by decide) (Nat.le_of_ble_eq_true rfl) rfl (fun p e s m args below meth c ls Q hQ C hP hS hl => ?_)
  obtain ⟨hx, hb, hr, hml, hlocks, hown, hnm, hts, hE⟩ := C
  have hK := hE.1
  have hN := hE.2.1
  refine lv_iload_n hx hb de_K_isLevel_0 rfl (lv_at hl 0 rfl) ?_
  refine lv_if_lt (tgt := 14) hx hb de_K_isLevel_1 (by decide) (fun c_471 => ?_) (fun c_471 => ?_)
  · refine lv_iconst (v := nI 0) hx hb de_K_isLevel_14 (by decide) ?_
    exact dk_zret hQ hx hb hr hlocks hP hS (Nat.le_refl _) (Nat.le_refl _) (by decide +kernel) (⟨bo_of0 (in_neg c_471), rfl⟩) de_K_isLevel_15
  · obtain ⟨j0, hj0, rfl⟩ := nI_of c_471
    refine lv_iload_n hx hb de_K_isLevel_4 rfl (lv_at hl 0 rfl) ?_
    refine lv_bipush (v := nI 6) hx hb de_K_isLevel_5 (by decide) ?_
    refine nx_icmp_ge (a := j0) (b := 6) (tgt := 14) hx hb (by omega) (by omega) de_K_isLevel_7 (by decide) (fun c_472 => ?_) (fun c_472 => ?_)
    · refine lv_iconst (v := nI 0) hx hb de_K_isLevel_14 (by decide) ?_
      exact dk_zret hQ hx hb hr hlocks hP hS (Nat.le_refl _) (Nat.le_refl _) (by decide +kernel) (⟨bo_of0 (by rw [in_nat hj0 (by omega)]; simp; omega), rfl⟩) de_K_isLevel_15
    · refine lv_iconst (v := nI 1) hx hb de_K_isLevel_10 (by decide) ?_
      refine lv_goto (tgt := 15) hx hb de_K_isLevel_11 (by decide) ?_
      exact dk_zret hQ hx hb hr hlocks hP hS (Nat.le_refl _) (Nat.le_refl _) (by decide +kernel) (⟨bo_of1 (by rw [in_nat hj0 (by omega)]; simp; omega), rfl⟩) de_K_isLevel_15
abbrev rm_K_entriesInAll : Room := { frames := 1, cells := 0, slots := 0, locals := 20 }
set_option maxHeartbeats 4000000 in
set_option maxRecDepth 100000 in
theorem c_K_entriesInAll (l : Launch) (G : dk_G) (w : dk_H) (h : Nat) (D : kp_D) (σ : kp_S) (hkp : kp_at G w h D σ) : dk_Mi l my_K_entriesInAll (wd_c my_K_entriesInAll mb_K_entriesInAll 3 (some .int)) rm_K_entriesInAll G w [.ref h] (fun r w1 => r = nI (kp_n σ) ∧ w1 = w) 0 0 := by
  refine dk_enter (lv := [(0, .ref h)]) (by decide) (Nat.le_of_ble_eq_true rfl) rfl (fun p e s m args below meth c ls Q hQ C hP hS hl => ?_)
  obtain ⟨hx, hb, hr, hml, hlocks, hown, hnm, hts, hE⟩ := C
  have hK := hE.1
  have hN := hE.2.1
  have hh_473 : w h = some (1, .inr (cx_K, [.ref D.t, .ref D.a, .ref D.lv, .ref D.sn, .ref D.g, .ref D.k, .ref D.ne, .int (nI σ.sf), .int (bo_i σ.ib), .int (nI σ.sq), .int (nI σ.pr), .int (nI σ.mi)])) := hkp.o
  obtain ⟨sl_474, _, hc_475, -⟩ := id hkp.t
  refine lv_aload_n hx hb de_K_entriesInAll_0 rfl (lv_at hl 0 rfl) ?_
  refine dk_get (a := h) (v := .ref D.t) (C := kn_K) (T := kt_K) (N := 12) hx hb hts ki_K hown hK hP hh_473 rfl 0 (by decide) (hts _ wi_103) (fun _ h9 => h9) rfl de_K_entriesInAll_1 ?_
  refine dk_calli (va_runV (As := []) (rest := []) ⟨hx, hb, hml, hown, hts⟩ (c_R_size l G w D.t 2 3 40 σ.tb hkp.t) (cwV 0 hts (wd_gV (C := "RunKeeper$Row") wi_147 wi_144 wi_145 wi_146 wi_2) rfl rfl rfl (by decide +kernel) ⟨Nat.le_of_ble_eq_true rfl, Nat.le_of_ble_eq_true rfl⟩) (dk_preV (kn_R, kt_R, 2) hE hP hS hc_475 rfl) rfl rfl hl.1 rfl (lv_room (Nat.le_of_ble_eq_true rfl)) de_K_entriesInAll_4 ⟨(by first | exact Nat.le_of_ble_eq_true rfl | (simp only [Nat.zero_add]; omega) | omega), (by first | exact Nat.le_of_ble_eq_true rfl | (simp only [Nat.zero_add]; omega) | omega)⟩) hS (fun r_478 w_476 H locs hq_477 hP hS => ?_)
  obtain ⟨hr_479, he_480⟩ := hq_477
  subst hr_479
  rw [he_480] at hP
  refine lv_istore_n (lv' := [(1, .int (nI σ.tb.length)), (0, .ref h)]) hx hb de_K_entriesInAll_7 rfl hl (by decide) rfl (fun ls hl => ?_)
  refine lv_iconst (v := nI 0) hx hb de_K_entriesInAll_8 (by decide) ?_
  refine lv_istore_n (lv' := [(2, .int (nI 0)), (1, .int (nI σ.tb.length)), (0, .ref h)]) hx hb de_K_entriesInAll_9 rfl hl (by decide) rfl (fun ls hl => ?_)
  have lp : ∀ (zk : Nat) (i : Nat) (n : Nat), 6 - i < zk → (i ≤ 6) → (n = σ.tb.length + lv_ct σ.lv i) → ∀ (H : Heap) (locs : List Loc), dk_P G w H → dk_S G s.heap H locs → ∀ (ls : Array Slot), lv_has ls 3 [(0, .ref h), (1, .int (nI n)), (2, .int (nI i))] → W p l e rm_K_entriesInAll s m args below meth c H locs (0 + 0) (0 + 0) Q (F0 m 10 ls []) := by
    intro zk
    induction zk with
    | zero =>
      intro i n hk
      exact absurd hk (by omega)
    | succ zk ih =>
      intro i n hk hi hn
      intro H locs hP hS
      intro ls hl
      refine lv_iload_n hx hb de_K_entriesInAll_10 rfl (lv_at hl 2 rfl) ?_
      refine lv_bipush (v := nI 6) hx hb de_K_entriesInAll_11 (by decide) ?_
      refine nx_icmp_ge (a := i) (b := 6) (tgt := 34) hx hb (by omega) (by omega) de_K_entriesInAll_13 (by decide) (fun c_481 => ?_) (fun c_481 => ?_)
      · have e9 : i = 6 := by omega
        refine lv_iload_n hx hb de_K_entriesInAll_34 rfl (lv_at hl 1 rfl) ?_
        exact dk_iret hQ hx hb hr hlocks hP hS (Nat.le_refl _) (Nat.le_refl _) (⟨by rw [hn, e9]; rfl, rfl⟩) de_K_entriesInAll_35
      · refine lv_iload_n hx hb de_K_entriesInAll_16 rfl (lv_at hl 1 rfl) ?_
        refine lv_aload_n hx hb de_K_entriesInAll_17 rfl (lv_at hl 0 rfl) ?_
        refine dk_get (a := h) (v := .ref D.lv) (C := kn_K) (T := kt_K) (N := 12) hx hb hts ki_K hown hK hP hh_473 rfl 2 (by decide) (hts _ wi_105) (fun _ h9 => h9) rfl de_K_entriesInAll_18 ?_
        refine lv_iload_n hx hb de_K_entriesInAll_21 rfl (lv_at hl 2 rfl) ?_
        refine dk_aald (a := D.lv) (r := some (D.le i)) (C := dk_nL) hx hb hK hP hkp.l rfl i rfl (by omega) (by omega) ((hkp.v i (by omega)).1) de_K_entriesInAll_22 ?_
        obtain ⟨al_482, _, hc_483, -⟩ := id (hkp.v i (by omega)).2
        refine dk_calli (va_runV (As := []) (rest := [.int (nI n)]) ⟨hx, hb, hml, hown, hts⟩ (c_V_entryCount l G w (D.le i) (20 + 3 * i) (σ.lv i) (hkp.v i (by omega)).2) (cwV 0 hts (wd_gV (C := "RunKeeper$Level") wi_422 wi_419 wi_420 wi_421 wi_4) rfl rfl rfl (by decide +kernel) ⟨Nat.le_of_ble_eq_true rfl, Nat.le_of_ble_eq_true rfl⟩) (dk_preV (kn_V, kt_V, 2) hE hP hS hc_483 rfl) rfl rfl hl.1 rfl (lv_room (Nat.le_of_ble_eq_true rfl)) de_K_entriesInAll_23 ⟨(by first | exact Nat.le_of_ble_eq_true rfl | (simp only [Nat.zero_add]; omega) | omega), (by first | exact Nat.le_of_ble_eq_true rfl | (simp only [Nat.zero_add]; omega) | omega)⟩) hS (fun r_486 w_484 H locs hq_485 hP hS => ?_)
        obtain ⟨hr_487, he_488⟩ := hq_485
        subst hr_487
        rw [he_488] at hP
        refine nx_iadd (a := n) (b := le_ct (σ.lv i)) hx hb de_K_entriesInAll_26 ?_
        refine lv_istore_n (lv' := [(1, .int (nI (n + (le_ct (σ.lv i))))), (0, .ref h), (2, .int (nI i))]) hx hb de_K_entriesInAll_27 rfl hl (by decide) rfl (fun ls hl => ?_)
        refine lv_iinc (v := nI (i + 1)) (lv' := [(2, .int (nI (i + 1))), (1, .int (nI (n + (le_ct (σ.lv i))))), (0, .ref h)]) hx hb de_K_entriesInAll_28 hl (k := 2) rfl (nx_inc i) (by decide) rfl (fun ls hl => ?_)
        refine lv_goto (tgt := 10) hx hb de_K_entriesInAll_31 (by decide) ?_
        exact ih (i + 1) (n + le_ct (σ.lv i)) (by omega) (by omega) (by rw [hn, Nat.add_assoc]; rfl) _ _ hP hS _ (lv_sub hl [2, 1, 0] rfl)
  exact lp 7 0 σ.tb.length (by omega) (Nat.zero_le _) rfl _ _ hP hS _ (lv_sub hl [2, 1, 0] rfl)
abbrev rm_K_dropBatch : Room := { frames := 1, cells := 0, slots := 0, locals := 21 }
set_option maxHeartbeats 4000000 in
set_option maxRecDepth 100000 in
theorem c_K_dropBatch (l : Launch) (G : dk_G) (w : dk_H) (h : Nat) (D : kp_D) (σ : kp_S) (hkp : kp_at G w h D σ) : dk_Mv l my_K_dropBatch (wd_c my_K_dropBatch mb_K_dropBatch 1 none) rm_K_dropBatch G w [.ref h] (fun w1 => kp_at G w1 h D ((σ.ib' false).ad' []) ∧ dk_fr kp_T w w1) 0 0 := by
  refine dk_enter (lv := [(0, .ref h)]) (by decide) (Nat.le_of_ble_eq_true rfl) rfl (fun p e s m args below meth c ls Q hQ C hP hS hl => ?_)
  obtain ⟨hx, hb, hr, hml, hlocks, hown, hnm, hts, hE⟩ := C
  have hK := hE.1
  have hN := hE.2.1
  have hh_489 : w h = some (1, .inr (cx_K, [.ref D.t, .ref D.a, .ref D.lv, .ref D.sn, .ref D.g, .ref D.k, .ref D.ne, .int (nI σ.sf), .int (bo_i σ.ib), .int (nI σ.sq), .int (nI σ.pr), .int (nI σ.mi)])) := hkp.o
  refine lv_aload_n hx hb de_K_dropBatch_0 rfl (lv_at hl 0 rfl) ?_
  refine lv_iconst (v := nI 0) hx hb de_K_dropBatch_1 (by decide) ?_
  refine dk_put (a := h) (v := .int (nI 0)) (ty := .boolean) (C := kn_K) (T := kt_K) (N := 12) hx hb hts ki_K ky_K kk_K kd_K hown hK hP hS hh_489 rfl 8 (by decide) (hts _ wi_111) (fun _ h9 => h9) rfl (by decide +kernel) (by decide) (by decide) (Nat.le_of_ble_eq_true rfl) de_K_dropBatch_2 (fun H locs w_490 hw_491 hP hS => ?_)
  have h_492 : w_490 h = some (1, .inr (cx_K, [.ref D.t, .ref D.a, .ref D.lv, .ref D.sn, .ref D.g, .ref D.k, .ref D.ne, .int (nI σ.sf), .int (nI 0), .int (nI σ.sq), .int (nI σ.pr), .int (nI σ.mi)])) := dk_here hw_491
  have h_493 : w_490 D.lv = some (11, dk_ca G 4 6 D.lf) := dk_keep hw_491 hh_489 hkp.l (by decide)
  have hf_494 : dk_fr (fun t => t = 1) w w_490 := ((dk_fr.up (T := fun t => t = 1) hh_489 rfl).eq hw_491)
  have hg_496 : w_490 h = some (1, .inr (cx_K, [.ref D.t, .ref D.a, .ref D.lv, .ref D.sn, .ref D.g, .ref D.k, .ref D.ne, .int (nI σ.sf), .int (bo_i false), .int (nI σ.sq), .int (nI σ.pr), .int (nI σ.mi)])) := by rw [bo_nf]; exact h_492
  have hk_495 : kp_at G w_490 h D (σ.ib' (false)) := hkp.ofo hf_494 hg_496 rfl rfl rfl rfl rfl rfl rfl
  have hh_497 : w_490 h = some (1, .inr (cx_K, [.ref D.t, .ref D.a, .ref D.lv, .ref D.sn, .ref D.g, .ref D.k, .ref D.ne, .int (nI σ.sf), .int (bo_i false), .int (nI σ.sq), .int (nI σ.pr), .int (nI σ.mi)])) := hk_495.o
  obtain ⟨sl_498, _, hc_499, -⟩ := id hk_495.a
  refine lv_aload_n hx hb de_K_dropBatch_5 rfl (lv_at hl 0 rfl) ?_
  refine dk_get (a := h) (v := .ref D.a) (C := kn_K) (T := kt_K) (N := 12) hx hb hts ki_K hown hK hP hh_497 rfl 1 (by decide) (hts _ wi_104) (fun _ h9 => h9) rfl de_K_dropBatch_6 ?_
  refine lv_iconst (v := nI 0) hx hb de_K_dropBatch_9 (by decide) ?_
  refine dk_callv (va_runV (As := [.int (nI 0)]) (rest := []) ⟨hx, hb, hml, hown, hts⟩ (c_R_cutTo l G w_490 D.a 4 5 16 σ.ad hk_495.a (by omega) 0 (by decide)) (cwV 1 hts (wd_gV (C := "RunKeeper$Row") wi_279 wi_276 wi_277 wi_278 wi_2) rfl rfl rfl (by decide +kernel) ⟨Nat.le_of_ble_eq_true rfl, Nat.le_of_ble_eq_true rfl⟩) (dk_preV (kn_R, kt_R, 2) hE hP hS hc_499 rfl) rfl rfl hl.1 rfl (lv_room (Nat.le_of_ble_eq_true rfl)) de_K_dropBatch_10 ⟨(by first | exact Nat.le_of_ble_eq_true rfl | (simp only [Nat.zero_add]; omega) | omega), (by first | exact Nat.le_of_ble_eq_true rfl | (simp only [Nat.zero_add]; omega) | omega)⟩) hS (fun w_500 H locs hq_501 hP hS => ?_)
  have hk_503 : kp_at G w_500 h D ((σ.ib' (false)).ad' (σ.ad.take 0)) := hk_495.ofa hq_501.2 hq_501.1
  have hh_504 : w_500 h = some (1, .inr (cx_K, [.ref D.t, .ref D.a, .ref D.lv, .ref D.sn, .ref D.g, .ref D.k, .ref D.ne, .int (nI σ.sf), .int (bo_i false), .int (nI σ.sq), .int (nI σ.pr), .int (nI σ.mi)])) := hk_503.o
  exact dk_vret hQ hx hb hr hlocks hP hS (Nat.le_refl _) (Nat.le_refl _) (⟨hk_503, ((kp_o hf_494)).tr (kp_r hq_501.2 (by omega))⟩) de_K_dropBatch_13
abbrev rm_K_appendToTable : Room := { frames := 3, cells := 1, slots := 4, locals := 66 }
set_option maxHeartbeats 4000000 in
set_option maxRecDepth 100000 in
theorem c_K_appendToTable (l : Launch) (G : dk_G) (w : dk_H) (h : Nat) (D : kp_D) (σ : kp_S) (hkp : kp_at G w h D σ) (a : Nat) (x : en_T) (ha : en_at w a x) (hn : σ.tb.length < 40) (hx1 : x.1 < 1024) (hs : σ.sq + 1 < 2 ^ 30) : dk_Mv l my_K_appendToTable (wd_c my_K_appendToTable mb_K_appendToTable 2 none) rm_K_appendToTable G w [.ref h, .ref a] (fun w1 => kp_at G w1 h D ((σ.sq' (σ.sq + 1)).tb' (σ.tb ++ [(x.1, σ.sq + 1, x.2.2.1, x.2.2.2)])) ∧ dk_fr kp_T w w1) 1 4 := by
  refine dk_enter (lv := [(0, .ref h), (1, .ref a)]) (by decide) (Nat.le_of_ble_eq_true rfl) rfl (fun p e s m args below meth c ls Q hQ C hP hS hl => ?_)
  obtain ⟨hx, hb, hr, hml, hlocks, hown, hnm, hts, hE⟩ := C
  have hK := hE.1
  have hN := hE.2.1
  have hh_505 : w h = some (1, .inr (cx_K, [.ref D.t, .ref D.a, .ref D.lv, .ref D.sn, .ref D.g, .ref D.k, .ref D.ne, .int (nI σ.sf), .int (bo_i σ.ib), .int (nI σ.sq), .int (nI σ.pr), .int (nI σ.mi)])) := hkp.o
  refine lv_aload_n hx hb de_K_appendToTable_0 rfl (lv_at hl 1 rfl) ?_
  refine lv_ifnull hx hb de_K_appendToTable_1 ?_
  refine lv_aload_n hx hb de_K_appendToTable_4 rfl (lv_at hl 0 rfl) ?_
  refine lv_dup hx hb de_K_appendToTable_5 rfl ?_
  refine dk_get (a := h) (v := .int (nI σ.sq)) (C := kn_K) (T := kt_K) (N := 12) hx hb hts ki_K hown hK hP hh_505 rfl 9 (by decide) (hts _ wi_112) (fun _ h9 => h9) rfl de_K_appendToTable_6 ?_
  refine lv_iconst (v := nI 1) hx hb de_K_appendToTable_9 (by decide) ?_
  refine nx_iadd (a := σ.sq) (b := 1) hx hb de_K_appendToTable_10 ?_
  refine dk_put (a := h) (v := .int (nI (σ.sq + 1))) (ty := .int) (C := kn_K) (T := kt_K) (N := 12) hx hb hts ki_K ky_K kk_K kd_K hown hK hP hS hh_505 rfl 9 (by decide) (hts _ wi_112) (fun _ h9 => h9) rfl (by decide +kernel) rfl rfl (Nat.le_of_ble_eq_true rfl) de_K_appendToTable_11 (fun H locs w_507 hw_508 hP hS => ?_)
  have h_509 : w_507 h = some (1, .inr (cx_K, [.ref D.t, .ref D.a, .ref D.lv, .ref D.sn, .ref D.g, .ref D.k, .ref D.ne, .int (nI σ.sf), .int (bo_i σ.ib), .int (nI (σ.sq + 1)), .int (nI σ.pr), .int (nI σ.mi)])) := dk_here hw_508
  have h_510 : w_507 D.lv = some (11, dk_ca G 4 6 D.lf) := dk_keep hw_508 hh_505 hkp.l (by decide)
  have hf_511 : dk_fr (fun t => t = 1) w w_507 := ((dk_fr.up (T := fun t => t = 1) hh_505 rfl).eq hw_508)
  have hk_512 : kp_at G w_507 h D (σ.sq' (σ.sq + 1)) := hkp.ofo hf_511 h_509 rfl rfl rfl rfl rfl rfl rfl
  have hh_513 : w_507 h = some (1, .inr (cx_K, [.ref D.t, .ref D.a, .ref D.lv, .ref D.sn, .ref D.g, .ref D.k, .ref D.ne, .int (nI σ.sf), .int (bo_i σ.ib), .int (nI (σ.sq + 1)), .int (nI σ.pr), .int (nI σ.mi)])) := hk_512.o
  have ha2 : en_at w_507 a x := ha.fr hf_511 (by omega)
  obtain ⟨sl_514, _, hc_515, -⟩ := id hk_512.t
  refine lv_aload_n hx hb de_K_appendToTable_14 rfl (lv_at hl 0 rfl) ?_
  refine dk_get (a := h) (v := .ref D.t) (C := kn_K) (T := kt_K) (N := 12) hx hb hts ki_K hown hK hP hh_513 rfl 0 (by decide) (hts _ wi_103) (fun _ h9 => h9) rfl de_K_appendToTable_15 ?_
  refine lv_aload_n hx hb de_K_appendToTable_18 rfl (lv_at hl 1 rfl) ?_
  refine lv_aload_n hx hb de_K_appendToTable_19 rfl (lv_at hl 0 rfl) ?_
  refine dk_get (a := h) (v := .int (nI (σ.sq + 1))) (C := kn_K) (T := kt_K) (N := 12) hx hb hts ki_K hown hK hP hh_513 rfl 9 (by decide) (hts _ wi_112) (fun _ h9 => h9) rfl de_K_appendToTable_20 ?_
  refine dk_callq (va_runV (As := [.int (nI (σ.sq + 1))]) (rest := [.ref D.t]) ⟨hx, hb, hml, hown, hts⟩ (c_E_numbered l G w_507 a (σ.sq + 1) x ha2) (cwV 1 hts (wd_gV (C := "RunKeeper$Entry") wi_473 wi_470 wi_471 wi_472 wi_14) rfl rfl rfl (by decide +kernel) ⟨Nat.le_of_ble_eq_true rfl, Nat.le_of_ble_eq_true rfl⟩) (dk_preV (kn_E, kt_E, 4) hE hP hS ha2 rfl) rfl rfl hl.1 rfl (lv_room (Nat.le_of_ble_eq_true rfl)) de_K_appendToTable_23 ⟨(by first | exact Nat.le_of_ble_eq_true rfl | (simp only [Nat.zero_add]; omega) | omega), (by first | exact Nat.le_of_ble_eq_true rfl | (simp only [Nat.zero_add]; omega) | omega)⟩) hS (fun r_518 w_516 H locs hq_517 hP hS => ?_)
  obtain ⟨q9, hq1, hq2, hq3⟩ := hq_517
  subst hq1
  have hf9 : dk_fr (fun t => 60 ≤ t ∧ t ≤ 63) w_507 w_516 := (dk_fr.upN hq2).eq hq3
  have hk9 := hk_512.off hf9
  have hh_519 : w_516 h = some (1, .inr (cx_K, [.ref D.t, .ref D.a, .ref D.lv, .ref D.sn, .ref D.g, .ref D.k, .ref D.ne, .int (nI σ.sf), .int (bo_i σ.ib), .int (nI (σ.sq + 1)), .int (nI σ.pr), .int (nI σ.mi)])) := hk9.o
  obtain ⟨sl_520, _, hc_521, -⟩ := id hk9.t
  refine dk_callv (va_runV (As := [.ref q9]) (rest := []) ⟨hx, hb, hml, hown, hts⟩ (c_R_add l G w_516 D.t 2 3 40 σ.tb hk9.t (by omega) q9 (x.1, σ.sq + 1, x.2.2.1, x.2.2.2) (dk_here hq3) hn) (cwV 1 hts (wd_gV (C := "RunKeeper$Row") wi_187 wi_465 wi_185 wi_186 wi_2) rfl rfl rfl (by decide +kernel) ⟨Nat.le_of_ble_eq_true rfl, Nat.le_of_ble_eq_true rfl⟩) (dk_preV (kn_R, kt_R, 2) hE hP hS hc_521 rfl) rfl rfl hl.1 rfl (lv_room (Nat.le_of_ble_eq_true rfl)) de_K_appendToTable_26 ⟨(by first | exact Nat.le_of_ble_eq_true rfl | (simp only [Nat.zero_add]; omega) | omega), (by first | exact Nat.le_of_ble_eq_true rfl | (simp only [Nat.zero_add]; omega) | omega)⟩) hS (fun w_522 H locs hq_523 hP hS => ?_)
  have hk_525 : kp_at G w_522 h D ((σ.sq' (σ.sq + 1)).tb' (σ.tb ++ [(x.1, σ.sq + 1, x.2.2.1, x.2.2.2)])) := hk9.oft hq_523.2 hq_523.1 (tb_ok hkp.tk ⟨hx1, hs⟩)
  have hh_526 : w_522 h = some (1, .inr (cx_K, [.ref D.t, .ref D.a, .ref D.lv, .ref D.sn, .ref D.g, .ref D.k, .ref D.ne, .int (nI σ.sf), .int (bo_i σ.ib), .int (nI (σ.sq + 1)), .int (nI σ.pr), .int (nI σ.mi)])) := hk_525.o
  exact dk_vret hQ hx hb hr hlocks hP hS (by omega) (by omega) (⟨hk_525, (((kp_o hf_511)).tr (kp_f hf9)).tr (kp_r hq_523.2 (by omega))⟩) de_K_appendToTable_29
abbrev rm_K_addRun : Room := { frames := 8, cells := 5, slots := 1579, locals := 192 }
set_option maxHeartbeats 4000000 in
set_option maxRecDepth 100000 in
theorem c_K_addRun (l : Launch) (G : dk_G) (w : dk_H) (h : Nat) (D : kp_D) (σ : kp_S) (hkp : kp_at G w h D σ) (i s0 u0 u1 cap : Nat) (L : List en_T) (hi : i < 6) (hs0 : rw_at G w s0 u0 u1 cap L) (hu : u0 ≠ 0 ∧ u1 ≠ 0 ∧ u0 < 60 ∧ u1 < 60) (hL6 : (σ.lv i).length < 600) (hc6 : le_ct (σ.lv i) + L.length ≤ 600) (hok : ∀ x ∈ L, en_ok x) : dk_Mv l my_K_addRun (wd_c my_K_addRun mb_K_addRun 3 none) rm_K_addRun G w [.ref h, .int (nI i), .ref s0] (fun w1 => kp_at G w1 h D (lv_add σ i L) ∧ dk_fr (fun t => t = 20 + 3 * i ∨ t = 20 + 3 * i + 1 ∨ t = 20 + 3 * i + 2 ∨ (60 ≤ t ∧ t ≤ 63)) w w1) 5 1579 := by
  obtain ⟨ss, fs, hsc, -⟩ := id hs0
  refine dk_enter (lv := [(0, .ref h), (1, .int (nI i)), (2, .ref s0)]) (by decide) (Nat.le_of_ble_eq_true rfl) rfl (fun p e s m args below meth c ls Q hQ C hP hS hl => ?_)
  obtain ⟨hx, hb, hr, hml, hlocks, hown, hnm, hts, hE⟩ := C
  have hK := hE.1
  have hN := hE.2.1
  have hh_527 : w h = some (1, .inr (cx_K, [.ref D.t, .ref D.a, .ref D.lv, .ref D.sn, .ref D.g, .ref D.k, .ref D.ne, .int (nI σ.sf), .int (bo_i σ.ib), .int (nI σ.sq), .int (nI σ.pr), .int (nI σ.mi)])) := hkp.o
  refine lv_iload_n hx hb de_K_addRun_0 rfl (lv_at hl 1 rfl) ?_
  refine dk_calli (va_runS (As := [.int (nI i)]) (rest := []) ⟨hx, hb, hml, hown, hts⟩ (c_K_isLevel l G w (nI i)) (va_cwS 1 hts (wd_gS wi_170 wi_168 wi_169 wi_1) rfl rfl rfl (by decide +kernel) ⟨Nat.le_of_ble_eq_true rfl, Nat.le_of_ble_eq_true rfl⟩) (dk_preS hE hP hS) rfl rfl hl.1 rfl (lv_room (Nat.le_of_ble_eq_true rfl)) de_K_addRun_1 ⟨(by first | exact Nat.le_of_ble_eq_true rfl | (simp only [Nat.zero_add]; omega) | omega), (by first | exact Nat.le_of_ble_eq_true rfl | (simp only [Nat.zero_add]; omega) | omega)⟩) hS (fun r_530 w_528 H locs hq_529 hP hS => ?_)
  rw [in_nat (by omega) (by decide)] at hq_529
  obtain ⟨hr_531, he_532⟩ := hq_529
  subst hr_531
  rw [he_532] at hP
  refine bo_if_eq (b := (decide (i < 6))) (tgt := 31) hx hb de_K_addRun_4 (by decide) (fun c_533 => ?_) (fun c_533 => ?_)
  · exact absurd c_533 (by simp [hi])
  · refine lv_aload_n hx hb de_K_addRun_7 rfl (lv_at hl 2 rfl) ?_
    refine dk_calli (va_runV (As := []) (rest := []) ⟨hx, hb, hml, hown, hts⟩ (c_R_size l G w s0 u0 u1 cap L hs0) (cwV 0 hts (wd_gV (C := "RunKeeper$Row") wi_147 wi_144 wi_145 wi_146 wi_2) rfl rfl rfl (by decide +kernel) ⟨Nat.le_of_ble_eq_true rfl, Nat.le_of_ble_eq_true rfl⟩) (dk_preV (kn_R, kt_R, 2) hE hP hS hsc rfl) rfl rfl hl.1 rfl (lv_room (Nat.le_of_ble_eq_true rfl)) de_K_addRun_8 ⟨(by first | exact Nat.le_of_ble_eq_true rfl | (simp only [Nat.zero_add]; omega) | omega), (by first | exact Nat.le_of_ble_eq_true rfl | (simp only [Nat.zero_add]; omega) | omega)⟩) hS (fun r_536 w_534 H locs hq_535 hP hS => ?_)
    obtain ⟨hr_537, he_538⟩ := hq_535
    subst hr_537
    rw [he_538] at hP
    refine nx_if_le (a := L.length) (tgt := 31) hx hb (by omega) de_K_addRun_11 (by decide) (fun c_539 => ?_) (fun c_539 => ?_)
    · have e9 : L = [] := List.length_eq_zero_iff.mp (by omega)
      exact dk_vret hQ hx hb hr hlocks hP hS (by omega) (by omega) (⟨by rw [lv_add, if_pos e9]; exact hkp, dk_fr.rf⟩) de_K_addRun_31
    · have e9 : L ≠ [] := fun z => by rw [z] at c_539; simp at c_539
      refine lv_aload_n hx hb de_K_addRun_14 rfl (lv_at hl 0 rfl) ?_
      refine dk_get (a := h) (v := .ref D.lv) (C := kn_K) (T := kt_K) (N := 12) hx hb hts ki_K hown hK hP hh_527 rfl 2 (by decide) (hts _ wi_105) (fun _ h9 => h9) rfl de_K_addRun_15 ?_
      refine lv_iload_n hx hb de_K_addRun_18 rfl (lv_at hl 1 rfl) ?_
      refine dk_aald (a := D.lv) (r := some (D.le i)) (C := dk_nL) hx hb hK hP hkp.l rfl i rfl (by omega) (by omega) ((hkp.v i (by omega)).1) de_K_addRun_19 ?_
      obtain ⟨al_540, _, hc_541, -⟩ := id (hkp.v i (by omega)).2
      refine dk_new 63 (fs := [.null, .null]) (C := kn_U) (T := kt_U) (N := 2) (ci := cx_U) hx hb hts ki_U ky_U kk_U hown (hts _ wi_171) (hts _ wi_172) (hts _ wi_15) hK hP hS hE.2.2.2 rfl (fun j hj => by match j, hj with | 0, _ => rfl | 1, _ => rfl | j + 2, h => exact absurd h (by omega)) (by first | exact Nat.le_of_ble_eq_true rfl | (simp only [Nat.zero_add]; omega) | omega) (by first | exact Nat.le_of_ble_eq_true rfl | (simp only [Nat.zero_add]; omega) | omega) de_K_addRun_20 (fun q_542 H w_543 hn_545 hw_544 hP hS => ?_)
      have h_546 : w_543 q_542 = some (63, .inr (cx_U, [.null, .null])) := dk_here hw_544
      have h_547 : w_543 h = some (1, .inr (cx_K, [.ref D.t, .ref D.a, .ref D.lv, .ref D.sn, .ref D.g, .ref D.k, .ref D.ne, .int (nI σ.sf), .int (bo_i σ.ib), .int (nI σ.sq), .int (nI σ.pr), .int (nI σ.mi)])) := dk_keepN hw_544 hn_545 hh_527
      have h_548 : w_543 D.lv = some (11, dk_ca G 4 6 D.lf) := dk_keepN hw_544 hn_545 hkp.l
      have h_549 : w_543 s0 = some (u0, .inr (cx_R, [.ref ss, .int (nI L.length)])) := dk_keepN hw_544 hn_545 hsc
      have h_550 : w_543 (D.le i) = some (20 + 3 * i, .inr (cx_V, [.ref al_540, .int (nI (le_ct (σ.lv i)))])) := dk_keepN hw_544 hn_545 hc_541
      have hf1 : dk_fr (fun t => 60 ≤ t ∧ t ≤ 63) w w_543 := (dk_fr.upN hn_545).eq hw_544
      refine lv_dup hx hb de_K_addRun_23 rfl ?_
      refine lv_aload_n hx hb de_K_addRun_24 rfl (lv_at hl 2 rfl) ?_
      refine dk_callv (va_runI (As := [.ref s0]) (rest := [.ref q_542, .ref (D.le i)]) ⟨hx, hb, hml, hown, hts⟩ (c_U_init l G w_543 q_542 s0 u0 u1 cap L h_546 (hs0.fr hf1 (by omega) (by omega) (by omega)) hu (by omega) (by omega) hok) (cwI 1 hts (wd_g wi_175) rfl rfl rfl (hts _ wi_15) (hts _ wi_173) (hts _ wi_174) rfl (by decide +kernel) ⟨Nat.le_of_ble_eq_true rfl, Nat.le_of_ble_eq_true rfl⟩) (dk_preS hE hP hS) rfl rfl hl.1 rfl (lv_room (Nat.le_of_ble_eq_true rfl)) de_K_addRun_25 ⟨(by first | exact Nat.le_of_ble_eq_true rfl | (simp only [Nat.zero_add]; omega) | omega), (by first | exact Nat.le_of_ble_eq_true rfl | (simp only [Nat.zero_add]; omega) | omega)⟩) hS (fun w_551 H locs hq_552 hP hS => ?_)
      have hf2 := hf1.tr hq_552.2
      have hk2 := hkp.off hf2
      have hh_554 : w_551 h = some (1, .inr (cx_K, [.ref D.t, .ref D.a, .ref D.lv, .ref D.sn, .ref D.g, .ref D.k, .ref D.ne, .int (nI σ.sf), .int (bo_i σ.ib), .int (nI σ.sq), .int (nI σ.pr), .int (nI σ.mi)])) := hk2.o
      obtain ⟨al_555, _, hc_556, -⟩ := id (hk2.v i (by omega)).2
      refine dk_callv (va_runV (As := [.ref q_542]) (rest := []) ⟨hx, hb, hml, hown, hts⟩ (c_V_add l G w_551 (D.le i) (20 + 3 * i) (σ.lv i) (hk2.v i (by omega)).2 (by omega) q_542 L hq_552.1 hL6 hc6) (cwV 1 hts (wd_gV (C := "RunKeeper$Level") wi_211 wi_208 wi_209 wi_210 wi_4) rfl rfl rfl (by decide +kernel) ⟨Nat.le_of_ble_eq_true rfl, Nat.le_of_ble_eq_true rfl⟩) (dk_preV (kn_V, kt_V, 2) hE hP hS hc_556 rfl) rfl rfl hl.1 rfl (lv_room (Nat.le_of_ble_eq_true rfl)) de_K_addRun_28 ⟨(by first | exact Nat.le_of_ble_eq_true rfl | (simp only [Nat.zero_add]; omega) | omega), (by first | exact Nat.le_of_ble_eq_true rfl | (simp only [Nat.zero_add]; omega) | omega)⟩) hS (fun w_557 H locs hq_558 hP hS => ?_)
      have hk_560 : kp_at G w_557 h D (σ.lv' (va_up σ.lv i (σ.lv i ++ [L]))) := hk2.ofv (by omega) hq_558.2 hq_558.1
      have hh_561 : w_557 h = some (1, .inr (cx_K, [.ref D.t, .ref D.a, .ref D.lv, .ref D.sn, .ref D.g, .ref D.k, .ref D.ne, .int (nI σ.sf), .int (bo_i σ.ib), .int (nI σ.sq), .int (nI σ.pr), .int (nI σ.mi)])) := hk_560.o
      have hf3 : dk_fr (fun t => t = 20 + 3 * i ∨ t = 20 + 3 * i + 1 ∨ t = 20 + 3 * i + 2) _ _ := hq_558.2
      exact dk_vret hQ hx hb hr hlocks hP hS (by omega) (by omega) (⟨by rw [lv_add, if_neg e9]; exact hk_560, (hf2.mono (fun t z => by omega)).tr (hf3.mono (fun t z => by omega))⟩) de_K_addRun_31
abbrev rm_K_flushTableIfItHas : Room := { frames := 9, cells := 5, slots := 1579, locals := 214 }
set_option maxHeartbeats 4000000 in
set_option maxRecDepth 100000 in
theorem c_K_flushTableIfItHas (l : Launch) (G : dk_G) (w : dk_H) (h : Nat) (D : kp_D) (σ : kp_S) (hkp : kp_at G w h D σ) (n : Nat) (hn1 : 1 ≤ n) (hn2 : n < 2 ^ 31) (hc6 : kp_n σ ≤ 600) : dk_Mv l my_K_flushTableIfItHas (wd_c my_K_flushTableIfItHas mb_K_flushTableIfItHas 2 none) rm_K_flushTableIfItHas G w [.ref h, .int (nI n)] (fun w1 => kp_at G w1 h D (kp_fl σ n) ∧ dk_fr kp_T w w1) 5 1579 := by
  have hlt : σ.tb.length ≤ 40 := hkp.t.choose_spec.choose_spec.2.2.1
  have hl0 := lv_ct_le σ.lv (show 0 < 6 by decide)
  unfold kp_n at hc6
  refine dk_enter (lv := [(0, .ref h), (1, .int (nI n))]) (by decide) (Nat.le_of_ble_eq_true rfl) rfl (fun p e s m args below meth c ls Q hQ C hP hS hl => ?_)
  obtain ⟨hx, hb, hr, hml, hlocks, hown, hnm, hts, hE⟩ := C
  have hK := hE.1
  have hN := hE.2.1
  have hh_562 : w h = some (1, .inr (cx_K, [.ref D.t, .ref D.a, .ref D.lv, .ref D.sn, .ref D.g, .ref D.k, .ref D.ne, .int (nI σ.sf), .int (bo_i σ.ib), .int (nI σ.sq), .int (nI σ.pr), .int (nI σ.mi)])) := hkp.o
  obtain ⟨sl_563, _, hc_564, -⟩ := id hkp.t
  refine lv_aload_n hx hb de_K_flushTableIfItHas_0 rfl (lv_at hl 0 rfl) ?_
  refine dk_get (a := h) (v := .ref D.t) (C := kn_K) (T := kt_K) (N := 12) hx hb hts ki_K hown hK hP hh_562 rfl 0 (by decide) (hts _ wi_103) (fun _ h9 => h9) rfl de_K_flushTableIfItHas_1 ?_
  refine dk_calli (va_runV (As := []) (rest := []) ⟨hx, hb, hml, hown, hts⟩ (c_R_size l G w D.t 2 3 40 σ.tb hkp.t) (cwV 0 hts (wd_gV (C := "RunKeeper$Row") wi_147 wi_144 wi_145 wi_146 wi_2) rfl rfl rfl (by decide +kernel) ⟨Nat.le_of_ble_eq_true rfl, Nat.le_of_ble_eq_true rfl⟩) (dk_preV (kn_R, kt_R, 2) hE hP hS hc_564 rfl) rfl rfl hl.1 rfl (lv_room (Nat.le_of_ble_eq_true rfl)) de_K_flushTableIfItHas_4 ⟨(by first | exact Nat.le_of_ble_eq_true rfl | (simp only [Nat.zero_add]; omega) | omega), (by first | exact Nat.le_of_ble_eq_true rfl | (simp only [Nat.zero_add]; omega) | omega)⟩) hS (fun r_567 w_565 H locs hq_566 hP hS => ?_)
  obtain ⟨hr_568, he_569⟩ := hq_566
  subst hr_568
  rw [he_569] at hP
  refine lv_iload_n hx hb de_K_flushTableIfItHas_7 rfl (lv_at hl 1 rfl) ?_
  refine nx_icmp_lt (a := σ.tb.length) (b := n) (tgt := 40) hx hb (by omega) (by omega) de_K_flushTableIfItHas_8 (by decide) (fun c_570 => ?_) (fun c_570 => ?_)
  · exact dk_vret hQ hx hb hr hlocks hP hS (by omega) (by omega) (⟨by rw [kp_fl, if_neg (by omega)]; exact hkp, dk_fr.rf⟩) de_K_flushTableIfItHas_40
  · refine lv_aload_n hx hb de_K_flushTableIfItHas_11 rfl (lv_at hl 0 rfl) ?_
    refine dk_get (a := h) (v := .ref D.t) (C := kn_K) (T := kt_K) (N := 12) hx hb hts ki_K hown hK hP hh_562 rfl 0 (by decide) (hts _ wi_103) (fun _ h9 => h9) rfl de_K_flushTableIfItHas_12 ?_
    refine dk_callv (va_runV (As := []) (rest := []) ⟨hx, hb, hml, hown, hts⟩ (c_R_sortAsRun l G w D.t 2 3 40 σ.tb hkp.t (by omega) hkp.tk) (cwV 0 hts (wd_gV (C := "RunKeeper$Row") wi_159 wi_156 wi_157 wi_158 wi_2) rfl rfl rfl (by decide +kernel) ⟨Nat.le_of_ble_eq_true rfl, Nat.le_of_ble_eq_true rfl⟩) (dk_preV (kn_R, kt_R, 2) hE hP hS hc_564 rfl) rfl rfl hl.1 rfl (lv_room (Nat.le_of_ble_eq_true rfl)) de_K_flushTableIfItHas_15 ⟨(by first | exact Nat.le_of_ble_eq_true rfl | (simp only [Nat.zero_add]; omega) | omega), (by first | exact Nat.le_of_ble_eq_true rfl | (simp only [Nat.zero_add]; omega) | omega)⟩) hS (fun w_571 H locs hq_572 hP hS => ?_)
    have hk_574 : kp_at G w_571 h D (σ.tb' (so_st σ.tb)) := hkp.oft hq_572.2 hq_572.1 (fun y hy => hkp.tk y (so_st_mem.mp hy))
    have hh_575 : w_571 h = some (1, .inr (cx_K, [.ref D.t, .ref D.a, .ref D.lv, .ref D.sn, .ref D.g, .ref D.k, .ref D.ne, .int (nI σ.sf), .int (bo_i σ.ib), .int (nI σ.sq), .int (nI σ.pr), .int (nI σ.mi)])) := hk_574.o
    have hsl := so_st_len σ.tb
    have hL6 : (σ.lv 0).length < 600 := by have := hkp.rl (show 0 < 6 by decide); omega
    refine lv_aload_n hx hb de_K_flushTableIfItHas_18 rfl (lv_at hl 0 rfl) ?_
    refine lv_iconst (v := nI 0) hx hb de_K_flushTableIfItHas_19 (by decide) ?_
    refine lv_aload_n hx hb de_K_flushTableIfItHas_20 rfl (lv_at hl 0 rfl) ?_
    refine dk_get (a := h) (v := .ref D.t) (C := kn_K) (T := kt_K) (N := 12) hx hb hts ki_K hown hK hP hh_575 rfl 0 (by decide) (hts _ wi_103) (fun _ h9 => h9) rfl de_K_flushTableIfItHas_21 ?_
    refine dk_callv (va_runV (As := [.int (nI 0), .ref D.t]) (rest := []) ⟨hx, hb, hml, hown, hts⟩ (c_K_addRun l G w_571 h D (σ.tb' (so_st σ.tb)) hk_574 0 D.t 2 3 40 (so_st σ.tb) (by decide) hk_574.t (by omega) hL6 (by rw [hsl]; show le_ct (σ.lv 0) + _ ≤ 600; omega) (fun y hy => hkp.tk y (so_st_mem.mp hy))) (cwV 2 hts (wd_gV (C := "RunKeeper") wi_167 wi_164 wi_166 (wd_p (q := (⟨"RunKeeper", "addRun", "(ILRunKeeper$Row;)V"⟩, 12)) (by decide +kernel) (by decide +kernel)) wi_1) rfl rfl rfl (by decide +kernel) ⟨Nat.le_of_ble_eq_true rfl, Nat.le_of_ble_eq_true rfl⟩) (dk_preV (kn_K, kt_K, 12) hE hP hS hh_575 rfl) rfl rfl hl.1 rfl (lv_room (Nat.le_of_ble_eq_true rfl)) de_K_flushTableIfItHas_24 ⟨(by first | exact Nat.le_of_ble_eq_true rfl | (simp only [Nat.zero_add]; omega) | omega), (by first | exact Nat.le_of_ble_eq_true rfl | (simp only [Nat.zero_add]; omega) | omega)⟩) hS (fun w_576 H locs hq_577 hP hS => ?_)
    have hq9 := hq_577.1
    rw [lv_add, if_neg (fun z => by rw [z] at hsl; simp at hsl; omega)] at hq9
    have hf9 : dk_fr kp_T _ _ := hq_577.2.mono (fun t z => by unfold kp_T; omega)
    have hz9 := And.intro hq9 hf9
    have hk_579 : kp_at G w_576 h D ((σ.tb' (so_st σ.tb)).lv' (va_up σ.lv 0 (σ.lv 0 ++ [so_st σ.tb]))) := hz9.1
    have hh_580 : w_576 h = some (1, .inr (cx_K, [.ref D.t, .ref D.a, .ref D.lv, .ref D.sn, .ref D.g, .ref D.k, .ref D.ne, .int (nI σ.sf), .int (bo_i σ.ib), .int (nI σ.sq), .int (nI σ.pr), .int (nI σ.mi)])) := hk_579.o
    obtain ⟨sl_581, _, hc_582, -⟩ := id hk_579.t
    refine lv_aload_n hx hb de_K_flushTableIfItHas_27 rfl (lv_at hl 0 rfl) ?_
    refine dk_get (a := h) (v := .ref D.t) (C := kn_K) (T := kt_K) (N := 12) hx hb hts ki_K hown hK hP hh_580 rfl 0 (by decide) (hts _ wi_103) (fun _ h9 => h9) rfl de_K_flushTableIfItHas_28 ?_
    refine lv_iconst (v := nI 0) hx hb de_K_flushTableIfItHas_31 (by decide) ?_
    refine dk_callv (va_runV (As := [.int (nI 0)]) (rest := []) ⟨hx, hb, hml, hown, hts⟩ (c_R_cutTo l G w_576 D.t 2 3 40 (so_st σ.tb) hk_579.t (by omega) 0 (by decide)) (cwV 1 hts (wd_gV (C := "RunKeeper$Row") wi_279 wi_276 wi_277 wi_278 wi_2) rfl rfl rfl (by decide +kernel) ⟨Nat.le_of_ble_eq_true rfl, Nat.le_of_ble_eq_true rfl⟩) (dk_preV (kn_R, kt_R, 2) hE hP hS hc_582 rfl) rfl rfl hl.1 rfl (lv_room (Nat.le_of_ble_eq_true rfl)) de_K_flushTableIfItHas_32 ⟨(by first | exact Nat.le_of_ble_eq_true rfl | (simp only [Nat.zero_add]; omega) | omega), (by first | exact Nat.le_of_ble_eq_true rfl | (simp only [Nat.zero_add]; omega) | omega)⟩) hS (fun w_583 H locs hq_584 hP hS => ?_)
    have hk_586 : kp_at G w_583 h D (((σ.tb' (so_st σ.tb)).lv' (va_up σ.lv 0 (σ.lv 0 ++ [so_st σ.tb]))).tb' ((so_st σ.tb).take 0)) := hk_579.oft hq_584.2 hq_584.1 (fun y hy => by simp at hy)
    have hh_587 : w_583 h = some (1, .inr (cx_K, [.ref D.t, .ref D.a, .ref D.lv, .ref D.sn, .ref D.g, .ref D.k, .ref D.ne, .int (nI σ.sf), .int (bo_i σ.ib), .int (nI σ.sq), .int (nI σ.pr), .int (nI σ.mi)])) := hk_586.o
    refine lv_aload_n hx hb de_K_flushTableIfItHas_35 rfl (lv_at hl 0 rfl) ?_
    refine lv_iconst (v := nI 0) hx hb de_K_flushTableIfItHas_36 (by decide) ?_
    refine dk_put (a := h) (v := .int (nI 0)) (ty := .int) (C := kn_K) (T := kt_K) (N := 12) hx hb hts ki_K ky_K kk_K kd_K hown hK hP hS hh_587 rfl 7 (by decide) (hts _ wi_110) (fun _ h9 => h9) rfl (by decide +kernel) rfl rfl (Nat.le_of_ble_eq_true rfl) de_K_flushTableIfItHas_37 (fun H locs w_588 hw_589 hP hS => ?_)
    have h_590 : w_588 h = some (1, .inr (cx_K, [.ref D.t, .ref D.a, .ref D.lv, .ref D.sn, .ref D.g, .ref D.k, .ref D.ne, .int (nI 0), .int (bo_i σ.ib), .int (nI σ.sq), .int (nI σ.pr), .int (nI σ.mi)])) := dk_here hw_589
    have h_591 : w_588 D.lv = some (11, dk_ca G 4 6 D.lf) := dk_keep hw_589 hh_587 hk_586.l (by decide)
    have hf_592 : dk_fr (fun t => t = 1) w_583 w_588 := ((dk_fr.up (T := fun t => t = 1) hh_587 rfl).eq hw_589)
    have hk_593 : kp_at G w_588 h D ((((σ.tb' (so_st σ.tb)).lv' (va_up σ.lv 0 (σ.lv 0 ++ [so_st σ.tb]))).tb' ((so_st σ.tb).take 0)).sf' (0)) := hk_586.ofo hf_592 h_590 rfl rfl rfl rfl rfl rfl rfl
    have hh_594 : w_588 h = some (1, .inr (cx_K, [.ref D.t, .ref D.a, .ref D.lv, .ref D.sn, .ref D.g, .ref D.k, .ref D.ne, .int (nI 0), .int (bo_i σ.ib), .int (nI σ.sq), .int (nI σ.pr), .int (nI σ.mi)])) := hk_593.o
    exact dk_vret hQ hx hb hr hlocks hP hS (by omega) (by omega) (⟨by rw [kp_fl, if_pos (by omega)]; exact hk_593, ((((kp_r hq_572.2 (by omega))).tr (hz9.2)).tr (kp_r hq_584.2 (by omega))).tr (kp_o hf_592)⟩) de_K_flushTableIfItHas_40
abbrev rm_K_gatherEverything : Room := { frames := 4, cells := 0, slots := 0, locals := 86 }
set_option maxHeartbeats 4000000 in
set_option maxRecDepth 100000 in
theorem c_K_gatherEverything (l : Launch) (G : dk_G) (w : dk_H) (h : Nat) (D : kp_D) (σ : kp_S) (hkp : kp_at G w h D σ) (hc6 : kp_n σ ≤ 600) : dk_Mv l my_K_gatherEverything (wd_c my_K_gatherEverything mb_K_gatherEverything 2 none) rm_K_gatherEverything G w [.ref h] (fun w1 => kp_at G w1 h D (σ.ga' (σ.tb ++ lv_fl σ.lv 6)) ∧ dk_fr kp_T w w1) 0 0 := by
  unfold kp_n at hc6
  refine dk_enter (lv := [(0, .ref h)]) (by decide) (Nat.le_of_ble_eq_true rfl) rfl (fun p e s m args below meth c ls Q hQ C hP hS hl => ?_)
  obtain ⟨hx, hb, hr, hml, hlocks, hown, hnm, hts, hE⟩ := C
  have hK := hE.1
  have hN := hE.2.1
  have hh_595 : w h = some (1, .inr (cx_K, [.ref D.t, .ref D.a, .ref D.lv, .ref D.sn, .ref D.g, .ref D.k, .ref D.ne, .int (nI σ.sf), .int (bo_i σ.ib), .int (nI σ.sq), .int (nI σ.pr), .int (nI σ.mi)])) := hkp.o
  obtain ⟨sl_596, _, hc_597, -⟩ := id hkp.g
  refine lv_aload_n hx hb de_K_gatherEverything_0 rfl (lv_at hl 0 rfl) ?_
  refine dk_get (a := h) (v := .ref D.g) (C := kn_K) (T := kt_K) (N := 12) hx hb hts ki_K hown hK hP hh_595 rfl 4 (by decide) (hts _ wi_107) (fun _ h9 => h9) rfl de_K_gatherEverything_1 ?_
  refine lv_iconst (v := nI 0) hx hb de_K_gatherEverything_4 (by decide) ?_
  refine dk_callv (va_runV (As := [.int (nI 0)]) (rest := []) ⟨hx, hb, hml, hown, hts⟩ (c_R_cutTo l G w D.g 6 7 600 σ.ga hkp.g (by omega) 0 (by decide)) (cwV 1 hts (wd_gV (C := "RunKeeper$Row") wi_279 wi_276 wi_277 wi_278 wi_2) rfl rfl rfl (by decide +kernel) ⟨Nat.le_of_ble_eq_true rfl, Nat.le_of_ble_eq_true rfl⟩) (dk_preV (kn_R, kt_R, 2) hE hP hS hc_597 rfl) rfl rfl hl.1 rfl (lv_room (Nat.le_of_ble_eq_true rfl)) de_K_gatherEverything_5 ⟨(by first | exact Nat.le_of_ble_eq_true rfl | (simp only [Nat.zero_add]; omega) | omega), (by first | exact Nat.le_of_ble_eq_true rfl | (simp only [Nat.zero_add]; omega) | omega)⟩) hS (fun w_598 H locs hq_599 hP hS => ?_)
  have hk_601 : kp_at G w_598 h D (σ.ga' (σ.ga.take 0)) := hkp.ofg hq_599.2 hq_599.1
  have hh_602 : w_598 h = some (1, .inr (cx_K, [.ref D.t, .ref D.a, .ref D.lv, .ref D.sn, .ref D.g, .ref D.k, .ref D.ne, .int (nI σ.sf), .int (bo_i σ.ib), .int (nI σ.sq), .int (nI σ.pr), .int (nI σ.mi)])) := hk_601.o
  obtain ⟨sl_603, _, hc_604, -⟩ := id hk_601.g
  refine lv_aload_n hx hb de_K_gatherEverything_8 rfl (lv_at hl 0 rfl) ?_
  refine dk_get (a := h) (v := .ref D.g) (C := kn_K) (T := kt_K) (N := 12) hx hb hts ki_K hown hK hP hh_602 rfl 4 (by decide) (hts _ wi_107) (fun _ h9 => h9) rfl de_K_gatherEverything_9 ?_
  refine lv_aload_n hx hb de_K_gatherEverything_12 rfl (lv_at hl 0 rfl) ?_
  refine dk_get (a := h) (v := .ref D.t) (C := kn_K) (T := kt_K) (N := 12) hx hb hts ki_K hown hK hP hh_602 rfl 0 (by decide) (hts _ wi_103) (fun _ h9 => h9) rfl de_K_gatherEverything_13 ?_
  refine dk_callv (va_runV (As := [.ref D.t]) (rest := []) ⟨hx, hb, hml, hown, hts⟩ (c_R_addAll l G w_598 D.g 6 7 600 (σ.ga.take 0) hk_601.g (by omega) D.t 2 3 40 σ.tb hk_601.t (by omega) (by simp; omega)) (cwV 1 hts (wd_gV (C := "RunKeeper$Row") wi_183 wi_296 wi_181 wi_182 wi_2) rfl rfl rfl (by decide +kernel) ⟨Nat.le_of_ble_eq_true rfl, Nat.le_of_ble_eq_true rfl⟩) (dk_preV (kn_R, kt_R, 2) hE hP hS hc_604 rfl) rfl rfl hl.1 rfl (lv_room (Nat.le_of_ble_eq_true rfl)) de_K_gatherEverything_16 ⟨(by first | exact Nat.le_of_ble_eq_true rfl | (simp only [Nat.zero_add]; omega) | omega), (by first | exact Nat.le_of_ble_eq_true rfl | (simp only [Nat.zero_add]; omega) | omega)⟩) hS (fun w_605 H locs hq_606 hP hS => ?_)
  have hk_608 : kp_at G w_605 h D ((σ.ga' (σ.ga.take 0)).ga' (σ.ga.take 0 ++ σ.tb)) := hk_601.ofg hq_606.2 hq_606.1
  have hh_609 : w_605 h = some (1, .inr (cx_K, [.ref D.t, .ref D.a, .ref D.lv, .ref D.sn, .ref D.g, .ref D.k, .ref D.ne, .int (nI σ.sf), .int (bo_i σ.ib), .int (nI σ.sq), .int (nI σ.pr), .int (nI σ.mi)])) := hk_608.o
  refine lv_iconst (v := nI 0) hx hb de_K_gatherEverything_19 (by decide) ?_
  refine lv_istore_n (lv' := [(1, .int (nI 0)), (0, .ref h)]) hx hb de_K_gatherEverything_20 rfl hl (by decide) rfl (fun ls hl => ?_)
  have lp : ∀ (zk : Nat) (i : Nat), 6 - i < zk → (i ≤ 6) → ∀ (H : Heap) (locs : List Loc) (v : dk_H), (kp_at G v h D (σ.ga' (σ.tb ++ lv_fl σ.lv i))) → (dk_fr kp_T w v) → dk_P G v H → dk_S G s.heap H locs → ∀ (ls : Array Slot), lv_has ls 2 [(0, .ref h), (1, .int (nI i))] → W p l e rm_K_gatherEverything s m args below meth c H locs (0 + 0 + 0) (0 + 0 + 0) Q (F0 m 21 ls []) := by
    intro zk
    induction zk with
    | zero =>
      intro i hk
      exact absurd hk (by omega)
    | succ zk ih =>
      intro i hk hi
      intro H locs v hkv hg hP hS
      intro ls hl
      have hh_610 : v h = some (1, .inr (cx_K, [.ref D.t, .ref D.a, .ref D.lv, .ref D.sn, .ref D.g, .ref D.k, .ref D.ne, .int (nI ((σ.ga' (σ.tb ++ lv_fl σ.lv i)).sf)), .int (bo_i ((σ.ga' (σ.tb ++ lv_fl σ.lv i)).ib)), .int (nI ((σ.ga' (σ.tb ++ lv_fl σ.lv i)).sq)), .int (nI ((σ.ga' (σ.tb ++ lv_fl σ.lv i)).pr)), .int (nI ((σ.ga' (σ.tb ++ lv_fl σ.lv i)).mi))])) := hkv.o
      have hh_611 : v h = some (1, .inr (cx_K, [.ref D.t, .ref D.a, .ref D.lv, .ref D.sn, .ref D.g, .ref D.k, .ref D.ne, .int (nI σ.sf), .int (bo_i σ.ib), .int (nI σ.sq), .int (nI σ.pr), .int (nI σ.mi)])) := hkv.o
      refine lv_iload_n hx hb de_K_gatherEverything_21 rfl (lv_at hl 1 rfl) ?_
      refine lv_bipush (v := nI 6) hx hb de_K_gatherEverything_22 (by decide) ?_
      refine nx_icmp_ge (a := i) (b := 6) (tgt := 46) hx hb (by omega) (by omega) de_K_gatherEverything_24 (by decide) (fun c_612 => ?_) (fun c_612 => ?_)
      · have e9 : i = 6 := by omega
        subst e9
        exact dk_vret hQ hx hb hr hlocks hP hS (Nat.le_refl _) (Nat.le_refl _) (⟨hkv, hg⟩) de_K_gatherEverything_46
      · have hm9 : lv_ct σ.lv i + le_ct (σ.lv i) ≤ lv_ct σ.lv 6 := lv_ct_mono σ.lv (m := i + 1) (n := 6) (by omega)
        refine lv_aload_n hx hb de_K_gatherEverything_27 rfl (lv_at hl 0 rfl) ?_
        refine dk_get (a := h) (v := .ref D.lv) (C := kn_K) (T := kt_K) (N := 12) hx hb hts ki_K hown hK hP hh_611 rfl 2 (by decide) (hts _ wi_105) (fun _ h9 => h9) rfl de_K_gatherEverything_28 ?_
        refine lv_iload_n hx hb de_K_gatherEverything_31 rfl (lv_at hl 1 rfl) ?_
        refine dk_aald (a := D.lv) (r := some (D.le i)) (C := dk_nL) hx hb hK hP hkv.l rfl i rfl (by omega) (by omega) ((hkv.v i (by omega)).1) de_K_gatherEverything_32 ?_
        obtain ⟨al_613, _, hc_614, -⟩ := id (hkv.v i (by omega)).2
        refine lv_aload_n hx hb de_K_gatherEverything_33 rfl (lv_at hl 0 rfl) ?_
        refine dk_get (a := h) (v := .ref D.g) (C := kn_K) (T := kt_K) (N := 12) hx hb hts ki_K hown hK hP hh_611 rfl 4 (by decide) (hts _ wi_107) (fun _ h9 => h9) rfl de_K_gatherEverything_34 ?_
        refine dk_callv (va_runV (As := [.ref D.g]) (rest := []) ⟨hx, hb, hml, hown, hts⟩ (c_V_copyTo l G v (D.le i) (20 + 3 * i) (σ.lv i) (hkv.v i (by omega)).2 (by omega) D.g 6 7 600 (σ.tb ++ lv_fl σ.lv i) hkv.g (by omega) (fun t z1 z2 => by unfold le_T at z2; omega) (by rw [List.length_append, lv_fl_len]; omega)) (cwV 1 hts (wd_gV (C := "RunKeeper$Level") wi_300 wi_297 wi_298 wi_299 wi_4) rfl rfl rfl (by decide +kernel) ⟨Nat.le_of_ble_eq_true rfl, Nat.le_of_ble_eq_true rfl⟩) (dk_preV (kn_V, kt_V, 2) hE hP hS hc_614 rfl) rfl rfl hl.1 rfl (lv_room (Nat.le_of_ble_eq_true rfl)) de_K_gatherEverything_37 ⟨(by first | exact Nat.le_of_ble_eq_true rfl | (simp only [Nat.zero_add]; omega) | omega), (by first | exact Nat.le_of_ble_eq_true rfl | (simp only [Nat.zero_add]; omega) | omega)⟩) hS (fun w_615 H locs hq_616 hP hS => ?_)
        have hk_618 : kp_at G w_615 h D ((σ.ga' (σ.tb ++ lv_fl σ.lv i)).ga' (σ.tb ++ lv_fl σ.lv i ++ (σ.lv i).flatten)) := hkv.ofg hq_616.2 hq_616.1
        have hh_619 : w_615 h = some (1, .inr (cx_K, [.ref D.t, .ref D.a, .ref D.lv, .ref D.sn, .ref D.g, .ref D.k, .ref D.ne, .int (nI σ.sf), .int (bo_i σ.ib), .int (nI σ.sq), .int (nI σ.pr), .int (nI σ.mi)])) := hk_618.o
        refine lv_iinc (v := nI (i + 1)) (lv' := [(1, .int (nI (i + 1))), (0, .ref h)]) hx hb de_K_gatherEverything_40 hl (k := 1) rfl (nx_inc i) (by decide) rfl (fun ls hl => ?_)
        refine lv_goto (tgt := 21) hx hb de_K_gatherEverything_43 (by decide) ?_
        have hk7 : kp_at G w_615 h D (σ.ga' (σ.tb ++ lv_fl σ.lv (i + 1))) := by rw [show σ.tb ++ lv_fl σ.lv (i + 1) = σ.tb ++ lv_fl σ.lv i ++ (σ.lv i).flatten by simp [lv_fl, List.append_assoc]]; exact hk_618
        exact ih (i + 1) (by omega) (by omega) _ _ _ hk7 (hg.tr (kp_r hq_616.2 (by omega))) hP hS _ (lv_sub hl [1, 0] rfl)
  exact lp 7 0 (by omega) (Nat.zero_le _) _ _ _ (by simpa [lv_fl] using hk_608) (((kp_r hq_599.2 (by omega))).tr (kp_r hq_606.2 (by omega))) hP hS _ (lv_sub hl [1, 0] rfl)
abbrev rm_K_leastLevelToMerge : Room := { frames := 2, cells := 0, slots := 0, locals := 40 }
set_option maxHeartbeats 4000000 in
set_option maxRecDepth 100000 in
theorem c_K_leastLevelToMerge (l : Launch) (G : dk_G) (w : dk_H) (h : Nat) (D : kp_D) (σ : kp_S) (hkp : kp_at G w h D σ) : dk_Mi l my_K_leastLevelToMerge (wd_c my_K_leastLevelToMerge mb_K_leastLevelToMerge 2 (some .int)) rm_K_leastLevelToMerge G w [.ref h] (fun r w1 => ((∃ j, j < 5 ∧ r = nI j ∧ 4 ≤ (σ.lv j).length ∧ ∀ i, i < j → (σ.lv i).length < 4) ∨ (r = -1 ∧ ∀ i, i < 5 → (σ.lv i).length < 4)) ∧ w1 = w) 0 0 := by
  refine dk_enter (lv := [(0, .ref h)]) (by decide) (Nat.le_of_ble_eq_true rfl) rfl (fun p e s m args below meth c ls Q hQ C hP hS hl => ?_)
  obtain ⟨hx, hb, hr, hml, hlocks, hown, hnm, hts, hE⟩ := C
  have hK := hE.1
  have hN := hE.2.1
  have hh_620 : w h = some (1, .inr (cx_K, [.ref D.t, .ref D.a, .ref D.lv, .ref D.sn, .ref D.g, .ref D.k, .ref D.ne, .int (nI σ.sf), .int (bo_i σ.ib), .int (nI σ.sq), .int (nI σ.pr), .int (nI σ.mi)])) := hkp.o
  refine lv_iconst (v := nI 0) hx hb de_K_leastLevelToMerge_0 (by decide) ?_
  refine lv_istore_n (lv' := [(1, .int (nI 0)), (0, .ref h)]) hx hb de_K_leastLevelToMerge_1 rfl hl (by decide) rfl (fun ls hl => ?_)
  have lp : ∀ (zk : Nat) (i : Nat), 5 - i < zk → (i ≤ 5) → (∀ j, j < i → (σ.lv j).length < 4) → ∀ (H : Heap) (locs : List Loc), dk_P G w H → dk_S G s.heap H locs → ∀ (ls : Array Slot), lv_has ls 2 [(0, .ref h), (1, .int (nI i))] → W p l e rm_K_leastLevelToMerge s m args below meth c H locs 0 0 Q (F0 m 2 ls []) := by
    intro zk
    induction zk with
    | zero =>
      intro i hk
      exact absurd hk (by omega)
    | succ zk ih =>
      intro i hk hi hno
      intro H locs hP hS
      intro ls hl
      refine lv_iload_n hx hb de_K_leastLevelToMerge_2 rfl (lv_at hl 1 rfl) ?_
      refine lv_iconst (v := nI 5) hx hb de_K_leastLevelToMerge_3 (by decide) ?_
      refine nx_icmp_ge (a := i) (b := 5) (tgt := 28) hx hb (by omega) (by omega) de_K_leastLevelToMerge_4 (by decide) (fun c_621 => ?_) (fun c_621 => ?_)
      · refine lv_iconst (v := (-1)) hx hb de_K_leastLevelToMerge_28 (by decide) ?_
        exact dk_iret hQ hx hb hr hlocks hP hS (Nat.le_refl _) (Nat.le_refl _) (⟨Or.inr ⟨rfl, fun j hj => hno j (by omega)⟩, rfl⟩) de_K_leastLevelToMerge_29
      · have hl9 : (σ.lv i).length ≤ 600 := (hkp.v i (by omega)).2.choose_spec.choose_spec.2.2.2.1
        refine lv_aload_n hx hb de_K_leastLevelToMerge_7 rfl (lv_at hl 0 rfl) ?_
        refine dk_get (a := h) (v := .ref D.lv) (C := kn_K) (T := kt_K) (N := 12) hx hb hts ki_K hown hK hP hh_620 rfl 2 (by decide) (hts _ wi_105) (fun _ h9 => h9) rfl de_K_leastLevelToMerge_8 ?_
        refine lv_iload_n hx hb de_K_leastLevelToMerge_11 rfl (lv_at hl 1 rfl) ?_
        refine dk_aald (a := D.lv) (r := some (D.le i)) (C := dk_nL) hx hb hK hP hkp.l rfl i rfl (by omega) (by omega) ((hkp.v i (by omega)).1) de_K_leastLevelToMerge_12 ?_
        obtain ⟨al_622, _, hc_623, -⟩ := id (hkp.v i (by omega)).2
        refine dk_calli (va_runV (As := []) (rest := []) ⟨hx, hb, hml, hown, hts⟩ (c_V_runCount l G w (D.le i) (20 + 3 * i) (σ.lv i) (hkp.v i (by omega)).2) (cwV 0 hts (wd_gV (C := "RunKeeper$Level") wi_536 wi_533 wi_534 wi_535 wi_4) rfl rfl rfl (by decide +kernel) ⟨Nat.le_of_ble_eq_true rfl, Nat.le_of_ble_eq_true rfl⟩) (dk_preV (kn_V, kt_V, 2) hE hP hS hc_623 rfl) rfl rfl hl.1 rfl (lv_room (Nat.le_of_ble_eq_true rfl)) de_K_leastLevelToMerge_13 ⟨(by first | exact Nat.le_of_ble_eq_true rfl | (simp only [Nat.zero_add]; omega) | omega), (by first | exact Nat.le_of_ble_eq_true rfl | (simp only [Nat.zero_add]; omega) | omega)⟩) hS (fun r_626 w_624 H locs hq_625 hP hS => ?_)
        obtain ⟨hr_627, he_628⟩ := hq_625
        subst hr_627
        rw [he_628] at hP
        refine lv_iconst (v := nI 4) hx hb de_K_leastLevelToMerge_16 (by decide) ?_
        refine nx_icmp_lt (a := (σ.lv i).length) (b := 4) (tgt := 22) hx hb (by omega) (by omega) de_K_leastLevelToMerge_17 (by decide) (fun c_629 => ?_) (fun c_629 => ?_)
        · refine lv_iinc (v := nI (i + 1)) (lv' := [(1, .int (nI (i + 1))), (0, .ref h)]) hx hb de_K_leastLevelToMerge_22 hl (k := 1) rfl (nx_inc i) (by decide) rfl (fun ls hl => ?_)
          refine lv_goto (tgt := 2) hx hb de_K_leastLevelToMerge_25 (by decide) ?_
          have hno2 := lt_s hno c_629
          exact ih (i + 1) (by omega) (by omega) hno2 _ _ hP hS _ (lv_sub hl [1, 0] rfl)
        · refine lv_iload_n hx hb de_K_leastLevelToMerge_20 rfl (lv_at hl 1 rfl) ?_
          exact dk_iret hQ hx hb hr hlocks hP hS (Nat.le_refl _) (Nat.le_refl _) (⟨Or.inl ⟨i, by omega, rfl, by omega, hno⟩, rfl⟩) de_K_leastLevelToMerge_21
  exact lp 6 0 (by omega) (Nat.zero_le _) (fun j hj => absurd hj (by omega)) _ _ hP hS _ (lv_sub hl [1, 0] rfl)
abbrev rm_K_areEmptyFrom : Room := { frames := 2, cells := 0, slots := 0, locals := 40 }
set_option maxHeartbeats 4000000 in
set_option maxRecDepth 100000 in
theorem c_K_areEmptyFrom (l : Launch) (G : dk_G) (w : dk_H) (h : Nat) (D : kp_D) (σ : kp_S) (hkp : kp_at G w h D σ) (k : Nat) (hk6 : k ≤ 6) : dk_Mi l my_K_areEmptyFrom (wd_c my_K_areEmptyFrom mb_K_areEmptyFrom 3 (some .boolean)) rm_K_areEmptyFrom G w [.ref h, .int (nI k)] (fun r w1 => (∃ b, r = bo_i b ∧ (b = true ↔ ∀ i, k ≤ i → i < 6 → σ.lv i = [])) ∧ w1 = w) 0 0 := by
  refine dk_enter (lv := [(0, .ref h), (1, .int (nI k))]) (by decide) (Nat.le_of_ble_eq_true rfl) rfl (fun p e s m args below meth c ls Q hQ C hP hS hl => ?_)
  obtain ⟨hx, hb, hr, hml, hlocks, hown, hnm, hts, hE⟩ := C
  have hK := hE.1
  have hN := hE.2.1
  have hh_630 : w h = some (1, .inr (cx_K, [.ref D.t, .ref D.a, .ref D.lv, .ref D.sn, .ref D.g, .ref D.k, .ref D.ne, .int (nI σ.sf), .int (bo_i σ.ib), .int (nI σ.sq), .int (nI σ.pr), .int (nI σ.mi)])) := hkp.o
  refine lv_iload_n hx hb de_K_areEmptyFrom_0 rfl (lv_at hl 1 rfl) ?_
  refine lv_istore_n (lv' := [(2, .int (nI k)), (0, .ref h), (1, .int (nI k))]) hx hb de_K_areEmptyFrom_1 rfl hl (by decide) rfl (fun ls hl => ?_)
  have lp : ∀ (zk : Nat) (i : Nat), 6 - i < zk → (i ≤ 6) → (k ≤ i) → (∀ j, k ≤ j → j < i → σ.lv j = []) → ∀ (H : Heap) (locs : List Loc), dk_P G w H → dk_S G s.heap H locs → ∀ (ls : Array Slot), lv_has ls 3 [(0, .ref h), (1, .int (nI k)), (2, .int (nI i))] → W p l e rm_K_areEmptyFrom s m args below meth c H locs 0 0 Q (F0 m 2 ls []) := by
    intro zk
    induction zk with
    | zero =>
      intro i hk
      exact absurd hk (by omega)
    | succ zk ih =>
      intro i hk hi hki hno
      intro H locs hP hS
      intro ls hl
      refine lv_iload_n hx hb de_K_areEmptyFrom_2 rfl (lv_at hl 2 rfl) ?_
      refine lv_bipush (v := nI 6) hx hb de_K_areEmptyFrom_3 (by decide) ?_
      refine nx_icmp_ge (a := i) (b := 6) (tgt := 28) hx hb (by omega) (by omega) de_K_areEmptyFrom_5 (by decide) (fun c_631 => ?_) (fun c_631 => ?_)
      · refine lv_iconst (v := nI 1) hx hb de_K_areEmptyFrom_28 (by decide) ?_
        exact dk_zret hQ hx hb hr hlocks hP hS (Nat.le_refl _) (Nat.le_refl _) (by decide +kernel) (⟨⟨true, rfl, fun _ j h1 h2 => hno j h1 (by omega), fun _ => rfl⟩, rfl⟩) de_K_areEmptyFrom_29
      · have hl9 : (σ.lv i).length ≤ 600 := (hkp.v i (by omega)).2.choose_spec.choose_spec.2.2.2.1
        refine lv_aload_n hx hb de_K_areEmptyFrom_8 rfl (lv_at hl 0 rfl) ?_
        refine dk_get (a := h) (v := .ref D.lv) (C := kn_K) (T := kt_K) (N := 12) hx hb hts ki_K hown hK hP hh_630 rfl 2 (by decide) (hts _ wi_105) (fun _ h9 => h9) rfl de_K_areEmptyFrom_9 ?_
        refine lv_iload_n hx hb de_K_areEmptyFrom_12 rfl (lv_at hl 2 rfl) ?_
        refine dk_aald (a := D.lv) (r := some (D.le i)) (C := dk_nL) hx hb hK hP hkp.l rfl i rfl (by omega) (by omega) ((hkp.v i (by omega)).1) de_K_areEmptyFrom_13 ?_
        obtain ⟨al_632, _, hc_633, -⟩ := id (hkp.v i (by omega)).2
        refine dk_calli (va_runV (As := []) (rest := []) ⟨hx, hb, hml, hown, hts⟩ (c_V_runCount l G w (D.le i) (20 + 3 * i) (σ.lv i) (hkp.v i (by omega)).2) (cwV 0 hts (wd_gV (C := "RunKeeper$Level") wi_536 wi_533 wi_534 wi_535 wi_4) rfl rfl rfl (by decide +kernel) ⟨Nat.le_of_ble_eq_true rfl, Nat.le_of_ble_eq_true rfl⟩) (dk_preV (kn_V, kt_V, 2) hE hP hS hc_633 rfl) rfl rfl hl.1 rfl (lv_room (Nat.le_of_ble_eq_true rfl)) de_K_areEmptyFrom_14 ⟨(by first | exact Nat.le_of_ble_eq_true rfl | (simp only [Nat.zero_add]; omega) | omega), (by first | exact Nat.le_of_ble_eq_true rfl | (simp only [Nat.zero_add]; omega) | omega)⟩) hS (fun r_636 w_634 H locs hq_635 hP hS => ?_)
        obtain ⟨hr_637, he_638⟩ := hq_635
        subst hr_637
        rw [he_638] at hP
        refine nx_if_le (a := (σ.lv i).length) (tgt := 22) hx hb (by omega) de_K_areEmptyFrom_17 (by decide) (fun c_639 => ?_) (fun c_639 => ?_)
        · have e9 : σ.lv i = [] := List.length_eq_zero_iff.mp (by omega)
          refine lv_iinc (v := nI (i + 1)) (lv' := [(2, .int (nI (i + 1))), (0, .ref h), (1, .int (nI k))]) hx hb de_K_areEmptyFrom_22 hl (k := 2) rfl (nx_inc i) (by decide) rfl (fun ls hl => ?_)
          refine lv_goto (tgt := 2) hx hb de_K_areEmptyFrom_25 (by decide) ?_
          have hno2 := em_s hno e9
          exact ih (i + 1) (by omega) (by omega) (by omega) hno2 _ _ hP hS _ (lv_sub hl [1, 2, 0] rfl)
        · refine lv_iconst (v := nI 0) hx hb de_K_areEmptyFrom_20 (by decide) ?_
          exact dk_zret hQ hx hb hr hlocks hP hS (Nat.le_refl _) (Nat.le_refl _) (by decide +kernel) (⟨⟨false, rfl, fun z => (Bool.noConfusion z), fun z => absurd (z i hki (by omega)) (fun y => by rw [y] at c_639; simp at c_639)⟩, rfl⟩) de_K_areEmptyFrom_21
  exact lp 7 k (by omega) (by omega) (Nat.le_refl _) (fun j hj h9 => absurd hj (by omega)) _ _ hP hS _ (lv_sub hl [1, 2, 0] rfl)
abbrev rm_K_isSeen : Room := { frames := 1, cells := 0, slots := 0, locals := 23 }
set_option maxHeartbeats 4000000 in
set_option maxRecDepth 100000 in
theorem c_K_isSeenN (l : Launch) (G : dk_G) (w : dk_H) (h : Nat) (D : kp_D) (σ : kp_S) (hkp : kp_at G w h D σ) (a : Nat) : dk_Mi l my_K_isSeen (wd_c my_K_isSeen mb_K_isSeen 3 (some .boolean)) rm_K_isSeen G w [.ref h, .ref a, .null] (fun r w1 => r = bo_i true ∧ w1 = w) 0 0 := by
  refine dk_enter (lv := [(0, .ref h), (1, .ref a), (2, .null)]) (by decide) (Nat.le_of_ble_eq_true rfl) rfl (fun p e s m args below meth c ls Q hQ C hP hS hl => ?_)
  obtain ⟨hx, hb, hr, hml, hlocks, hown, hnm, hts, hE⟩ := C
  have hK := hE.1
  have hN := hE.2.1
  have hh_640 : w h = some (1, .inr (cx_K, [.ref D.t, .ref D.a, .ref D.lv, .ref D.sn, .ref D.g, .ref D.k, .ref D.ne, .int (nI σ.sf), .int (bo_i σ.ib), .int (nI σ.sq), .int (nI σ.pr), .int (nI σ.mi)])) := hkp.o
  refine lv_aload_nN hx hb de_K_isSeen_0 rfl (lv_at hl 2 rfl) ?_
  refine lv_ifnullN (tgt := 12) hx hb de_K_isSeen_1 (by decide) ?_
  refine lv_iconst (v := nI 1) hx hb de_K_isSeen_12 (by decide) ?_
  exact dk_zret hQ hx hb hr hlocks hP hS (Nat.le_refl _) (Nat.le_refl _) (by decide +kernel) (⟨bo_of1 rfl, rfl⟩) de_K_isSeen_13
set_option maxHeartbeats 4000000 in
set_option maxRecDepth 100000 in
theorem c_K_isSeen (l : Launch) (G : dk_G) (w : dk_H) (h : Nat) (D : kp_D) (σ : kp_S) (hkp : kp_at G w h D σ) (a b : Nat) (x y : en_T) (ha : en_at w a x) (hb0 : en_at w b y) (hx0 : en_ok x) (hy0 : en_ok y) : dk_Mi l my_K_isSeen (wd_c my_K_isSeen mb_K_isSeen 3 (some .boolean)) rm_K_isSeen G w [.ref h, .ref a, .ref b] (fun r w1 => r = bo_i (if x.1 = y.1 then sn_an σ.sn x.2.1 y.2.1 6 else true) ∧ w1 = w) 0 0 := by
  have hx1 := hx0.2
  have hy1 := hy0.2
  refine dk_enter (lv := [(0, .ref h), (1, .ref a), (2, .ref b)]) (by decide) (Nat.le_of_ble_eq_true rfl) rfl (fun p e s m args below meth c ls Q hQ C hP hS hl => ?_)
  obtain ⟨hx, hb, hr, hml, hlocks, hown, hnm, hts, hE⟩ := C
  have hK := hE.1
  have hN := hE.2.1
  have hh_642 : w h = some (1, .inr (cx_K, [.ref D.t, .ref D.a, .ref D.lv, .ref D.sn, .ref D.g, .ref D.k, .ref D.ne, .int (nI σ.sf), .int (bo_i σ.ib), .int (nI σ.sq), .int (nI σ.pr), .int (nI σ.mi)])) := hkp.o
  obtain ⟨a_643, a_644, _, _, hc_645, -⟩ := id hkp.s
  refine lv_aload_n hx hb de_K_isSeen_0 rfl (lv_at hl 2 rfl) ?_
  refine lv_ifnull hx hb de_K_isSeen_1 ?_
  refine lv_aload_n hx hb de_K_isSeen_4 rfl (lv_at hl 1 rfl) ?_
  refine lv_aload_n hx hb de_K_isSeen_5 rfl (lv_at hl 2 rfl) ?_
  refine dk_calli (va_runV (As := [.ref b]) (rest := []) ⟨hx, hb, hml, hown, hts⟩ (c_E_hasKeyOf l G w a b x y ha hb0 hx0 hy0) (cwV 1 hts (wd_gV (C := "RunKeeper$Entry") wi_552 wi_549 wi_550 wi_551 wi_14) rfl rfl rfl (by decide +kernel) ⟨Nat.le_of_ble_eq_true rfl, Nat.le_of_ble_eq_true rfl⟩) (dk_preV (kn_E, kt_E, 4) hE hP hS ha rfl) rfl rfl hl.1 rfl (lv_room (Nat.le_of_ble_eq_true rfl)) de_K_isSeen_6 ⟨(by first | exact Nat.le_of_ble_eq_true rfl | (simp only [Nat.zero_add]; omega) | omega), (by first | exact Nat.le_of_ble_eq_true rfl | (simp only [Nat.zero_add]; omega) | omega)⟩) hS (fun r_649 w_647 H locs hq_648 hP hS => ?_)
  obtain ⟨hr_650, he_651⟩ := hq_648
  subst hr_650
  rw [he_651] at hP
  refine bo_if_ne (b := (decide (x.1 = y.1))) (tgt := 14) hx hb de_K_isSeen_9 (by decide) (fun c_652 => ?_) (fun c_652 => ?_)
  · have e9 : x.1 = y.1 := of_decide_eq_true c_652
    refine lv_aload_n hx hb de_K_isSeen_14 rfl (lv_at hl 0 rfl) ?_
    refine dk_get (a := h) (v := .ref D.sn) (C := kn_K) (T := kt_K) (N := 12) hx hb hts ki_K hown hK hP hh_642 rfl 3 (by decide) (hts _ wi_106) (fun _ h9 => h9) rfl de_K_isSeen_15 ?_
    refine lv_aload_n hx hb de_K_isSeen_18 rfl (lv_at hl 1 rfl) ?_
    refine dk_getN (a := a) (v := .int (nI x.2.1)) (C := kn_E) (T := kt_E) (N := 4) (host := "RunKeeper") hx hb hts ki_E hown hK hP ha rfl 1 (by decide) (hN.use (dn_m 450 (by decide +kernel) rfl)) (fun _ h9 => h9) rfl de_K_isSeen_19 ?_
    refine lv_aload_n hx hb de_K_isSeen_22 rfl (lv_at hl 2 rfl) ?_
    refine dk_getN (a := b) (v := .int (nI y.2.1)) (C := kn_E) (T := kt_E) (N := 4) (host := "RunKeeper") hx hb hts ki_E hown hK hP hb0 rfl 1 (by decide) (hN.use (dn_m 450 (by decide +kernel) rfl)) (fun _ h9 => h9) rfl de_K_isSeen_23 ?_
    refine dk_calli (va_runV (As := [.int (nI x.2.1), .int (nI y.2.1)]) (rest := []) ⟨hx, hb, hml, hown, hts⟩ (c_S_anyFromBelow l G w D.sn σ.sn hkp.s x.2.1 y.2.1 (by omega) (by omega)) (cwV 2 hts (wd_gV (C := "RunKeeper$Snapshots") wi_556 wi_553 wi_554 wi_555 wi_3) rfl rfl rfl (by decide +kernel) ⟨Nat.le_of_ble_eq_true rfl, Nat.le_of_ble_eq_true rfl⟩) (dk_preV (kn_S, kt_S, 2) hE hP hS hc_645 rfl) rfl rfl hl.1 rfl (lv_room (Nat.le_of_ble_eq_true rfl)) de_K_isSeen_26 ⟨(by first | exact Nat.le_of_ble_eq_true rfl | (simp only [Nat.zero_add]; omega) | omega), (by first | exact Nat.le_of_ble_eq_true rfl | (simp only [Nat.zero_add]; omega) | omega)⟩) hS (fun r_655 w_653 H locs hq_654 hP hS => ?_)
    obtain ⟨hr_656, he_657⟩ := hq_654
    subst hr_656
    rw [he_657] at hP
    exact dk_zret hQ hx hb hr hlocks hP hS (Nat.le_refl _) (Nat.le_refl _) (bo_nar (sn_an σ.sn x.2.1 y.2.1 6)) (⟨by rw [if_pos e9], rfl⟩) de_K_isSeen_29
  · have e9 : ¬ x.1 = y.1 := of_decide_eq_false c_652
    refine lv_iconst (v := nI 1) hx hb de_K_isSeen_12 (by decide) ?_
    exact dk_zret hQ hx hb hr hlocks hP hS (Nat.le_refl _) (Nat.le_refl _) (by decide +kernel) (⟨by rw [if_neg e9]; exact bo_of1 rfl, rfl⟩) de_K_isSeen_13
