/-! RunKeeper: what its calls do where they do not throw (printed by gen/c_keep4.py) -/
def kp_cr (σ : kp_S) : kp_S := (((((σ.tb' (σ.tb.take σ.sf)).ib' false).ad' []).sn' (fun _ => none)).ga' (σ.tb.take σ.sf ++ lv_fl σ.lv 6)).sq' (mx_L (σ.tb.take σ.sf ++ lv_fl σ.lv 6))
theorem sn_lf {sn : Nat → Option Nat} {j : Nat} {r : Int32} (hj : j < 6) (h0 : sn j = none) (h1 : ∀ i, i < j → (sn i).isSome = true) (h : (∃ j, j < 6 ∧ r = nI j ∧ sn j = none ∧ ∀ i, i < j → (sn i).isSome = true) ∨ (r = -1 ∧ ∀ i, i < 6 → (sn i).isSome = true)) : r = nI j := by
  rcases h with ⟨i, a1, a2, a3, a4⟩ | ⟨a1, a2⟩
  · rcases Nat.lt_trichotomy i j with h | h | h
    · have := h1 i h; rw [a3] at this; cases this
    · rw [a2, h]
    · have := a4 j h; rw [h0] at this; cases this
  · have := a2 j hj; rw [h0] at this; cases this
/-- has the key a number -/
def lv_k (nw : Nat → Option en_T) (j : Nat) : Bool := match nw j with
  | none => false
  | some y => !y.2.2.2
theorem lv_kn {nw : Nat → Option en_T} {j : Nat} (h : nw j = none) : lv_k nw j = false := by simp only [lv_k, h]
theorem lv_kd {nw : Nat → Option en_T} {j : Nat} {y : en_T} (h : nw j = some y) (h1 : y.2.2.2 = true) : lv_k nw j = false := by simp only [lv_k, h, h1]; rfl
theorem lv_kl {nw : Nat → Option en_T} {j : Nat} {y : en_T} (h : nw j = some y) (h1 : y.2.2.2 = false) : lv_k nw j = true := by simp only [lv_k, h, h1]; rfl
theorem lk_s {f : Nat → Bool} {k i : Nat} (h : ∀ j, k ≤ j → j < i → f j = false) (e : f i = false) : ∀ j, k ≤ j → j < i + 1 → f j = false := by
  intro j h1 h2
  by_cases e8 : j = i
  · rw [e8]; exact e
  · exact h j h1 (by omega)
def nx_r (nw : Nat → Option en_T) (k : Nat) (r : Int32) : Prop := (∃ j, k ≤ j ∧ j < 1024 ∧ r = nI j ∧ lv_k nw j = true ∧ ∀ i, k ≤ i → i < j → lv_k nw i = false) ∨ (r = -1 ∧ ∀ i, k ≤ i → i < 1024 → lv_k nw i = false)
abbrev rm_K_sync : Room := { frames := 1, cells := 0, slots := 0, locals := 20 }
set_option maxHeartbeats 4000000 in
set_option maxRecDepth 100000 in
theorem c_K_sync (l : Launch) (G : dk_G) (w : dk_H) (h : Nat) (D : kp_D) (σ : kp_S) (hkp : kp_at G w h D σ) : dk_Mi l my_K_sync (wd_c my_K_sync mb_K_sync 1 (some .int)) rm_K_sync G w [.ref h] (fun r w1 => r = nI σ.tb.length ∧ kp_at G w1 h D (σ.sf' σ.tb.length) ∧ dk_fr kp_T w w1) 0 0 := by
  refine dk_enter (lv := [(0, .ref h)]) (by decide) (Nat.le_of_ble_eq_true rfl) rfl (fun p e s m args below meth c ls Q hQ C hP hS hl => ?_)
  obtain ⟨hx, hb, hr, hml, hlocks, hown, hnm, hts, hE⟩ := C
  have hK := hE.1
  have hN := hE.2.1
  have hh_946 : w h = some (1, .inr (cx_K, [.ref D.t, .ref D.a, .ref D.lv, .ref D.sn, .ref D.g, .ref D.k, .ref D.ne, .int (nI σ.sf), .int (bo_i σ.ib), .int (nI σ.sq), .int (nI σ.pr), .int (nI σ.mi)])) := hkp.o
  obtain ⟨sl_947, _, hc_948, -⟩ := id hkp.t
  refine lv_aload_n hx hb de_K_sync_0 rfl (lv_at hl 0 rfl) ?_
  refine lv_aload_n hx hb de_K_sync_1 rfl (lv_at hl 0 rfl) ?_
  refine dk_get (a := h) (v := .ref D.t) (C := kn_K) (T := kt_K) (N := 12) hx hb hts ki_K hown hK hP hh_946 rfl 0 (by decide) (hts _ wi_103) (fun _ h9 => h9) rfl de_K_sync_2 ?_
  refine dk_calli (va_runV (As := []) (rest := [.ref h]) ⟨hx, hb, hml, hown, hts⟩ (c_R_size l G w D.t 2 3 40 σ.tb hkp.t) (cwV 0 hts (wd_gV (C := "RunKeeper$Row") wi_147 wi_144 wi_145 wi_146 wi_2) rfl rfl rfl (by decide +kernel) ⟨Nat.le_of_ble_eq_true rfl, Nat.le_of_ble_eq_true rfl⟩) (dk_preV (kn_R, kt_R, 2) hE hP hS hc_948 rfl) rfl rfl hl.1 rfl (lv_room (Nat.le_of_ble_eq_true rfl)) de_K_sync_5 ⟨(by first | exact Nat.le_of_ble_eq_true rfl | (simp only [Nat.zero_add]; omega) | omega), (by first | exact Nat.le_of_ble_eq_true rfl | (simp only [Nat.zero_add]; omega) | omega)⟩) hS (fun r_951 w_949 H locs hq_950 hP hS => ?_)
  obtain ⟨hr_952, he_953⟩ := hq_950
  subst hr_952
  rw [he_953] at hP
  refine dk_put (a := h) (v := .int (nI σ.tb.length)) (ty := .int) (C := kn_K) (T := kt_K) (N := 12) hx hb hts ki_K ky_K kk_K kd_K hown hK hP hS hh_946 rfl 7 (by decide) (hts _ wi_110) (fun _ h9 => h9) rfl (by decide +kernel) rfl rfl (Nat.le_of_ble_eq_true rfl) de_K_sync_8 (fun H locs w_954 hw_955 hP hS => ?_)
  have h_956 : w_954 h = some (1, .inr (cx_K, [.ref D.t, .ref D.a, .ref D.lv, .ref D.sn, .ref D.g, .ref D.k, .ref D.ne, .int (nI σ.tb.length), .int (bo_i σ.ib), .int (nI σ.sq), .int (nI σ.pr), .int (nI σ.mi)])) := dk_here hw_955
  have h_957 : w_954 D.lv = some (11, dk_ca G 4 6 D.lf) := dk_keep hw_955 hh_946 hkp.l (by decide)
  have h_958 : w_954 D.t = some (2, .inr (cx_R, [.ref sl_947, .int (nI (σ.tb).length)])) := dk_keep hw_955 hh_946 hc_948 (by decide)
  have hf_959 : dk_fr (fun t => t = 1) w w_954 := ((dk_fr.up (T := fun t => t = 1) hh_946 rfl).eq hw_955)
  have hk_960 : kp_at G w_954 h D (σ.sf' (σ.tb.length)) := hkp.ofo hf_959 h_956 rfl rfl rfl rfl rfl rfl rfl
  have hh_961 : w_954 h = some (1, .inr (cx_K, [.ref D.t, .ref D.a, .ref D.lv, .ref D.sn, .ref D.g, .ref D.k, .ref D.ne, .int (nI σ.tb.length), .int (bo_i σ.ib), .int (nI σ.sq), .int (nI σ.pr), .int (nI σ.mi)])) := hk_960.o
  refine lv_aload_n hx hb de_K_sync_11 rfl (lv_at hl 0 rfl) ?_
  refine dk_get (a := h) (v := .int (nI σ.tb.length)) (C := kn_K) (T := kt_K) (N := 12) hx hb hts ki_K hown hK hP hh_961 rfl 7 (by decide) (hts _ wi_110) (fun _ h9 => h9) rfl de_K_sync_12 ?_
  exact dk_iret hQ hx hb hr hlocks hP hS (Nat.le_refl _) (Nat.le_refl _) (⟨rfl, hk_960, (kp_o hf_959)⟩) de_K_sync_15
abbrev rm_K_flush : Room := { frames := 10, cells := 5, slots := 1579, locals := 235 }
set_option maxHeartbeats 4000000 in
set_option maxRecDepth 100000 in
theorem c_K_flush (l : Launch) (G : dk_G) (w : dk_H) (h : Nat) (D : kp_D) (σ : kp_S) (hkp : kp_at G w h D σ) (hc6 : kp_n σ ≤ 600) : dk_Mi l my_K_flush (wd_c my_K_flush mb_K_flush 2 (some .int)) rm_K_flush G w [.ref h] (fun r w1 => r = nI σ.tb.length ∧ kp_at G w1 h D (kp_fl σ 1) ∧ dk_fr kp_T w w1) 5 1579 := by
  refine dk_enter (lv := [(0, .ref h)]) (by decide) (Nat.le_of_ble_eq_true rfl) rfl (fun p e s m args below meth c ls Q hQ C hP hS hl => ?_)
  obtain ⟨hx, hb, hr, hml, hlocks, hown, hnm, hts, hE⟩ := C
  have hK := hE.1
  have hN := hE.2.1
  have hh_962 : w h = some (1, .inr (cx_K, [.ref D.t, .ref D.a, .ref D.lv, .ref D.sn, .ref D.g, .ref D.k, .ref D.ne, .int (nI σ.sf), .int (bo_i σ.ib), .int (nI σ.sq), .int (nI σ.pr), .int (nI σ.mi)])) := hkp.o
  obtain ⟨sl_963, _, hc_964, -⟩ := id hkp.t
  refine lv_aload_n hx hb de_K_flush_0 rfl (lv_at hl 0 rfl) ?_
  refine dk_get (a := h) (v := .ref D.t) (C := kn_K) (T := kt_K) (N := 12) hx hb hts ki_K hown hK hP hh_962 rfl 0 (by decide) (hts _ wi_103) (fun _ h9 => h9) rfl de_K_flush_1 ?_
  refine dk_calli (va_runV (As := []) (rest := []) ⟨hx, hb, hml, hown, hts⟩ (c_R_size l G w D.t 2 3 40 σ.tb hkp.t) (cwV 0 hts (wd_gV (C := "RunKeeper$Row") wi_147 wi_144 wi_145 wi_146 wi_2) rfl rfl rfl (by decide +kernel) ⟨Nat.le_of_ble_eq_true rfl, Nat.le_of_ble_eq_true rfl⟩) (dk_preV (kn_R, kt_R, 2) hE hP hS hc_964 rfl) rfl rfl hl.1 rfl (lv_room (Nat.le_of_ble_eq_true rfl)) de_K_flush_4 ⟨(by first | exact Nat.le_of_ble_eq_true rfl | (simp only [Nat.zero_add]; omega) | omega), (by first | exact Nat.le_of_ble_eq_true rfl | (simp only [Nat.zero_add]; omega) | omega)⟩) hS (fun r_967 w_965 H locs hq_966 hP hS => ?_)
  obtain ⟨hr_968, he_969⟩ := hq_966
  subst hr_968
  rw [he_969] at hP
  refine lv_istore_n (lv' := [(1, .int (nI σ.tb.length)), (0, .ref h)]) hx hb de_K_flush_7 rfl hl (by decide) rfl (fun ls hl => ?_)
  refine lv_aload_n hx hb de_K_flush_8 rfl (lv_at hl 1 rfl) ?_
  refine lv_iconst (v := nI 1) hx hb de_K_flush_9 (by decide) ?_
  refine dk_callv (va_runV (As := [.int (nI 1)]) (rest := []) ⟨hx, hb, hml, hown, hts⟩ (c_K_flushTableIfItHas l G w h D σ hkp 1 (by decide) (by decide) hc6) (cwV 1 hts (wd_gV (C := "RunKeeper") wi_155 wi_152 wi_154 (wd_p (q := (⟨"RunKeeper", "flushTableIfItHas", "(I)V"⟩, 12)) (by decide +kernel) (by decide +kernel)) wi_1) rfl rfl rfl (by decide +kernel) ⟨Nat.le_of_ble_eq_true rfl, Nat.le_of_ble_eq_true rfl⟩) (dk_preV (kn_K, kt_K, 12) hE hP hS hh_962 rfl) rfl rfl hl.1 rfl (lv_room (Nat.le_of_ble_eq_true rfl)) de_K_flush_10 ⟨(by first | exact Nat.le_of_ble_eq_true rfl | (simp only [Nat.zero_add]; omega) | omega), (by first | exact Nat.le_of_ble_eq_true rfl | (simp only [Nat.zero_add]; omega) | omega)⟩) hS (fun w_970 H locs hq_971 hP hS => ?_)
  refine lv_iload_n hx hb de_K_flush_13 rfl (lv_at hl 0 rfl) ?_
  exact dk_iret hQ hx hb hr hlocks hP hS (by omega) (by omega) (⟨rfl, hq_971.1, hq_971.2⟩) de_K_flush_14
abbrev rm_K_crash : Room := { frames := 5, cells := 0, slots := 0, locals := 107 }
set_option maxHeartbeats 4000000 in
set_option maxRecDepth 100000 in
theorem c_K_crash (l : Launch) (G : dk_G) (w : dk_H) (h : Nat) (D : kp_D) (σ : kp_S) (hkp : kp_at G w h D σ) (hs : σ.sf < 2 ^ 31) (hc6 : kp_n σ ≤ 600) : dk_Mi l my_K_crash (wd_c my_K_crash mb_K_crash 1 (some .int)) rm_K_crash G w [.ref h] (fun r w1 => r = nI (σ.tb.take σ.sf).length ∧ kp_at G w1 h D (kp_cr σ) ∧ dk_fr kp_T w w1) 0 0 := by
  unfold kp_n at hc6
  have htl : (σ.tb.take σ.sf).length ≤ σ.tb.length := by rw [List.length_take]; omega
  refine dk_enter (lv := [(0, .ref h)]) (by decide) (Nat.le_of_ble_eq_true rfl) rfl (fun p e s m args below meth c ls Q hQ C hP hS hl => ?_)
  obtain ⟨hx, hb, hr, hml, hlocks, hown, hnm, hts, hE⟩ := C
  have hK := hE.1
  have hN := hE.2.1
  have hh_973 : w h = some (1, .inr (cx_K, [.ref D.t, .ref D.a, .ref D.lv, .ref D.sn, .ref D.g, .ref D.k, .ref D.ne, .int (nI σ.sf), .int (bo_i σ.ib), .int (nI σ.sq), .int (nI σ.pr), .int (nI σ.mi)])) := hkp.o
  obtain ⟨sl_974, _, hc_975, -⟩ := id hkp.t
  refine lv_aload_n hx hb de_K_crash_0 rfl (lv_at hl 0 rfl) ?_
  refine dk_get (a := h) (v := .ref D.t) (C := kn_K) (T := kt_K) (N := 12) hx hb hts ki_K hown hK hP hh_973 rfl 0 (by decide) (hts _ wi_103) (fun _ h9 => h9) rfl de_K_crash_1 ?_
  refine lv_aload_n hx hb de_K_crash_4 rfl (lv_at hl 0 rfl) ?_
  refine dk_get (a := h) (v := .int (nI σ.sf)) (C := kn_K) (T := kt_K) (N := 12) hx hb hts ki_K hown hK hP hh_973 rfl 7 (by decide) (hts _ wi_110) (fun _ h9 => h9) rfl de_K_crash_5 ?_
  refine dk_callv (va_runV (As := [.int (nI σ.sf)]) (rest := []) ⟨hx, hb, hml, hown, hts⟩ (c_R_cutTo l G w D.t 2 3 40 σ.tb hkp.t (by omega) σ.sf hs) (cwV 1 hts (wd_gV (C := "RunKeeper$Row") wi_279 wi_276 wi_277 wi_278 wi_2) rfl rfl rfl (by decide +kernel) ⟨Nat.le_of_ble_eq_true rfl, Nat.le_of_ble_eq_true rfl⟩) (dk_preV (kn_R, kt_R, 2) hE hP hS hc_975 rfl) rfl rfl hl.1 rfl (lv_room (Nat.le_of_ble_eq_true rfl)) de_K_crash_8 ⟨(by first | exact Nat.le_of_ble_eq_true rfl | (simp only [Nat.zero_add]; omega) | omega), (by first | exact Nat.le_of_ble_eq_true rfl | (simp only [Nat.zero_add]; omega) | omega)⟩) hS (fun w_976 H locs hq_977 hP hS => ?_)
  have hk_979 : kp_at G w_976 h D (σ.tb' (σ.tb.take σ.sf)) := hkp.oft hq_977.2 hq_977.1 (fun y hy => hkp.tk y (List.mem_of_mem_take hy))
  have hh_980 : w_976 h = some (1, .inr (cx_K, [.ref D.t, .ref D.a, .ref D.lv, .ref D.sn, .ref D.g, .ref D.k, .ref D.ne, .int (nI σ.sf), .int (bo_i σ.ib), .int (nI σ.sq), .int (nI σ.pr), .int (nI σ.mi)])) := hk_979.o
  refine lv_aload_n hx hb de_K_crash_11 rfl (lv_at hl 0 rfl) ?_
  refine dk_callv (va_runV (As := []) (rest := []) ⟨hx, hb, hml, hown, hts⟩ (c_K_dropBatch l G w_976 h D _ hk_979) (cwV 0 hts (wd_gV (C := "RunKeeper") wi_287 wi_284 wi_286 (wd_p (q := (⟨"RunKeeper", "dropBatch", "()V"⟩, 12)) (by decide +kernel) (by decide +kernel)) wi_1) rfl rfl rfl (by decide +kernel) ⟨Nat.le_of_ble_eq_true rfl, Nat.le_of_ble_eq_true rfl⟩) (dk_preV (kn_K, kt_K, 12) hE hP hS hh_980 rfl) rfl rfl hl.1 rfl (lv_room (Nat.le_of_ble_eq_true rfl)) de_K_crash_12 ⟨(by first | exact Nat.le_of_ble_eq_true rfl | (simp only [Nat.zero_add]; omega) | omega), (by first | exact Nat.le_of_ble_eq_true rfl | (simp only [Nat.zero_add]; omega) | omega)⟩) hS (fun w_981 H locs hq_982 hP hS => ?_)
  have hk_984 : kp_at G w_981 h D (((σ.tb' (σ.tb.take σ.sf)).ib' false).ad' []) := hq_982.1
  have hh_985 : w_981 h = some (1, .inr (cx_K, [.ref D.t, .ref D.a, .ref D.lv, .ref D.sn, .ref D.g, .ref D.k, .ref D.ne, .int (nI σ.sf), .int (bo_i false), .int (nI σ.sq), .int (nI σ.pr), .int (nI σ.mi)])) := hk_984.o
  obtain ⟨a_986, a_987, _, _, hc_988, -⟩ := id hk_984.s
  refine lv_aload_n hx hb de_K_crash_15 rfl (lv_at hl 0 rfl) ?_
  refine dk_get (a := h) (v := .ref D.sn) (C := kn_K) (T := kt_K) (N := 12) hx hb hts ki_K hown hK hP hh_985 rfl 3 (by decide) (hts _ wi_106) (fun _ h9 => h9) rfl de_K_crash_16 ?_
  refine dk_callv (va_runV (As := []) (rest := []) ⟨hx, hb, hml, hown, hts⟩ (c_S_forgetAll l G w_981 D.sn σ.sn hk_984.s) (cwV 0 hts (wd_gV (C := "RunKeeper$Snapshots") wi_291 wi_288 wi_289 wi_290 wi_3) rfl rfl rfl (by decide +kernel) ⟨Nat.le_of_ble_eq_true rfl, Nat.le_of_ble_eq_true rfl⟩) (dk_preV (kn_S, kt_S, 2) hE hP hS hc_988 rfl) rfl rfl hl.1 rfl (lv_room (Nat.le_of_ble_eq_true rfl)) de_K_crash_19 ⟨(by first | exact Nat.le_of_ble_eq_true rfl | (simp only [Nat.zero_add]; omega) | omega), (by first | exact Nat.le_of_ble_eq_true rfl | (simp only [Nat.zero_add]; omega) | omega)⟩) hS (fun w_989 H locs hq_990 hP hS => ?_)
  have hk_992 : kp_at G w_989 h D ((((σ.tb' (σ.tb.take σ.sf)).ib' false).ad' []).sn' (fun _ => none)) := hk_984.ofs hq_990.2 hq_990.1
  have hh_993 : w_989 h = some (1, .inr (cx_K, [.ref D.t, .ref D.a, .ref D.lv, .ref D.sn, .ref D.g, .ref D.k, .ref D.ne, .int (nI σ.sf), .int (bo_i false), .int (nI σ.sq), .int (nI σ.pr), .int (nI σ.mi)])) := hk_992.o
  refine lv_aload_n hx hb de_K_crash_22 rfl (lv_at hl 0 rfl) ?_
  refine dk_callv (va_runV (As := []) (rest := []) ⟨hx, hb, hml, hown, hts⟩ (c_K_gatherEverything l G w_989 h D _ hk_992 (by show (σ.tb.take σ.sf).length + lv_ct σ.lv 6 ≤ 600; omega)) (cwV 0 hts (wd_gV (C := "RunKeeper") wi_295 wi_292 wi_294 (wd_p (q := (⟨"RunKeeper", "gatherEverything", "()V"⟩, 12)) (by decide +kernel) (by decide +kernel)) wi_1) rfl rfl rfl (by decide +kernel) ⟨Nat.le_of_ble_eq_true rfl, Nat.le_of_ble_eq_true rfl⟩) (dk_preV (kn_K, kt_K, 12) hE hP hS hh_993 rfl) rfl rfl hl.1 rfl (lv_room (Nat.le_of_ble_eq_true rfl)) de_K_crash_23 ⟨(by first | exact Nat.le_of_ble_eq_true rfl | (simp only [Nat.zero_add]; omega) | omega), (by first | exact Nat.le_of_ble_eq_true rfl | (simp only [Nat.zero_add]; omega) | omega)⟩) hS (fun w_994 H locs hq_995 hP hS => ?_)
  have hk_997 : kp_at G w_994 h D (((((σ.tb' (σ.tb.take σ.sf)).ib' false).ad' []).sn' (fun _ => none)).ga' (σ.tb.take σ.sf ++ lv_fl σ.lv 6)) := hq_995.1
  have hh_998 : w_994 h = some (1, .inr (cx_K, [.ref D.t, .ref D.a, .ref D.lv, .ref D.sn, .ref D.g, .ref D.k, .ref D.ne, .int (nI σ.sf), .int (bo_i false), .int (nI σ.sq), .int (nI σ.pr), .int (nI σ.mi)])) := hk_997.o
  obtain ⟨sl_999, _, hc_1000, -⟩ := id hk_997.g
  refine lv_aload_n hx hb de_K_crash_26 rfl (lv_at hl 0 rfl) ?_
  refine lv_aload_n hx hb de_K_crash_27 rfl (lv_at hl 0 rfl) ?_
  refine dk_get (a := h) (v := .ref D.g) (C := kn_K) (T := kt_K) (N := 12) hx hb hts ki_K hown hK hP hh_998 rfl 4 (by decide) (hts _ wi_107) (fun _ h9 => h9) rfl de_K_crash_28 ?_
  have hgo : ∀ x ∈ (σ.tb.take σ.sf ++ lv_fl σ.lv 6), en_ok x := fun x hx => (List.mem_append.mp hx).elim (fun q => hkp.tk x (List.mem_of_mem_take q)) (fun q => lv_flk hkp 6 (by omega) x q)
  refine dk_calli (va_runV (As := []) (rest := [.ref h]) ⟨hx, hb, hml, hown, hts⟩ (c_R_greatestSequence l G w_994 D.g 6 7 600 (σ.tb.take σ.sf ++ lv_fl σ.lv 6) hk_997.g hgo) (cwV 0 hts (wd_gV (C := "RunKeeper$Row") wi_324 wi_321 wi_322 wi_323 wi_2) rfl rfl rfl (by decide +kernel) ⟨Nat.le_of_ble_eq_true rfl, Nat.le_of_ble_eq_true rfl⟩) (dk_preV (kn_R, kt_R, 2) hE hP hS hc_1000 rfl) rfl rfl hl.1 rfl (lv_room (Nat.le_of_ble_eq_true rfl)) de_K_crash_31 ⟨(by first | exact Nat.le_of_ble_eq_true rfl | (simp only [Nat.zero_add]; omega) | omega), (by first | exact Nat.le_of_ble_eq_true rfl | (simp only [Nat.zero_add]; omega) | omega)⟩) hS (fun r_1003 w_1001 H locs hq_1002 hP hS => ?_)
  obtain ⟨hr_1004, he_1005⟩ := hq_1002
  subst hr_1004
  rw [he_1005] at hP
  refine dk_put (a := h) (v := .int (nI (mx_L (σ.tb.take σ.sf ++ lv_fl σ.lv 6)))) (ty := .int) (C := kn_K) (T := kt_K) (N := 12) hx hb hts ki_K ky_K kk_K kd_K hown hK hP hS hh_998 rfl 9 (by decide) (hts _ wi_112) (fun _ h9 => h9) rfl (by decide +kernel) rfl rfl (Nat.le_of_ble_eq_true rfl) de_K_crash_34 (fun H locs w_1006 hw_1007 hP hS => ?_)
  have h_1008 : w_1006 h = some (1, .inr (cx_K, [.ref D.t, .ref D.a, .ref D.lv, .ref D.sn, .ref D.g, .ref D.k, .ref D.ne, .int (nI σ.sf), .int (bo_i false), .int (nI (mx_L (σ.tb.take σ.sf ++ lv_fl σ.lv 6))), .int (nI σ.pr), .int (nI σ.mi)])) := dk_here hw_1007
  have h_1009 : w_1006 D.lv = some (11, dk_ca G 4 6 D.lf) := dk_keep hw_1007 hh_998 hk_997.l (by decide)
  have h_1010 : w_1006 D.g = some (6, .inr (cx_R, [.ref sl_999, .int (nI ((σ.tb.take σ.sf ++ lv_fl σ.lv 6)).length)])) := dk_keep hw_1007 hh_998 hc_1000 (by decide)
  have hf_1011 : dk_fr (fun t => t = 1) w_994 w_1006 := ((dk_fr.up (T := fun t => t = 1) hh_998 rfl).eq hw_1007)
  have hk_1012 : kp_at G w_1006 h D ((((((σ.tb' (σ.tb.take σ.sf)).ib' false).ad' []).sn' (fun _ => none)).ga' (σ.tb.take σ.sf ++ lv_fl σ.lv 6)).sq' (mx_L (σ.tb.take σ.sf ++ lv_fl σ.lv 6))) := hk_997.ofo hf_1011 h_1008 rfl rfl rfl rfl rfl rfl rfl
  have hh_1013 : w_1006 h = some (1, .inr (cx_K, [.ref D.t, .ref D.a, .ref D.lv, .ref D.sn, .ref D.g, .ref D.k, .ref D.ne, .int (nI σ.sf), .int (bo_i false), .int (nI (mx_L (σ.tb.take σ.sf ++ lv_fl σ.lv 6))), .int (nI σ.pr), .int (nI σ.mi)])) := hk_1012.o
  obtain ⟨sl_1014, _, hc_1015, -⟩ := id hk_1012.t
  refine lv_aload_n hx hb de_K_crash_37 rfl (lv_at hl 0 rfl) ?_
  refine dk_get (a := h) (v := .ref D.t) (C := kn_K) (T := kt_K) (N := 12) hx hb hts ki_K hown hK hP hh_1013 rfl 0 (by decide) (hts _ wi_103) (fun _ h9 => h9) rfl de_K_crash_38 ?_
  refine dk_calli (va_runV (As := []) (rest := []) ⟨hx, hb, hml, hown, hts⟩ (c_R_size l G w_1006 D.t 2 3 40 (σ.tb.take σ.sf) hk_1012.t) (cwV 0 hts (wd_gV (C := "RunKeeper$Row") wi_147 wi_144 wi_145 wi_146 wi_2) rfl rfl rfl (by decide +kernel) ⟨Nat.le_of_ble_eq_true rfl, Nat.le_of_ble_eq_true rfl⟩) (dk_preV (kn_R, kt_R, 2) hE hP hS hc_1015 rfl) rfl rfl hl.1 rfl (lv_room (Nat.le_of_ble_eq_true rfl)) de_K_crash_41 ⟨(by first | exact Nat.le_of_ble_eq_true rfl | (simp only [Nat.zero_add]; omega) | omega), (by first | exact Nat.le_of_ble_eq_true rfl | (simp only [Nat.zero_add]; omega) | omega)⟩) hS (fun r_1018 w_1016 H locs hq_1017 hP hS => ?_)
  obtain ⟨hr_1019, he_1020⟩ := hq_1017
  subst hr_1019
  rw [he_1020] at hP
  exact dk_iret hQ hx hb hr hlocks hP hS (Nat.le_refl _) (Nat.le_refl _) (⟨rfl, hk_1012, (((((kp_r hq_977.2 (by omega))).tr (hq_982.2)).tr (kp_s hq_990.2)).tr (hq_995.2)).tr (kp_o hf_1011)⟩) de_K_crash_44
abbrev rm_K_snapshot : Room := { frames := 1, cells := 0, slots := 0, locals := 22 }
set_option maxHeartbeats 4000000 in
set_option maxRecDepth 100000 in
theorem c_K_snapshot (l : Launch) (G : dk_G) (w : dk_H) (h : Nat) (D : kp_D) (σ : kp_S) (hkp : kp_at G w h D σ) (j : Nat) (hj : j < 6) (hj0 : σ.sn j = none) (hj1 : ∀ i, i < j → (σ.sn i).isSome = true) (hs : σ.sq < 2 ^ 30) : dk_Mi l my_K_snapshot (wd_c my_K_snapshot mb_K_snapshot 2 (some .int)) rm_K_snapshot G w [.ref h] (fun r w1 => r = nI j ∧ kp_at G w1 h D (σ.sn' (va_up σ.sn j (some σ.sq))) ∧ dk_fr kp_T w w1) 0 0 := by
  refine dk_enter (lv := [(0, .ref h)]) (by decide) (Nat.le_of_ble_eq_true rfl) rfl (fun p e s m args below meth c ls Q hQ C hP hS hl => ?_)
  obtain ⟨hx, hb, hr, hml, hlocks, hown, hnm, hts, hE⟩ := C
  have hK := hE.1
  have hN := hE.2.1
  have hh_1021 : w h = some (1, .inr (cx_K, [.ref D.t, .ref D.a, .ref D.lv, .ref D.sn, .ref D.g, .ref D.k, .ref D.ne, .int (nI σ.sf), .int (bo_i σ.ib), .int (nI σ.sq), .int (nI σ.pr), .int (nI σ.mi)])) := hkp.o
  obtain ⟨a_1022, a_1023, _, _, hc_1024, -⟩ := id hkp.s
  refine lv_aload_n hx hb de_K_snapshot_0 rfl (lv_at hl 0 rfl) ?_
  refine dk_get (a := h) (v := .ref D.sn) (C := kn_K) (T := kt_K) (N := 12) hx hb hts ki_K hown hK hP hh_1021 rfl 3 (by decide) (hts _ wi_106) (fun _ h9 => h9) rfl de_K_snapshot_1 ?_
  refine dk_calli (va_runV (As := []) (rest := []) ⟨hx, hb, hml, hown, hts⟩ (c_S_leastFree l G w D.sn σ.sn hkp.s) (cwV 0 hts (wd_gV (C := "RunKeeper$Snapshots") wi_579 wi_576 wi_577 wi_578 wi_3) rfl rfl rfl (by decide +kernel) ⟨Nat.le_of_ble_eq_true rfl, Nat.le_of_ble_eq_true rfl⟩) (dk_preV (kn_S, kt_S, 2) hE hP hS hc_1024 rfl) rfl rfl hl.1 rfl (lv_room (Nat.le_of_ble_eq_true rfl)) de_K_snapshot_4 ⟨(by first | exact Nat.le_of_ble_eq_true rfl | (simp only [Nat.zero_add]; omega) | omega), (by first | exact Nat.le_of_ble_eq_true rfl | (simp only [Nat.zero_add]; omega) | omega)⟩) hS (fun r_1027 w_1025 H locs hq_1026 hP hS => ?_)
  obtain ⟨hq1, hq2⟩ := hq_1026
  rw [hq2] at hP
  have hr9 := sn_lf hj hj0 hj1 hq1
  subst hr9
  refine lv_istore_n (lv' := [(1, .int (nI j)), (0, .ref h)]) hx hb de_K_snapshot_7 rfl hl (by decide) rfl (fun ls hl => ?_)
  refine lv_iload_n hx hb de_K_snapshot_8 rfl (lv_at hl 0 rfl) ?_
  refine nx_if_ge (a := j) (tgt := 22) hx hb (by omega) de_K_snapshot_9 (by decide) ?_
  refine lv_aload_n hx hb de_K_snapshot_22 rfl (lv_at hl 1 rfl) ?_
  refine dk_get (a := h) (v := .ref D.sn) (C := kn_K) (T := kt_K) (N := 12) hx hb hts ki_K hown hK hP hh_1021 rfl 3 (by decide) (hts _ wi_106) (fun _ h9 => h9) rfl de_K_snapshot_23 ?_
  refine lv_iload_n hx hb de_K_snapshot_26 rfl (lv_at hl 0 rfl) ?_
  refine lv_aload_n hx hb de_K_snapshot_27 rfl (lv_at hl 1 rfl) ?_
  refine dk_get (a := h) (v := .int (nI σ.sq)) (C := kn_K) (T := kt_K) (N := 12) hx hb hts ki_K hown hK hP hh_1021 rfl 9 (by decide) (hts _ wi_112) (fun _ h9 => h9) rfl de_K_snapshot_28 ?_
  refine dk_callv (va_runV (As := [.int (nI j), .int (nI σ.sq)]) (rest := []) ⟨hx, hb, hml, hown, hts⟩ (c_S_keep l G w D.sn σ.sn hkp.s j σ.sq hj hs) (cwV 2 hts (wd_gV (C := "RunKeeper$Snapshots") wi_584 wi_581 wi_582 wi_583 wi_3) rfl rfl rfl (by decide +kernel) ⟨Nat.le_of_ble_eq_true rfl, Nat.le_of_ble_eq_true rfl⟩) (dk_preV (kn_S, kt_S, 2) hE hP hS hc_1024 rfl) rfl rfl hl.1 rfl (lv_room (Nat.le_of_ble_eq_true rfl)) de_K_snapshot_31 ⟨(by first | exact Nat.le_of_ble_eq_true rfl | (simp only [Nat.zero_add]; omega) | omega), (by first | exact Nat.le_of_ble_eq_true rfl | (simp only [Nat.zero_add]; omega) | omega)⟩) hS (fun w_1029 H locs hq_1030 hP hS => ?_)
  have hk_1032 : kp_at G w_1029 h D (σ.sn' (va_up σ.sn j (some σ.sq))) := hkp.ofs hq_1030.2 hq_1030.1
  have hh_1033 : w_1029 h = some (1, .inr (cx_K, [.ref D.t, .ref D.a, .ref D.lv, .ref D.sn, .ref D.g, .ref D.k, .ref D.ne, .int (nI σ.sf), .int (bo_i σ.ib), .int (nI σ.sq), .int (nI σ.pr), .int (nI σ.mi)])) := hk_1032.o
  refine lv_iload_n hx hb de_K_snapshot_34 rfl (lv_at hl 0 rfl) ?_
  exact dk_iret hQ hx hb hr hlocks hP hS (Nat.le_refl _) (Nat.le_refl _) (⟨rfl, hk_1032, (kp_s hq_1030.2)⟩) de_K_snapshot_35
abbrev rm_K_release : Room := { frames := 2, cells := 0, slots := 0, locals := 42 }
set_option maxHeartbeats 4000000 in
set_option maxRecDepth 100000 in
theorem c_K_release (l : Launch) (G : dk_G) (w : dk_H) (h : Nat) (D : kp_D) (σ : kp_S) (hkp : kp_at G w h D σ) (j : Nat) (hj : j < 6) (hj1 : (σ.sn j).isSome = true) : dk_Mv l my_K_release (wd_c my_K_release mb_K_release 2 none) rm_K_release G w [.ref h, .int (nI j)] (fun w1 => kp_at G w1 h D (σ.sn' (va_up σ.sn j none)) ∧ dk_fr kp_T w w1) 0 0 := by
  refine dk_enter (lv := [(0, .ref h), (1, .int (nI j))]) (by decide) (Nat.le_of_ble_eq_true rfl) rfl (fun p e s m args below meth c ls Q hQ C hP hS hl => ?_)
  obtain ⟨hx, hb, hr, hml, hlocks, hown, hnm, hts, hE⟩ := C
  have hK := hE.1
  have hN := hE.2.1
  have hh_1034 : w h = some (1, .inr (cx_K, [.ref D.t, .ref D.a, .ref D.lv, .ref D.sn, .ref D.g, .ref D.k, .ref D.ne, .int (nI σ.sf), .int (bo_i σ.ib), .int (nI σ.sq), .int (nI σ.pr), .int (nI σ.mi)])) := hkp.o
  obtain ⟨a_1035, a_1036, _, _, hc_1037, -⟩ := id hkp.s
  refine lv_aload_n hx hb de_K_release_0 rfl (lv_at hl 0 rfl) ?_
  refine dk_get (a := h) (v := .ref D.sn) (C := kn_K) (T := kt_K) (N := 12) hx hb hts ki_K hown hK hP hh_1034 rfl 3 (by decide) (hts _ wi_106) (fun _ h9 => h9) rfl de_K_release_1 ?_
  refine lv_iload_n hx hb de_K_release_4 rfl (lv_at hl 1 rfl) ?_
  refine dk_calli (va_runV (As := [.int (nI j)]) (rest := []) ⟨hx, hb, hml, hown, hts⟩ (c_S_has l G w D.sn σ.sn hkp.s (nI j)) (cwV 1 hts (wd_gV (C := "RunKeeper$Snapshots") wi_595 wi_592 wi_593 wi_594 wi_3) rfl rfl rfl (by decide +kernel) ⟨Nat.le_of_ble_eq_true rfl, Nat.le_of_ble_eq_true rfl⟩) (dk_preV (kn_S, kt_S, 2) hE hP hS hc_1037 rfl) rfl rfl hl.1 rfl (lv_room (Nat.le_of_ble_eq_true rfl)) de_K_release_5 ⟨(by first | exact Nat.le_of_ble_eq_true rfl | (simp only [Nat.zero_add]; omega) | omega), (by first | exact Nat.le_of_ble_eq_true rfl | (simp only [Nat.zero_add]; omega) | omega)⟩) hS (fun r_1040 w_1038 H locs hq_1039 hP hS => ?_)
  rw [sn_g3 hj] at hq_1039
  obtain ⟨hr_1041, he_1042⟩ := hq_1039
  subst hr_1041
  rw [he_1042] at hP
  refine bo_if_ne (b := (σ.sn j).isSome) (tgt := 21) hx hb de_K_release_8 (by decide) (fun c_1043 => ?_) (fun c_1043 => ?_)
  · refine lv_aload_n hx hb de_K_release_21 rfl (lv_at hl 0 rfl) ?_
    refine dk_get (a := h) (v := .ref D.sn) (C := kn_K) (T := kt_K) (N := 12) hx hb hts ki_K hown hK hP hh_1034 rfl 3 (by decide) (hts _ wi_106) (fun _ h9 => h9) rfl de_K_release_22 ?_
    refine lv_iload_n hx hb de_K_release_25 rfl (lv_at hl 1 rfl) ?_
    refine dk_callv (va_runV (As := [.int (nI j)]) (rest := []) ⟨hx, hb, hml, hown, hts⟩ (c_S_forget l G w D.sn σ.sn hkp.s j hj hj1) (cwV 1 hts (wd_gV (C := "RunKeeper$Snapshots") wi_600 wi_597 wi_598 wi_599 wi_3) rfl rfl rfl (by decide +kernel) ⟨Nat.le_of_ble_eq_true rfl, Nat.le_of_ble_eq_true rfl⟩) (dk_preV (kn_S, kt_S, 2) hE hP hS hc_1037 rfl) rfl rfl hl.1 rfl (lv_room (Nat.le_of_ble_eq_true rfl)) de_K_release_26 ⟨(by first | exact Nat.le_of_ble_eq_true rfl | (simp only [Nat.zero_add]; omega) | omega), (by first | exact Nat.le_of_ble_eq_true rfl | (simp only [Nat.zero_add]; omega) | omega)⟩) hS (fun w_1044 H locs hq_1045 hP hS => ?_)
    have hk_1047 : kp_at G w_1044 h D (σ.sn' (va_up σ.sn j none)) := hkp.ofs hq_1045.2 hq_1045.1
    have hh_1048 : w_1044 h = some (1, .inr (cx_K, [.ref D.t, .ref D.a, .ref D.lv, .ref D.sn, .ref D.g, .ref D.k, .ref D.ne, .int (nI σ.sf), .int (bo_i σ.ib), .int (nI σ.sq), .int (nI σ.pr), .int (nI σ.mi)])) := hk_1047.o
    exact dk_vret hQ hx hb hr hlocks hP hS (Nat.le_refl _) (Nat.le_refl _) (⟨hk_1047, (kp_s hq_1045.2)⟩) de_K_release_29
  · exact absurd (hj1.symm.trans c_1043) (by decide)
abbrev rm_K_batch : Room := { frames := 0, cells := 0, slots := 0, locals := 0 }
set_option maxHeartbeats 4000000 in
set_option maxRecDepth 100000 in
theorem c_K_batch (l : Launch) (G : dk_G) (w : dk_H) (h : Nat) (D : kp_D) (σ : kp_S) (hkp : kp_at G w h D σ) (hb0 : σ.ib = false) : dk_Mv l my_K_batch (wd_c my_K_batch mb_K_batch 1 none) rm_K_batch G w [.ref h] (fun w1 => kp_at G w1 h D (σ.ib' true) ∧ dk_fr kp_T w w1) 0 0 := by
  refine dk_enter (lv := [(0, .ref h)]) (by decide) (Nat.le_of_ble_eq_true rfl) rfl (fun p e s m args below meth c ls Q hQ C hP hS hl => ?_)
  obtain ⟨hx, hb, hr, hml, hlocks, hown, hnm, hts, hE⟩ := C
  have hK := hE.1
  have hN := hE.2.1
  have hh_1049 : w h = some (1, .inr (cx_K, [.ref D.t, .ref D.a, .ref D.lv, .ref D.sn, .ref D.g, .ref D.k, .ref D.ne, .int (nI σ.sf), .int (bo_i σ.ib), .int (nI σ.sq), .int (nI σ.pr), .int (nI σ.mi)])) := hkp.o
  refine lv_aload_n hx hb de_K_batch_0 rfl (lv_at hl 0 rfl) ?_
  refine dk_get (a := h) (v := .int (bo_i σ.ib)) (C := kn_K) (T := kt_K) (N := 12) hx hb hts ki_K hown hK hP hh_1049 rfl 8 (by decide) (hts _ wi_111) (fun _ h9 => h9) rfl de_K_batch_1 ?_
  refine bo_if_eq (b := σ.ib) (tgt := 17) hx hb de_K_batch_4 (by decide) (fun c_1050 => ?_) (fun c_1050 => ?_)
  · refine lv_aload_n hx hb de_K_batch_17 rfl (lv_at hl 0 rfl) ?_
    refine lv_iconst (v := nI 1) hx hb de_K_batch_18 (by decide) ?_
    refine dk_put (a := h) (v := .int (nI 1)) (ty := .boolean) (C := kn_K) (T := kt_K) (N := 12) hx hb hts ki_K ky_K kk_K kd_K hown hK hP hS hh_1049 rfl 8 (by decide) (hts _ wi_111) (fun _ h9 => h9) rfl (by decide +kernel) (by decide) (by decide) (Nat.le_of_ble_eq_true rfl) de_K_batch_19 (fun H locs w_1051 hw_1052 hP hS => ?_)
    have h_1053 : w_1051 h = some (1, .inr (cx_K, [.ref D.t, .ref D.a, .ref D.lv, .ref D.sn, .ref D.g, .ref D.k, .ref D.ne, .int (nI σ.sf), .int (nI 1), .int (nI σ.sq), .int (nI σ.pr), .int (nI σ.mi)])) := dk_here hw_1052
    have h_1054 : w_1051 D.lv = some (11, dk_ca G 4 6 D.lf) := dk_keep hw_1052 hh_1049 hkp.l (by decide)
    have hf_1055 : dk_fr (fun t => t = 1) w w_1051 := ((dk_fr.up (T := fun t => t = 1) hh_1049 rfl).eq hw_1052)
    have hg_1057 : w_1051 h = some (1, .inr (cx_K, [.ref D.t, .ref D.a, .ref D.lv, .ref D.sn, .ref D.g, .ref D.k, .ref D.ne, .int (nI σ.sf), .int (bo_i true), .int (nI σ.sq), .int (nI σ.pr), .int (nI σ.mi)])) := by rw [bo_nt]; exact h_1053
    have hk_1056 : kp_at G w_1051 h D (σ.ib' (true)) := hkp.ofo hf_1055 hg_1057 rfl rfl rfl rfl rfl rfl rfl
    have hh_1058 : w_1051 h = some (1, .inr (cx_K, [.ref D.t, .ref D.a, .ref D.lv, .ref D.sn, .ref D.g, .ref D.k, .ref D.ne, .int (nI σ.sf), .int (bo_i true), .int (nI σ.sq), .int (nI σ.pr), .int (nI σ.mi)])) := hk_1056.o
    exact dk_vret hQ hx hb hr hlocks hP hS (Nat.le_refl _) (Nat.le_refl _) (⟨hk_1056, (kp_o hf_1055)⟩) de_K_batch_22
  · exact absurd (hb0.symm.trans c_1050) (by decide)
abbrev rm_K_requireKeyAndView : Room := { frames := 1, cells := 0, slots := 0, locals := 21 }
set_option maxHeartbeats 4000000 in
set_option maxRecDepth 100000 in
theorem c_K_requireKeyAndView (l : Launch) (G : dk_G) (w : dk_H) (h : Nat) (D : kp_D) (σ : kp_S) (hkp : kp_at G w h D σ) (v : Int32) (k u : Nat) (hk0 : k < 1024) (hv : vw_u σ v = some u) : dk_Mv l my_K_requireKeyAndView (wd_c my_K_requireKeyAndView mb_K_requireKeyAndView 3 none) rm_K_requireKeyAndView G w [.ref h, .int v, .int (nI k)] (fun w1 => w1 = w) 0 0 := by
  refine dk_enter (lv := [(0, .ref h), (1, .int v), (2, .int (nI k))]) (by decide) (Nat.le_of_ble_eq_true rfl) rfl (fun p e s m args below meth c ls Q hQ C hP hS hl => ?_)
  obtain ⟨hx, hb, hr, hml, hlocks, hown, hnm, hts, hE⟩ := C
  have hK := hE.1
  have hN := hE.2.1
  have hh_1059 : w h = some (1, .inr (cx_K, [.ref D.t, .ref D.a, .ref D.lv, .ref D.sn, .ref D.g, .ref D.k, .ref D.ne, .int (nI σ.sf), .int (bo_i σ.ib), .int (nI σ.sq), .int (nI σ.pr), .int (nI σ.mi)])) := hkp.o
  refine lv_iload_n hx hb de_K_requireKeyAndView_0 rfl (lv_at hl 2 rfl) ?_
  refine dk_calli (va_runS (As := [.int (nI k)]) (rest := []) ⟨hx, hb, hml, hown, hts⟩ (c_K_isKey l G w (nI k)) (va_cwS 1 hts (wd_gS wi_341 wi_339 wi_340 wi_1) rfl rfl rfl (by decide +kernel) ⟨Nat.le_of_ble_eq_true rfl, Nat.le_of_ble_eq_true rfl⟩) (dk_preS hE hP hS) rfl rfl hl.1 rfl (lv_room (Nat.le_of_ble_eq_true rfl)) de_K_requireKeyAndView_1 ⟨(by first | exact Nat.le_of_ble_eq_true rfl | (simp only [Nat.zero_add]; omega) | omega), (by first | exact Nat.le_of_ble_eq_true rfl | (simp only [Nat.zero_add]; omega) | omega)⟩) hS (fun r_1062 w_1060 H locs hq_1061 hP hS => ?_)
  rw [in_nat (by omega) (by decide)] at hq_1061
  obtain ⟨hr_1063, he_1064⟩ := hq_1061
  subst hr_1063
  rw [he_1064] at hP
  refine bo_if_eq (b := (decide (k < 1024))) (tgt := 23) hx hb de_K_requireKeyAndView_4 (by decide) (fun c_1065 => ?_) (fun c_1065 => ?_)
  · exact absurd c_1065 (by simp [hk0])
  · refine lv_iload_n hx hb de_K_requireKeyAndView_7 rfl (lv_at hl 1 rfl) ?_
    refine lv_iconst (v := (-1)) hx hb de_K_requireKeyAndView_8 (by decide) ?_
    refine lv_icmp_eq (tgt := 34) hx hb de_K_requireKeyAndView_9 (by decide) (fun c_1066 => ?_) (fun c_1066 => ?_)
    · exact dk_vret hQ hx hb hr hlocks hP hS (Nat.le_refl _) (Nat.le_refl _) rfl de_K_requireKeyAndView_34
    · rw [vw_u, if_neg c_1066] at hv
      obtain ⟨a_1067, a_1068, _, _, hc_1069, -⟩ := id hkp.s
      refine lv_aload_n hx hb de_K_requireKeyAndView_12 rfl (lv_at hl 0 rfl) ?_
      refine dk_get (a := h) (v := .ref D.sn) (C := kn_K) (T := kt_K) (N := 12) hx hb hts ki_K hown hK hP hh_1059 rfl 3 (by decide) (hts _ wi_106) (fun _ h9 => h9) rfl de_K_requireKeyAndView_13 ?_
      refine lv_iload_n hx hb de_K_requireKeyAndView_16 rfl (lv_at hl 1 rfl) ?_
      refine dk_calli (va_runV (As := [.int v]) (rest := []) ⟨hx, hb, hml, hown, hts⟩ (c_S_has l G w D.sn σ.sn hkp.s v) (cwV 1 hts (wd_gV (C := "RunKeeper$Snapshots") wi_595 wi_592 wi_593 wi_594 wi_3) rfl rfl rfl (by decide +kernel) ⟨Nat.le_of_ble_eq_true rfl, Nat.le_of_ble_eq_true rfl⟩) (dk_preV (kn_S, kt_S, 2) hE hP hS hc_1069 rfl) rfl rfl hl.1 rfl (lv_room (Nat.le_of_ble_eq_true rfl)) de_K_requireKeyAndView_17 ⟨(by first | exact Nat.le_of_ble_eq_true rfl | (simp only [Nat.zero_add]; omega) | omega), (by first | exact Nat.le_of_ble_eq_true rfl | (simp only [Nat.zero_add]; omega) | omega)⟩) hS (fun r_1072 w_1070 H locs hq_1071 hP hS => ?_)
      rw [hv] at hq_1071
      obtain ⟨hr_1073, he_1074⟩ := hq_1071
      subst hr_1073
      rw [he_1074] at hP
      refine bo_if_ne (b := (some u).isSome) (tgt := 34) hx hb de_K_requireKeyAndView_20 (by decide) (fun c_1075 => ?_) (fun c_1075 => ?_)
      · exact dk_vret hQ hx hb hr hlocks hP hS (Nat.le_refl _) (Nat.le_refl _) rfl de_K_requireKeyAndView_34
      · exact absurd c_1075 (by simp)
abbrev rm_K_get : Room := { frames := 6, cells := 0, slots := 0, locals := 135 }
set_option maxHeartbeats 4000000 in
set_option maxRecDepth 100000 in
theorem c_K_get (l : Launch) (G : dk_G) (w : dk_H) (h : Nat) (D : kp_D) (σ : kp_S) (hkp : kp_at G w h D σ) (v : Int32) (k u : Nat) (hk0 : k < 1024) (hv : vw_u σ v = some u) (hu0 : u < 2 ^ 31) (x : en_T) (hx0 : (lk_K σ k u).1 = some x) (hx1 : x.2.2.2 = false) : dk_Ml l my_K_get (wd_c my_K_get mb_K_get 4 (some .long)) rm_K_get G w [.ref h, .int v, .int (nI k)] (fun r w1 => r = x.2.2.1 ∧ kp_at G w1 h D ((σ.pr' (lk_K σ k u).2.1).mi' (lk_K σ k u).2.2) ∧ dk_fr kp_T w w1) 0 0 := by
  refine dk_enter (lv := [(0, .ref h), (1, .int v), (2, .int (nI k))]) (by decide) (Nat.le_of_ble_eq_true rfl) rfl (fun p e s m args below meth c ls Q hQ C hP hS hl => ?_)
  obtain ⟨hx, hb, hr, hml, hlocks, hown, hnm, hts, hE⟩ := C
  have hK := hE.1
  have hN := hE.2.1
  have hh_1076 : w h = some (1, .inr (cx_K, [.ref D.t, .ref D.a, .ref D.lv, .ref D.sn, .ref D.g, .ref D.k, .ref D.ne, .int (nI σ.sf), .int (bo_i σ.ib), .int (nI σ.sq), .int (nI σ.pr), .int (nI σ.mi)])) := hkp.o
  refine lv_aload_n hx hb de_K_get_0 rfl (lv_at hl 0 rfl) ?_
  refine lv_iload_n hx hb de_K_get_1 rfl (lv_at hl 1 rfl) ?_
  refine lv_iload_n hx hb de_K_get_2 rfl (lv_at hl 2 rfl) ?_
  refine dk_callv (va_runV (As := [.int v, .int (nI k)]) (rest := []) ⟨hx, hb, hml, hown, hts⟩ (c_K_requireKeyAndView l G w h D σ hkp v k u hk0 hv) (cwV 2 hts (wd_gV (C := "RunKeeper") wi_613 wi_610 wi_612 (wd_p (q := (⟨"RunKeeper", "requireKeyAndView", "(II)V"⟩, 12)) (by decide +kernel) (by decide +kernel)) wi_1) rfl rfl rfl (by decide +kernel) ⟨Nat.le_of_ble_eq_true rfl, Nat.le_of_ble_eq_true rfl⟩) (dk_preV (kn_K, kt_K, 12) hE hP hS hh_1076 rfl) rfl rfl hl.1 rfl (lv_room (Nat.le_of_ble_eq_true rfl)) de_K_get_3 ⟨(by first | exact Nat.le_of_ble_eq_true rfl | (simp only [Nat.zero_add]; omega) | omega), (by first | exact Nat.le_of_ble_eq_true rfl | (simp only [Nat.zero_add]; omega) | omega)⟩) hS (fun w_1077 H locs hq_1078 hP hS => ?_)
  rw [hq_1078] at hP
  refine lv_aload_n hx hb de_K_get_6 rfl (lv_at hl 0 rfl) ?_
  refine lv_iload_n hx hb de_K_get_7 rfl (lv_at hl 2 rfl) ?_
  refine lv_aload_n hx hb de_K_get_8 rfl (lv_at hl 0 rfl) ?_
  refine lv_iload_n hx hb de_K_get_9 rfl (lv_at hl 1 rfl) ?_
  refine dk_calli (va_runV (As := [.int v]) (rest := [.int (nI k), .ref h]) ⟨hx, hb, hml, hown, hts⟩ (c_K_sequenceOf l G w h D σ hkp v u hv) (cwV 1 hts (wd_gV (C := "RunKeeper") wi_618 wi_615 wi_617 (wd_p (q := (⟨"RunKeeper", "sequenceOf", "(I)I"⟩, 12)) (by decide +kernel) (by decide +kernel)) wi_1) rfl rfl rfl (by decide +kernel) ⟨Nat.le_of_ble_eq_true rfl, Nat.le_of_ble_eq_true rfl⟩) (dk_preV (kn_K, kt_K, 12) hE hP hS hh_1076 rfl) rfl rfl hl.1 rfl (lv_room (Nat.le_of_ble_eq_true rfl)) de_K_get_10 ⟨(by first | exact Nat.le_of_ble_eq_true rfl | (simp only [Nat.zero_add]; omega) | omega), (by first | exact Nat.le_of_ble_eq_true rfl | (simp only [Nat.zero_add]; omega) | omega)⟩) hS (fun r_1082 w_1080 H locs hq_1081 hP hS => ?_)
  obtain ⟨hr_1083, he_1084⟩ := hq_1081
  subst hr_1083
  rw [he_1084] at hP
  refine dk_callq (va_runV (As := [.int (nI k), .int (nI u)]) (rest := []) ⟨hx, hb, hml, hown, hts⟩ (c_K_look l G w h D σ hkp k u (by omega) hu0) (cwV 2 hts (wd_gV (C := "RunKeeper") wi_626 wi_623 wi_625 (wd_p (q := (⟨"RunKeeper", "look", "(II)LRunKeeper$Entry;"⟩, 12)) (by decide +kernel) (by decide +kernel)) wi_1) rfl rfl rfl (by decide +kernel) ⟨Nat.le_of_ble_eq_true rfl, Nat.le_of_ble_eq_true rfl⟩) (dk_preV (kn_K, kt_K, 12) hE hP hS hh_1076 rfl) rfl rfl hl.1 rfl (lv_room (Nat.le_of_ble_eq_true rfl)) de_K_get_13 ⟨(by first | exact Nat.le_of_ble_eq_true rfl | (simp only [Nat.zero_add]; omega) | omega), (by first | exact Nat.le_of_ble_eq_true rfl | (simp only [Nat.zero_add]; omega) | omega)⟩) hS (fun r_1087 w_1085 H locs hq_1086 hP hS => ?_)
  obtain ⟨hq1, hq2, hq3⟩ := hq_1086
  rw [hx0] at hq1
  obtain ⟨a9, ha9, hae⟩ := hq1
  subst ha9
  refine lv_astore_n (lv' := [(3, .ref a9), (0, .ref h), (1, .int v), (2, .int (nI k))]) hx hb de_K_get_16 rfl hl (by decide) rfl (fun ls hl => ?_)
  refine lv_aload_n hx hb de_K_get_17 rfl (lv_at hl 0 rfl) ?_
  refine lv_ifnull hx hb de_K_get_18 ?_
  refine lv_aload_n hx hb de_K_get_21 rfl (lv_at hl 0 rfl) ?_
  refine dk_getN (a := a9) (v := .int (bo_i x.2.2.2)) (C := kn_E) (T := kt_E) (N := 4) (host := "RunKeeper") hx hb hts ki_E hown hK hP hae rfl 3 (by decide) (hN.use (dn_m 455 (by decide +kernel) rfl)) (fun _ h9 => h9) rfl de_K_get_22 ?_
  refine bo_if_eq (b := x.2.2.2) (tgt := 38) hx hb de_K_get_25 (by decide) (fun c_1089 => ?_) (fun c_1089 => ?_)
  · refine lv_aload_n hx hb de_K_get_38 rfl (lv_at hl 0 rfl) ?_
    refine dk_getN (a := a9) (v := .long x.2.2.1) (C := kn_E) (T := kt_E) (N := 4) (host := "RunKeeper") hx hb hts ki_E hown hK hP hae rfl 2 (by decide) (hN.use (dn_m 452 (by decide +kernel) rfl)) (fun _ h9 => h9) rfl de_K_get_39 ?_
    exact dk_lret hQ hx hb hr hlocks hP hS (Nat.le_refl _) (Nat.le_refl _) (⟨rfl, hq2, hq3⟩) de_K_get_42
  · exact absurd (hx1.symm.trans c_1089) (by decide)
abbrev rm_K_next : Room := { frames := 6, cells := 0, slots := 0, locals := 129 }
set_option maxHeartbeats 4000000 in
set_option maxRecDepth 100000 in
theorem c_K_next (l : Launch) (G : dk_G) (w : dk_H) (h : Nat) (D : kp_D) (σ : kp_S) (hkp : kp_at G w h D σ) (v : Int32) (k u : Nat) (hk0 : k < 1024) (hv : vw_u σ v = some u) (hu0 : u < 2 ^ 31) (hc6 : kp_n σ ≤ 600) : dk_Mi l my_K_next (wd_c my_K_next mb_K_next 5 (some .int)) rm_K_next G w [.ref h, .int v, .int (nI k)] (fun r w1 => nx_r (nn_L u (σ.tb ++ lv_fl σ.lv 6)) k r ∧ kp_at G w1 h D ((σ.ga' (σ.tb ++ lv_fl σ.lv 6)).nw' (nn_L u (σ.tb ++ lv_fl σ.lv 6))) ∧ dk_fr kp_T w w1) 0 0 := by
  refine dk_enter (lv := [(0, .ref h), (1, .int v), (2, .int (nI k))]) (by decide) (Nat.le_of_ble_eq_true rfl) rfl (fun p e s m args below meth c ls Q hQ C hP hS hl => ?_)
  obtain ⟨hx, hb, hr, hml, hlocks, hown, hnm, hts, hE⟩ := C
  have hK := hE.1
  have hN := hE.2.1
  have hh_1090 : w h = some (1, .inr (cx_K, [.ref D.t, .ref D.a, .ref D.lv, .ref D.sn, .ref D.g, .ref D.k, .ref D.ne, .int (nI σ.sf), .int (bo_i σ.ib), .int (nI σ.sq), .int (nI σ.pr), .int (nI σ.mi)])) := hkp.o
  refine lv_aload_n hx hb de_K_next_0 rfl (lv_at hl 0 rfl) ?_
  refine lv_iload_n hx hb de_K_next_1 rfl (lv_at hl 1 rfl) ?_
  refine lv_iload_n hx hb de_K_next_2 rfl (lv_at hl 2 rfl) ?_
  refine dk_callv (va_runV (As := [.int v, .int (nI k)]) (rest := []) ⟨hx, hb, hml, hown, hts⟩ (c_K_requireKeyAndView l G w h D σ hkp v k u hk0 hv) (cwV 2 hts (wd_gV (C := "RunKeeper") wi_613 wi_610 wi_612 (wd_p (q := (⟨"RunKeeper", "requireKeyAndView", "(II)V"⟩, 12)) (by decide +kernel) (by decide +kernel)) wi_1) rfl rfl rfl (by decide +kernel) ⟨Nat.le_of_ble_eq_true rfl, Nat.le_of_ble_eq_true rfl⟩) (dk_preV (kn_K, kt_K, 12) hE hP hS hh_1090 rfl) rfl rfl hl.1 rfl (lv_room (Nat.le_of_ble_eq_true rfl)) de_K_next_3 ⟨(by first | exact Nat.le_of_ble_eq_true rfl | (simp only [Nat.zero_add]; omega) | omega), (by first | exact Nat.le_of_ble_eq_true rfl | (simp only [Nat.zero_add]; omega) | omega)⟩) hS (fun w_1091 H locs hq_1092 hP hS => ?_)
  rw [hq_1092] at hP
  refine lv_aload_n hx hb de_K_next_6 rfl (lv_at hl 0 rfl) ?_
  refine lv_aload_n hx hb de_K_next_7 rfl (lv_at hl 0 rfl) ?_
  refine lv_iload_n hx hb de_K_next_8 rfl (lv_at hl 1 rfl) ?_
  refine dk_calli (va_runV (As := [.int v]) (rest := [.ref h]) ⟨hx, hb, hml, hown, hts⟩ (c_K_sequenceOf l G w h D σ hkp v u hv) (cwV 1 hts (wd_gV (C := "RunKeeper") wi_618 wi_615 wi_617 (wd_p (q := (⟨"RunKeeper", "sequenceOf", "(I)I"⟩, 12)) (by decide +kernel) (by decide +kernel)) wi_1) rfl rfl rfl (by decide +kernel) ⟨Nat.le_of_ble_eq_true rfl, Nat.le_of_ble_eq_true rfl⟩) (dk_preV (kn_K, kt_K, 12) hE hP hS hh_1090 rfl) rfl rfl hl.1 rfl (lv_room (Nat.le_of_ble_eq_true rfl)) de_K_next_9 ⟨(by first | exact Nat.le_of_ble_eq_true rfl | (simp only [Nat.zero_add]; omega) | omega), (by first | exact Nat.le_of_ble_eq_true rfl | (simp only [Nat.zero_add]; omega) | omega)⟩) hS (fun r_1096 w_1094 H locs hq_1095 hP hS => ?_)
  obtain ⟨hr_1097, he_1098⟩ := hq_1095
  subst hr_1097
  rw [he_1098] at hP
  refine dk_callv (va_runV (As := [.int (nI u)]) (rest := []) ⟨hx, hb, hml, hown, hts⟩ (c_K_noteNewestOfKeys l G w h D σ hkp u hu0 hc6) (cwV 1 hts (wd_gV (C := "RunKeeper") wi_682 wi_679 wi_681 (wd_p (q := (⟨"RunKeeper", "noteNewestOfKeys", "(I)V"⟩, 12)) (by decide +kernel) (by decide +kernel)) wi_1) rfl rfl rfl (by decide +kernel) ⟨Nat.le_of_ble_eq_true rfl, Nat.le_of_ble_eq_true rfl⟩) (dk_preV (kn_K, kt_K, 12) hE hP hS hh_1090 rfl) rfl rfl hl.1 rfl (lv_room (Nat.le_of_ble_eq_true rfl)) de_K_next_12 ⟨(by first | exact Nat.le_of_ble_eq_true rfl | (simp only [Nat.zero_add]; omega) | omega), (by first | exact Nat.le_of_ble_eq_true rfl | (simp only [Nat.zero_add]; omega) | omega)⟩) hS (fun w_1099 H locs hq_1100 hP hS => ?_)
  have hk_1102 : kp_at G w_1099 h D ((σ.ga' (σ.tb ++ lv_fl σ.lv 6)).nw' (nn_L u (σ.tb ++ lv_fl σ.lv 6))) := hq_1100.1
  have hh_1103 : w_1099 h = some (1, .inr (cx_K, [.ref D.t, .ref D.a, .ref D.lv, .ref D.sn, .ref D.g, .ref D.k, .ref D.ne, .int (nI σ.sf), .int (bo_i σ.ib), .int (nI σ.sq), .int (nI σ.pr), .int (nI σ.mi)])) := hk_1102.o
  obtain ⟨nf, hnf, hne⟩ := id hk_1102.n
  refine lv_iload_n hx hb de_K_next_15 rfl (lv_at hl 2 rfl) ?_
  refine lv_istore_n (lv' := [(3, .int (nI k)), (0, .ref h), (1, .int v), (2, .int (nI k))]) hx hb de_K_next_16 rfl hl (by decide) rfl (fun ls hl => ?_)
  have lp : ∀ (zk : Nat) (i : Nat), 1024 - i < zk → (k ≤ i ∧ i ≤ 1024) → (∀ j, k ≤ j → j < i → lv_k (nn_L u (σ.tb ++ lv_fl σ.lv 6)) j = false) → ∀ (H : Heap) (locs : List Loc), dk_P G w_1099 H → dk_S G s.heap H locs → ∀ (ls : Array Slot), lv_has ls 5 [(0, .ref h), (1, .int v), (2, .int (nI k)), (3, .int (nI i))] → W p l e rm_K_next s m args below meth c H locs (0 + 0 + 0 + 0) (0 + 0 + 0 + 0) Q (F0 m 17 ls []) := by
    intro zk
    induction zk with
    | zero =>
      intro i hk
      exact absurd hk (by omega)
    | succ zk ih =>
      intro i hk hi hno
      intro H locs hP hS
      intro ls hl
      refine lv_iload_n hx hb de_K_next_17 rfl (lv_at hl 3 rfl) ?_
      refine lv_sipush (v := nI 1024) hx hb de_K_next_18 (by decide) ?_
      refine nx_icmp_ge (a := i) (b := 1024) (tgt := 53) hx hb (by omega) (by omega) de_K_next_21 (by decide) (fun c_1104 => ?_) (fun c_1104 => ?_)
      · refine lv_iconst (v := (-1)) hx hb de_K_next_53 (by decide) ?_
        exact dk_iret hQ hx hb hr hlocks hP hS (Nat.le_refl _) (Nat.le_refl _) (⟨Or.inr ⟨rfl, fun j h1 h2 => hno j h1 (by omega)⟩, hk_1102, (hq_1100.2)⟩) de_K_next_54
      · refine lv_aload_n hx hb de_K_next_24 rfl (lv_at hl 0 rfl) ?_
        refine dk_get (a := h) (v := .ref D.ne) (C := kn_K) (T := kt_K) (N := 12) hx hb hts ki_K hown hK hP hh_1103 rfl 6 (by decide) (hts _ wi_109) (fun _ h9 => h9) rfl de_K_next_25 ?_
        refine lv_iload_n hx hb de_K_next_28 rfl (lv_at hl 3 rfl) ?_
        have hq := hne i (by omega)
        rcases en_qc hq with ⟨hr9, hn9⟩ | ⟨b9, y9, hr9, hn9, hb9⟩
        · replace hn9 : (nn_L u (σ.tb ++ lv_fl σ.lv 6)) i = none := hn9
          refine dk_aald (a := D.ne) (r := none) (C := dk_nE) hx hb hK hP hnf rfl i rfl (by omega) (by omega) hr9 de_K_next_29 ?_
          refine lv_astoreN (lv' := [(4, .null), (0, .ref h), (1, .int v), (2, .int (nI k)), (3, .int (nI i))]) hx hb de_K_next_30 hl (by decide) rfl (fun ls hl => ?_)
          refine lv_aloadN hx hb de_K_next_32 (lv_at hl 0 rfl) ?_
          refine lv_ifnullN (tgt := 47) hx hb de_K_next_34 (by decide) ?_
          refine lv_iinc (v := nI (i + 1)) (lv' := [(3, .int (nI (i + 1))), (4, .null), (0, .ref h), (1, .int v), (2, .int (nI k))]) hx hb de_K_next_47 hl (k := 4) rfl (nx_inc i) (by decide) rfl (fun ls hl => ?_)
          refine lv_goto (tgt := 17) hx hb de_K_next_50 (by decide) ?_
          have hno2 := lk_s hno (lv_kn hn9)
          exact ih (i + 1) (by omega) (by omega) hno2 _ _ hP hS _ (lv_sub hl [2, 3, 4, 0] rfl)
        · replace hn9 : (nn_L u (σ.tb ++ lv_fl σ.lv 6)) i = some y9 := hn9
          refine dk_aald (a := D.ne) (r := some b9) (C := dk_nE) hx hb hK hP hnf rfl i rfl (by omega) (by omega) hr9 de_K_next_29 ?_
          refine lv_astore (lv' := [(4, .ref b9), (0, .ref h), (1, .int v), (2, .int (nI k)), (3, .int (nI i))]) hx hb de_K_next_30 hl (by decide) rfl (fun ls hl => ?_)
          refine lv_aload hx hb de_K_next_32 (lv_at hl 0 rfl) ?_
          refine lv_ifnull hx hb de_K_next_34 ?_
          refine lv_aload hx hb de_K_next_37 (lv_at hl 0 rfl) ?_
          refine dk_getN (a := b9) (v := .int (bo_i y9.2.2.2)) (C := kn_E) (T := kt_E) (N := 4) (host := "RunKeeper") hx hb hts ki_E hown hK hP hb9 rfl 3 (by decide) (hN.use (dn_m 455 (by decide +kernel) rfl)) (fun _ h9 => h9) rfl de_K_next_39 ?_
          refine bo_if_ne (b := y9.2.2.2) (tgt := 47) hx hb de_K_next_42 (by decide) (fun c_1107 => ?_) (fun c_1107 => ?_)
          · refine lv_iinc (v := nI (i + 1)) (lv' := [(3, .int (nI (i + 1))), (4, .ref b9), (0, .ref h), (1, .int v), (2, .int (nI k))]) hx hb de_K_next_47 hl (k := 4) rfl (nx_inc i) (by decide) rfl (fun ls hl => ?_)
            refine lv_goto (tgt := 17) hx hb de_K_next_50 (by decide) ?_
            have hno2 := lk_s hno (lv_kd hn9 c_1107)
            exact ih (i + 1) (by omega) (by omega) hno2 _ _ hP hS _ (lv_sub hl [2, 3, 4, 0] rfl)
          · refine lv_iload_n hx hb de_K_next_45 rfl (lv_at hl 4 rfl) ?_
            exact dk_iret hQ hx hb hr hlocks hP hS (Nat.le_refl _) (Nat.le_refl _) (⟨Or.inl ⟨i, by omega, by omega, rfl, lv_kl hn9 c_1107, hno⟩, hk_1102, (hq_1100.2)⟩) de_K_next_46
  exact lp 1025 k (by omega) (by omega) (fun j h1 h2 => absurd h1 (by omega)) _ _ hP hS _ (lv_sub hl [1, 2, 3, 0] rfl)
