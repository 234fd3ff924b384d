/-! RunKeeper: writing where it does not throw (printed by gen/c_keep6.py) -/
def kp_ap (σ : kp_S) (x : en_T) : kp_S := (σ.sq' (σ.sq + 1)).tb' (σ.tb ++ [(x.1, σ.sq + 1, x.2.2.1, x.2.2.2)])
theorem kp_ap_n (σ : kp_S) (x : en_T) : kp_n (kp_ap σ x) = kp_n σ + 1 := by
  show (σ.tb ++ [_]).length + lv_ct σ.lv 6 = σ.tb.length + lv_ct σ.lv 6 + 1
  rw [List.length_append, List.length_singleton]
  omega
theorem kp_fl_sq (σ : kp_S) (n : Nat) : (kp_fl σ n).sq = σ.sq := by
  unfold kp_fl
  split <;> rfl
/-- a batch's writes, one after the other -/
def ap_L (σ : kp_S) (L : List en_T) : kp_S := L.foldl kp_ap σ
theorem ap_snoc (σ : kp_S) (L : List en_T) (x : en_T) : ap_L σ (L ++ [x]) = kp_ap (ap_L σ L) x := by simp [ap_L, List.foldl_append]
theorem ap_L_p (σ : kp_S) (L : List en_T) : (ap_L σ L).sq = σ.sq + L.length ∧ (ap_L σ L).ad = σ.ad ∧ (ap_L σ L).tb.length = σ.tb.length + L.length ∧ kp_n (ap_L σ L) = kp_n σ + L.length ∧ (ap_L σ L).ib = σ.ib := by
  induction L generalizing σ with
  | nil => exact ⟨rfl, rfl, rfl, rfl, rfl⟩
  | cons x L ih =>
    obtain ⟨h1, h2, h3, h4, h5⟩ := ih (kp_ap σ x)
    have e : ap_L σ (x :: L) = ap_L (kp_ap σ x) L := rfl
    rw [e]
    refine ⟨?_, h2, ?_, ?_, h5⟩
    · rw [h1, List.length_cons]
      show σ.sq + 1 + _ = _
      omega
    · rw [h3, List.length_cons]
      show (σ.tb ++ [_]).length + _ = _
      rw [List.length_append, List.length_singleton]
      omega
    · rw [h4, kp_ap_n, List.length_cons]
      omega
abbrev rm_K_write (c : Nat) : Room := { frames := 10, cells := (2 + 5 * c), slots := (8 + 1579 * c), locals := 235 }
set_option maxHeartbeats 4000000 in
set_option maxRecDepth 100000 in
theorem c_K_writeB (l : Launch) (G : dk_G) (w : dk_H) (h : Nat) (D : kp_D) (σ : kp_S) (hkp : kp_at G w h D σ) (k : Nat) (z : Int64) (b : Bool) (hk0 : k < 1024) (hib : σ.ib = true) (hfull : σ.ad.length < 16) : dk_Mi l my_K_write (wd_c my_K_write mb_K_write 6 (some .int)) (rm_K_write 0) G w [.ref h, .int (nI k), .long z, .int (bo_i b)] (fun r w1 => r = nI (σ.ad.length + 1) ∧ kp_at G w1 h D (σ.ad' (σ.ad ++ [(k, 0, z, b)])) ∧ dk_fr kp_T w w1) 2 8 := by
  refine dk_enter (lv := [(0, .ref h), (1, .int (nI k)), (2, .long z), (4, .int (bo_i b))]) (by decide) (Nat.le_of_ble_eq_true rfl) rfl (fun p e s m args below meth c ls Q hQ C hP hS hl => ?_)
  obtain ⟨hx, hb, hr, hml, hlocks, hown, hnm, hts, hE⟩ := C
  have hK := hE.1
  have hN := hE.2.1
  have hh_1284 : w h = some (1, .inr (cx_K, [.ref D.t, .ref D.a, .ref D.lv, .ref D.sn, .ref D.g, .ref D.k, .ref D.ne, .int (nI σ.sf), .int (bo_i σ.ib), .int (nI σ.sq), .int (nI σ.pr), .int (nI σ.mi)])) := hkp.o
  refine lv_iload_n hx hb de_K_write_0 rfl (lv_at hl 1 rfl) ?_
  refine dk_calli (va_runS (As := [.int (nI k)]) (rest := []) ⟨hx, hb, hml, hown, hts⟩ (c_K_isKey l G w (nI k)) (va_cwS 1 hts (wd_gS wi_341 wi_339 wi_340 wi_1) rfl rfl rfl (by decide +kernel) ⟨Nat.le_of_ble_eq_true rfl, Nat.le_of_ble_eq_true rfl⟩) (dk_preS hE hP hS) rfl rfl hl.1 rfl (lv_room (Nat.le_of_ble_eq_true rfl)) de_K_write_1 ⟨(by first | exact Nat.le_of_ble_eq_true rfl | (simp only [Nat.zero_add]; omega) | omega), (by first | exact Nat.le_of_ble_eq_true rfl | (simp only [Nat.zero_add]; omega) | omega)⟩) hS (fun r_1287 w_1285 H locs hq_1286 hP hS => ?_)
  rw [in_nat (by omega) (by decide)] at hq_1286
  obtain ⟨hr_1288, he_1289⟩ := hq_1286
  subst hr_1288
  rw [he_1289] at hP
  refine bo_if_ne (b := (decide (k < 1024))) (tgt := 17) hx hb de_K_write_4 (by decide) (fun c_1290 => ?_) (fun c_1290 => ?_)
  · refine lv_aload_n hx hb de_K_write_17 rfl (lv_at hl 0 rfl) ?_
    refine dk_get (a := h) (v := .int (bo_i σ.ib)) (C := kn_K) (T := kt_K) (N := 12) hx hb hts ki_K hown hK hP hh_1284 rfl 8 (by decide) (hts _ wi_111) (fun _ h9 => h9) rfl de_K_write_18 ?_
    refine bo_if_eq (b := σ.ib) (tgt := 37) hx hb de_K_write_21 (by decide) (fun c_1291 => ?_) (fun c_1291 => ?_)
    · exact absurd (hib.symm.trans c_1291) (by decide)
    · refine lv_aload_n hx hb de_K_write_24 rfl (lv_at hl 0 rfl) ?_
      refine dk_get (a := h) (v := .ref D.a) (C := kn_K) (T := kt_K) (N := 12) hx hb hts ki_K hown hK hP hh_1284 rfl 1 (by decide) (hts _ wi_104) (fun _ h9 => h9) rfl de_K_write_25 ?_
      obtain ⟨sl_1292, _, hc_1293, -⟩ := id hkp.a
      refine dk_calli (va_runV (As := []) (rest := []) ⟨hx, hb, hml, hown, hts⟩ (c_R_isFull l G w D.a 4 5 16 σ.ad hkp.a) (cwV 0 hts (wd_gV (C := "RunKeeper$Row") wi_414 wi_411 wi_412 wi_413 wi_2) rfl rfl rfl (by decide +kernel) ⟨Nat.le_of_ble_eq_true rfl, Nat.le_of_ble_eq_true rfl⟩) (dk_preV (kn_R, kt_R, 2) hE hP hS hc_1293 rfl) rfl rfl hl.1 rfl (lv_room (Nat.le_of_ble_eq_true rfl)) de_K_write_28 ⟨(by first | exact Nat.le_of_ble_eq_true rfl | (simp only [Nat.zero_add]; omega) | omega), (by first | exact Nat.le_of_ble_eq_true rfl | (simp only [Nat.zero_add]; omega) | omega)⟩) hS (fun r_1296 w_1294 H locs hq_1295 hP hS => ?_)
      obtain ⟨hr_1297, he_1298⟩ := hq_1295
      subst hr_1297
      rw [he_1298] at hP
      refine bo_if_eq (b := (decide (16 ≤ σ.ad.length))) (tgt := 57) hx hb de_K_write_31 (by decide) (fun c_1299 => ?_) (fun c_1299 => ?_)
      · refine dk_new 0 (fs := [.int 0, .int 0, .long 0, .int 0]) (C := kn_E) (T := kt_E) (N := 4) (ci := cx_E) hx hb hts ki_E ky_E kk_E hown (hts _ wi_64) (hts _ wi_439) (hts _ wi_14) hK hP hS hE.2.2.2 rfl (fun j hj => by match j, hj with | 0, _ => rfl | 1, _ => rfl | 2, _ => rfl | 3, _ => rfl | j + 4, h => exact absurd h (by omega)) (by first | exact Nat.le_of_ble_eq_true rfl | (simp only [Nat.zero_add]; omega) | omega) (by first | exact Nat.le_of_ble_eq_true rfl | (simp only [Nat.zero_add]; omega) | omega) de_K_write_57 (fun q_1300 H w_1301 hn_1303 hw_1302 hP hS => ?_)
        have h_1304 : w_1301 q_1300 = some (0, .inr (cx_E, [.int 0, .int 0, .long 0, .int 0])) := dk_here hw_1302
        have h_1305 : w_1301 h = some (1, .inr (cx_K, [.ref D.t, .ref D.a, .ref D.lv, .ref D.sn, .ref D.g, .ref D.k, .ref D.ne, .int (nI σ.sf), .int (bo_i σ.ib), .int (nI σ.sq), .int (nI σ.pr), .int (nI σ.mi)])) := dk_keepN hw_1302 hn_1303 hh_1284
        have h_1306 : w_1301 D.lv = some (11, dk_ca G 4 6 D.lf) := dk_keepN hw_1302 hn_1303 hkp.l
        have h_1307 : w_1301 D.a = some (4, .inr (cx_R, [.ref sl_1292, .int (nI (σ.ad).length)])) := dk_keepN hw_1302 hn_1303 hc_1293
        refine lv_dup hx hb de_K_write_60 rfl ?_
        refine lv_iload_n hx hb de_K_write_61 rfl (lv_at hl 1 rfl) ?_
        refine lv_iconst (v := nI 0) hx hb de_K_write_62 (by decide) ?_
        refine lv_lload_n hx hb de_K_write_63 rfl (lv_at hl 2 rfl) ?_
        refine lv_iload hx hb de_K_write_64 (lv_at hl 3 rfl) ?_
        refine dk_callv (va_runI (As := [.int (nI k), .int (nI 0), .long z, .int (bo_i b)]) (rest := [.ref q_1300]) ⟨hx, hb, hml, hown, hts⟩ (c_E_init l G w_1301 q_1300 0 (k, 0, z, b) h_1304) (cwI 4 hts (wd_g wi_442) rfl rfl rfl (hts _ wi_14) (hts _ wi_440) (hts _ wi_441) rfl (by decide +kernel) ⟨Nat.le_of_ble_eq_true rfl, Nat.le_of_ble_eq_true rfl⟩) (dk_preS hE hP hS) rfl rfl hl.1 rfl (lv_room (Nat.le_of_ble_eq_true rfl)) de_K_write_66 ⟨(by first | exact Nat.le_of_ble_eq_true rfl | (simp only [Nat.zero_add]; omega) | omega), (by first | exact Nat.le_of_ble_eq_true rfl | (simp only [Nat.zero_add]; omega) | omega)⟩) hS (fun w_1308 H locs hq_1309 hP hS => ?_)
        have hww : w_1308 = va_up w q_1300 (some (0, en_c (k, 0, z, b))) := by rw [hq_1309, hw_1302, bx_uu]
        have hf9 : dk_fr (fun t => 60 ≤ t ∧ t ≤ 63) w w_1308 := (dk_fr.upN hn_1303).eq hww
        have hkn := hkp.off hf9
        have hen : en_at w_1308 q_1300 (k, 0, z, b) := dk_here hww
        have hh_1311 : w_1308 h = some (1, .inr (cx_K, [.ref D.t, .ref D.a, .ref D.lv, .ref D.sn, .ref D.g, .ref D.k, .ref D.ne, .int (nI σ.sf), .int (bo_i σ.ib), .int (nI σ.sq), .int (nI σ.pr), .int (nI σ.mi)])) := hkn.o
        refine lv_astore (lv' := [(5, .ref q_1300), (0, .ref h), (1, .int (nI k)), (2, .long z), (4, .int (bo_i b))]) hx hb de_K_write_69 hl (by decide) rfl (fun ls hl => ?_)
        refine lv_aload_n hx hb de_K_write_71 rfl (lv_at hl 1 rfl) ?_
        refine dk_get (a := h) (v := .int (bo_i σ.ib)) (C := kn_K) (T := kt_K) (N := 12) hx hb hts ki_K hown hK hP hh_1311 rfl 8 (by decide) (hts _ wi_111) (fun _ h9 => h9) rfl de_K_write_72 ?_
        refine bo_if_eq (b := σ.ib) (tgt := 95) hx hb de_K_write_75 (by decide) (fun c_1312 => ?_) (fun c_1312 => ?_)
        · exact absurd (hib.symm.trans c_1312) (by decide)
        · refine lv_aload_n hx hb de_K_write_78 rfl (lv_at hl 1 rfl) ?_
          refine dk_get (a := h) (v := .ref D.a) (C := kn_K) (T := kt_K) (N := 12) hx hb hts ki_K hown hK hP hh_1311 rfl 1 (by decide) (hts _ wi_104) (fun _ h9 => h9) rfl de_K_write_79 ?_
          refine lv_aload hx hb de_K_write_82 (lv_at hl 0 rfl) ?_
          obtain ⟨sl_1313, _, hc_1314, -⟩ := id hkn.a
          refine dk_callv (va_runV (As := [.ref q_1300]) (rest := []) ⟨hx, hb, hml, hown, hts⟩ (c_R_add l G w_1308 D.a 4 5 16 σ.ad hkn.a (by omega) q_1300 (k, 0, z, b) hen hfull) (cwV 1 hts (wd_gV (C := "RunKeeper$Row") wi_187 wi_465 wi_185 wi_186 wi_2) rfl rfl rfl (by decide +kernel) ⟨Nat.le_of_ble_eq_true rfl, Nat.le_of_ble_eq_true rfl⟩) (dk_preV (kn_R, kt_R, 2) hE hP hS hc_1314 rfl) rfl rfl hl.1 rfl (lv_room (Nat.le_of_ble_eq_true rfl)) de_K_write_84 ⟨(by first | exact Nat.le_of_ble_eq_true rfl | (simp only [Nat.zero_add]; omega) | omega), (by first | exact Nat.le_of_ble_eq_true rfl | (simp only [Nat.zero_add]; omega) | omega)⟩) hS (fun w_1315 H locs hq_1316 hP hS => ?_)
          have hk_1318 : kp_at G w_1315 h D (σ.ad' (σ.ad ++ [(k, 0, z, b)])) := hkn.ofa hq_1316.2 hq_1316.1
          have hh_1319 : w_1315 h = some (1, .inr (cx_K, [.ref D.t, .ref D.a, .ref D.lv, .ref D.sn, .ref D.g, .ref D.k, .ref D.ne, .int (nI σ.sf), .int (bo_i σ.ib), .int (nI σ.sq), .int (nI σ.pr), .int (nI σ.mi)])) := hk_1318.o
          refine lv_aload_n hx hb de_K_write_87 rfl (lv_at hl 1 rfl) ?_
          refine dk_get (a := h) (v := .ref D.a) (C := kn_K) (T := kt_K) (N := 12) hx hb hts ki_K hown hK hP hh_1319 rfl 1 (by decide) (hts _ wi_104) (fun _ h9 => h9) rfl de_K_write_88 ?_
          obtain ⟨sl_1320, _, hc_1321, -⟩ := id hk_1318.a
          refine dk_calli (va_runV (As := []) (rest := []) ⟨hx, hb, hml, hown, hts⟩ (c_R_size l G w_1315 D.a 4 5 16 (σ.ad ++ [(k, 0, z, b)]) hk_1318.a) (cwV 0 hts (wd_gV (C := "RunKeeper$Row") wi_147 wi_144 wi_145 wi_146 wi_2) rfl rfl rfl (by decide +kernel) ⟨Nat.le_of_ble_eq_true rfl, Nat.le_of_ble_eq_true rfl⟩) (dk_preV (kn_R, kt_R, 2) hE hP hS hc_1321 rfl) rfl rfl hl.1 rfl (lv_room (Nat.le_of_ble_eq_true rfl)) de_K_write_91 ⟨(by first | exact Nat.le_of_ble_eq_true rfl | (simp only [Nat.zero_add]; omega) | omega), (by first | exact Nat.le_of_ble_eq_true rfl | (simp only [Nat.zero_add]; omega) | omega)⟩) hS (fun r_1324 w_1322 H locs hq_1323 hP hS => ?_)
          obtain ⟨hr_1325, he_1326⟩ := hq_1323
          subst hr_1325
          rw [he_1326] at hP
          exact dk_iret hQ hx hb hr hlocks hP hS (by omega) (by omega) (⟨by simp, hk_1318, ((kp_f hf9)).tr (kp_r hq_1316.2 (by omega))⟩) de_K_write_94
      · exact absurd c_1299 (by simp; omega)
  · exact absurd c_1290 (by simp [hk0])
set_option maxHeartbeats 4000000 in
set_option maxRecDepth 100000 in
theorem c_K_writeN (l : Launch) (G : dk_G) (w : dk_H) (h : Nat) (D : kp_D) (σ : kp_S) (hkp : kp_at G w h D σ) (k : Nat) (z : Int64) (b : Bool) (hk0 : k < 1024) (hib : σ.ib = false) (hc6 : kp_n σ < 600) (hs : σ.sq + 1 < 2 ^ 30) (ht : σ.tb.length < 40) : dk_Mi l my_K_write (wd_c my_K_write mb_K_write 6 (some .int)) (rm_K_write 1) G w [.ref h, .int (nI k), .long z, .int (bo_i b)] (fun r w1 => r = nI (σ.sq + 1) ∧ kp_at G w1 h D (kp_fl (kp_ap σ (k, 0, z, b)) 24) ∧ dk_fr kp_T w w1) 7 1587 := by
  refine dk_enter (lv := [(0, .ref h), (1, .int (nI k)), (2, .long z), (4, .int (bo_i b))]) (by decide) (Nat.le_of_ble_eq_true rfl) rfl (fun p e s m args below meth c ls Q hQ C hP hS hl => ?_)
  obtain ⟨hx, hb, hr, hml, hlocks, hown, hnm, hts, hE⟩ := C
  have hK := hE.1
  have hN := hE.2.1
  have hh_1327 : w h = some (1, .inr (cx_K, [.ref D.t, .ref D.a, .ref D.lv, .ref D.sn, .ref D.g, .ref D.k, .ref D.ne, .int (nI σ.sf), .int (bo_i σ.ib), .int (nI σ.sq), .int (nI σ.pr), .int (nI σ.mi)])) := hkp.o
  refine lv_iload_n hx hb de_K_write_0 rfl (lv_at hl 1 rfl) ?_
  refine dk_calli (va_runS (As := [.int (nI k)]) (rest := []) ⟨hx, hb, hml, hown, hts⟩ (c_K_isKey l G w (nI k)) (va_cwS 1 hts (wd_gS wi_341 wi_339 wi_340 wi_1) rfl rfl rfl (by decide +kernel) ⟨Nat.le_of_ble_eq_true rfl, Nat.le_of_ble_eq_true rfl⟩) (dk_preS hE hP hS) rfl rfl hl.1 rfl (lv_room (Nat.le_of_ble_eq_true rfl)) de_K_write_1 ⟨(by first | exact Nat.le_of_ble_eq_true rfl | (simp only [Nat.zero_add]; omega) | omega), (by first | exact Nat.le_of_ble_eq_true rfl | (simp only [Nat.zero_add]; omega) | omega)⟩) hS (fun r_1330 w_1328 H locs hq_1329 hP hS => ?_)
  rw [in_nat (by omega) (by decide)] at hq_1329
  obtain ⟨hr_1331, he_1332⟩ := hq_1329
  subst hr_1331
  rw [he_1332] at hP
  refine bo_if_ne (b := (decide (k < 1024))) (tgt := 17) hx hb de_K_write_4 (by decide) (fun c_1333 => ?_) (fun c_1333 => ?_)
  · refine lv_aload_n hx hb de_K_write_17 rfl (lv_at hl 0 rfl) ?_
    refine dk_get (a := h) (v := .int (bo_i σ.ib)) (C := kn_K) (T := kt_K) (N := 12) hx hb hts ki_K hown hK hP hh_1327 rfl 8 (by decide) (hts _ wi_111) (fun _ h9 => h9) rfl de_K_write_18 ?_
    refine bo_if_eq (b := σ.ib) (tgt := 37) hx hb de_K_write_21 (by decide) (fun c_1334 => ?_) (fun c_1334 => ?_)
    · refine lv_aload_n hx hb de_K_write_37 rfl (lv_at hl 0 rfl) ?_
      refine dk_calli (va_runV (As := []) (rest := []) ⟨hx, hb, hml, hown, hts⟩ (c_K_entriesInAll l G w h D σ hkp) (cwV 0 hts (wd_gV (C := "RunKeeper") wi_418 wi_415 wi_417 (wd_p (q := (⟨"RunKeeper", "entriesInAll", "()I"⟩, 12)) (by decide +kernel) (by decide +kernel)) wi_1) rfl rfl rfl (by decide +kernel) ⟨Nat.le_of_ble_eq_true rfl, Nat.le_of_ble_eq_true rfl⟩) (dk_preV (kn_K, kt_K, 12) hE hP hS hh_1327 rfl) rfl rfl hl.1 rfl (lv_room (Nat.le_of_ble_eq_true rfl)) de_K_write_38 ⟨(by first | exact Nat.le_of_ble_eq_true rfl | (simp only [Nat.zero_add]; omega) | omega), (by first | exact Nat.le_of_ble_eq_true rfl | (simp only [Nat.zero_add]; omega) | omega)⟩) hS (fun r_1337 w_1335 H locs hq_1336 hP hS => ?_)
      obtain ⟨hr_1338, he_1339⟩ := hq_1336
      subst hr_1338
      rw [he_1339] at hP
      refine lv_sipush (v := nI 600) hx hb de_K_write_41 (by decide) ?_
      refine nx_icmp_lt (a := kp_n σ) (b := 600) (tgt := 57) hx hb (by omega) (by omega) de_K_write_44 (by decide) (fun c_1340 => ?_) (fun c_1340 => ?_)
      · refine dk_new 0 (fs := [.int 0, .int 0, .long 0, .int 0]) (C := kn_E) (T := kt_E) (N := 4) (ci := cx_E) hx hb hts ki_E ky_E kk_E hown (hts _ wi_64) (hts _ wi_439) (hts _ wi_14) hK hP hS hE.2.2.2 rfl (fun j hj => by match j, hj with | 0, _ => rfl | 1, _ => rfl | 2, _ => rfl | 3, _ => rfl | j + 4, h => exact absurd h (by omega)) (by first | exact Nat.le_of_ble_eq_true rfl | (simp only [Nat.zero_add]; omega) | omega) (by first | exact Nat.le_of_ble_eq_true rfl | (simp only [Nat.zero_add]; omega) | omega) de_K_write_57 (fun q_1341 H w_1342 hn_1344 hw_1343 hP hS => ?_)
        have h_1345 : w_1342 q_1341 = some (0, .inr (cx_E, [.int 0, .int 0, .long 0, .int 0])) := dk_here hw_1343
        have h_1346 : w_1342 h = some (1, .inr (cx_K, [.ref D.t, .ref D.a, .ref D.lv, .ref D.sn, .ref D.g, .ref D.k, .ref D.ne, .int (nI σ.sf), .int (bo_i σ.ib), .int (nI σ.sq), .int (nI σ.pr), .int (nI σ.mi)])) := dk_keepN hw_1343 hn_1344 hh_1327
        have h_1347 : w_1342 D.lv = some (11, dk_ca G 4 6 D.lf) := dk_keepN hw_1343 hn_1344 hkp.l
        refine lv_dup hx hb de_K_write_60 rfl ?_
        refine lv_iload_n hx hb de_K_write_61 rfl (lv_at hl 1 rfl) ?_
        refine lv_iconst (v := nI 0) hx hb de_K_write_62 (by decide) ?_
        refine lv_lload_n hx hb de_K_write_63 rfl (lv_at hl 2 rfl) ?_
        refine lv_iload hx hb de_K_write_64 (lv_at hl 3 rfl) ?_
        refine dk_callv (va_runI (As := [.int (nI k), .int (nI 0), .long z, .int (bo_i b)]) (rest := [.ref q_1341]) ⟨hx, hb, hml, hown, hts⟩ (c_E_init l G w_1342 q_1341 0 (k, 0, z, b) h_1345) (cwI 4 hts (wd_g wi_442) rfl rfl rfl (hts _ wi_14) (hts _ wi_440) (hts _ wi_441) rfl (by decide +kernel) ⟨Nat.le_of_ble_eq_true rfl, Nat.le_of_ble_eq_true rfl⟩) (dk_preS hE hP hS) rfl rfl hl.1 rfl (lv_room (Nat.le_of_ble_eq_true rfl)) de_K_write_66 ⟨(by first | exact Nat.le_of_ble_eq_true rfl | (simp only [Nat.zero_add]; omega) | omega), (by first | exact Nat.le_of_ble_eq_true rfl | (simp only [Nat.zero_add]; omega) | omega)⟩) hS (fun w_1348 H locs hq_1349 hP hS => ?_)
        have hww : w_1348 = va_up w q_1341 (some (0, en_c (k, 0, z, b))) := by rw [hq_1349, hw_1343, bx_uu]
        have hf9 : dk_fr (fun t => 60 ≤ t ∧ t ≤ 63) w w_1348 := (dk_fr.upN hn_1344).eq hww
        have hkn := hkp.off hf9
        have hen : en_at w_1348 q_1341 (k, 0, z, b) := dk_here hww
        have hh_1351 : w_1348 h = some (1, .inr (cx_K, [.ref D.t, .ref D.a, .ref D.lv, .ref D.sn, .ref D.g, .ref D.k, .ref D.ne, .int (nI σ.sf), .int (bo_i σ.ib), .int (nI σ.sq), .int (nI σ.pr), .int (nI σ.mi)])) := hkn.o
        refine lv_astore (lv' := [(5, .ref q_1341), (0, .ref h), (1, .int (nI k)), (2, .long z), (4, .int (bo_i b))]) hx hb de_K_write_69 hl (by decide) rfl (fun ls hl => ?_)
        refine lv_aload_n hx hb de_K_write_71 rfl (lv_at hl 1 rfl) ?_
        refine dk_get (a := h) (v := .int (bo_i σ.ib)) (C := kn_K) (T := kt_K) (N := 12) hx hb hts ki_K hown hK hP hh_1351 rfl 8 (by decide) (hts _ wi_111) (fun _ h9 => h9) rfl de_K_write_72 ?_
        refine bo_if_eq (b := σ.ib) (tgt := 95) hx hb de_K_write_75 (by decide) (fun c_1352 => ?_) (fun c_1352 => ?_)
        · refine lv_aload_n hx hb de_K_write_95 rfl (lv_at hl 1 rfl) ?_
          refine lv_aload hx hb de_K_write_96 (lv_at hl 0 rfl) ?_
          refine dk_callv (va_runV (As := [.ref q_1341]) (rest := []) ⟨hx, hb, hml, hown, hts⟩ (c_K_appendToTable l G w_1348 h D σ hkn q_1341 (k, 0, z, b) hen ht hk0 hs) (cwV 1 hts (wd_gV (C := "RunKeeper") wi_469 wi_466 wi_468 (wd_p (q := (⟨"RunKeeper", "appendToTable", "(LRunKeeper$Entry;)V"⟩, 12)) (by decide +kernel) (by decide +kernel)) wi_1) rfl rfl rfl (by decide +kernel) ⟨Nat.le_of_ble_eq_true rfl, Nat.le_of_ble_eq_true rfl⟩) (dk_preV (kn_K, kt_K, 12) hE hP hS hh_1351 rfl) rfl rfl hl.1 rfl (lv_room (Nat.le_of_ble_eq_true rfl)) de_K_write_98 ⟨(by first | exact Nat.le_of_ble_eq_true rfl | (simp only [Nat.zero_add]; omega) | omega), (by first | exact Nat.le_of_ble_eq_true rfl | (simp only [Nat.zero_add]; omega) | omega)⟩) hS (fun w_1353 H locs hq_1354 hP hS => ?_)
          have hk_1356 : kp_at G w_1353 h D (kp_ap σ (k, 0, z, b)) := hq_1354.1
          have hh_1357 : w_1353 h = some (1, .inr (cx_K, [.ref D.t, .ref D.a, .ref D.lv, .ref D.sn, .ref D.g, .ref D.k, .ref D.ne, .int (nI σ.sf), .int (bo_i σ.ib), .int (nI (σ.sq + 1)), .int (nI σ.pr), .int (nI σ.mi)])) := hk_1356.o
          refine lv_aload_n hx hb de_K_write_101 rfl (lv_at hl 1 rfl) ?_
          refine lv_bipush (v := nI 24) hx hb de_K_write_102 (by decide) ?_
          refine dk_callv (va_runV (As := [.int (nI 24)]) (rest := []) ⟨hx, hb, hml, hown, hts⟩ (c_K_flushTableIfItHas l G w_1353 h D (kp_ap σ (k, 0, z, b)) hk_1356 24 (by decide) (by decide) (by rw [kp_ap_n]; omega)) (cwV 1 hts (wd_gV (C := "RunKeeper") wi_155 wi_152 wi_154 (wd_p (q := (⟨"RunKeeper", "flushTableIfItHas", "(I)V"⟩, 12)) (by decide +kernel) (by decide +kernel)) wi_1) rfl rfl rfl (by decide +kernel) ⟨Nat.le_of_ble_eq_true rfl, Nat.le_of_ble_eq_true rfl⟩) (dk_preV (kn_K, kt_K, 12) hE hP hS hh_1357 rfl) rfl rfl hl.1 rfl (lv_room (Nat.le_of_ble_eq_true rfl)) de_K_write_104 ⟨(by first | exact Nat.le_of_ble_eq_true rfl | (simp only [Nat.zero_add]; omega) | omega), (by first | exact Nat.le_of_ble_eq_true rfl | (simp only [Nat.zero_add]; omega) | omega)⟩) hS (fun w_1358 H locs hq_1359 hP hS => ?_)
          have hsq : (kp_fl (kp_ap σ (k, 0, z, b)) 24).sq = σ.sq + 1 := kp_fl_sq _ _
          have ho9 := hq_1359.1.o
          refine lv_aload_n hx hb de_K_write_107 rfl (lv_at hl 1 rfl) ?_
          refine dk_get (a := h) (v := .int (nI (kp_fl (kp_ap σ (k, 0, z, b)) 24).sq)) (C := kn_K) (T := kt_K) (N := 12) hx hb hts ki_K hown hK hP ho9 rfl 9 (by decide) (hts _ wi_112) (fun _ h9 => h9) rfl de_K_write_108 ?_
          exact dk_iret hQ hx hb hr hlocks hP hS (by omega) (by omega) (⟨by rw [hsq], hq_1359.1, (((kp_f hf9)).tr (hq_1354.2)).tr (hq_1359.2)⟩) de_K_write_111
        · exact absurd (hib.symm.trans c_1352) (by decide)
      · exact absurd c_1340 (by omega)
    · exact absurd (hib.symm.trans c_1334) (by decide)
  · exact absurd c_1333 (by simp [hk0])
abbrev rm_K_put (c : Nat) : Room := { frames := 11, cells := (2 + 5 * c), slots := (8 + 1579 * c), locals := 260 }
set_option maxHeartbeats 4000000 in
set_option maxRecDepth 100000 in
theorem c_K_putB (l : Launch) (G : dk_G) (w : dk_H) (h : Nat) (D : kp_D) (σ : kp_S) (hkp : kp_at G w h D σ) (k : Nat) (z : Int64) (hk0 : k < 1024) (hib : σ.ib = true) (hfull : σ.ad.length < 16) : dk_Mi l my_K_put (wd_c my_K_put mb_K_put 4 (some .int)) (rm_K_put 0) G w [.ref h, .int (nI k), .long z] (fun r w1 => r = nI (σ.ad.length + 1) ∧ kp_at G w1 h D (σ.ad' (σ.ad ++ [(k, 0, z, false)])) ∧ dk_fr kp_T w w1) 2 8 := by
  refine dk_enter (lv := [(0, .ref h), (1, .int (nI k)), (2, .long z)]) (by decide) (Nat.le_of_ble_eq_true rfl) rfl (fun p e s m args below meth c ls Q hQ C hP hS hl => ?_)
  obtain ⟨hx, hb, hr, hml, hlocks, hown, hnm, hts, hE⟩ := C
  have hK := hE.1
  have hN := hE.2.1
  have hh_1361 : w h = some (1, .inr (cx_K, [.ref D.t, .ref D.a, .ref D.lv, .ref D.sn, .ref D.g, .ref D.k, .ref D.ne, .int (nI σ.sf), .int (bo_i σ.ib), .int (nI σ.sq), .int (nI σ.pr), .int (nI σ.mi)])) := hkp.o
  refine lv_aload_n hx hb de_K_put_0 rfl (lv_at hl 0 rfl) ?_
  refine lv_iload_n hx hb de_K_put_1 rfl (lv_at hl 1 rfl) ?_
  refine lv_lload_n hx hb de_K_put_2 rfl (lv_at hl 2 rfl) ?_
  refine lv_iconst (v := nI 0) hx hb de_K_put_3 (by decide) ?_
  rw [show nI 0 = bo_i false by decide]
  refine dk_calli (va_runV (As := [.int (nI k), .long z, .int (bo_i false)]) (rest := []) ⟨hx, hb, hml, hown, hts⟩ (c_K_writeB l G w h D σ hkp k z false hk0 hib hfull) (cwV 3 hts (wd_gV (C := "RunKeeper") wi_338 wi_335 wi_337 (wd_p (q := (⟨"RunKeeper", "write", "(IJZ)I"⟩, 12)) (by decide +kernel) (by decide +kernel)) wi_1) rfl rfl rfl (by decide +kernel) ⟨Nat.le_of_ble_eq_true rfl, Nat.le_of_ble_eq_true rfl⟩) (dk_preV (kn_K, kt_K, 12) hE hP hS hh_1361 rfl) rfl rfl hl.1 rfl (lv_room (Nat.le_of_ble_eq_true rfl)) de_K_put_4 ⟨(by first | exact Nat.le_of_ble_eq_true rfl | (simp only [Nat.zero_add]; omega) | omega), (by first | exact Nat.le_of_ble_eq_true rfl | (simp only [Nat.zero_add]; omega) | omega)⟩) hS (fun r_1364 w_1362 H locs hq_1363 hP hS => ?_)
  exact dk_iret hQ hx hb hr hlocks hP hS (by omega) (by omega) (⟨hq_1363.1, hq_1363.2.1, hq_1363.2.2⟩) de_K_put_7
set_option maxHeartbeats 4000000 in
set_option maxRecDepth 100000 in
theorem c_K_putN (l : Launch) (G : dk_G) (w : dk_H) (h : Nat) (D : kp_D) (σ : kp_S) (hkp : kp_at G w h D σ) (k : Nat) (z : Int64) (hk0 : k < 1024) (hib : σ.ib = false) (hc6 : kp_n σ < 600) (hs : σ.sq + 1 < 2 ^ 30) (ht : σ.tb.length < 40) : dk_Mi l my_K_put (wd_c my_K_put mb_K_put 4 (some .int)) (rm_K_put 1) G w [.ref h, .int (nI k), .long z] (fun r w1 => r = nI (σ.sq + 1) ∧ kp_at G w1 h D (kp_fl (kp_ap σ (k, 0, z, false)) 24) ∧ dk_fr kp_T w w1) 7 1587 := by
  refine dk_enter (lv := [(0, .ref h), (1, .int (nI k)), (2, .long z)]) (by decide) (Nat.le_of_ble_eq_true rfl) rfl (fun p e s m args below meth c ls Q hQ C hP hS hl => ?_)
  obtain ⟨hx, hb, hr, hml, hlocks, hown, hnm, hts, hE⟩ := C
  have hK := hE.1
  have hN := hE.2.1
  have hh_1365 : w h = some (1, .inr (cx_K, [.ref D.t, .ref D.a, .ref D.lv, .ref D.sn, .ref D.g, .ref D.k, .ref D.ne, .int (nI σ.sf), .int (bo_i σ.ib), .int (nI σ.sq), .int (nI σ.pr), .int (nI σ.mi)])) := hkp.o
  refine lv_aload_n hx hb de_K_put_0 rfl (lv_at hl 0 rfl) ?_
  refine lv_iload_n hx hb de_K_put_1 rfl (lv_at hl 1 rfl) ?_
  refine lv_lload_n hx hb de_K_put_2 rfl (lv_at hl 2 rfl) ?_
  refine lv_iconst (v := nI 0) hx hb de_K_put_3 (by decide) ?_
  rw [show nI 0 = bo_i false by decide]
  refine dk_calli (va_runV (As := [.int (nI k), .long z, .int (bo_i false)]) (rest := []) ⟨hx, hb, hml, hown, hts⟩ (c_K_writeN l G w h D σ hkp k z false hk0 hib hc6 hs ht) (cwV 3 hts (wd_gV (C := "RunKeeper") wi_338 wi_335 wi_337 (wd_p (q := (⟨"RunKeeper", "write", "(IJZ)I"⟩, 12)) (by decide +kernel) (by decide +kernel)) wi_1) rfl rfl rfl (by decide +kernel) ⟨Nat.le_of_ble_eq_true rfl, Nat.le_of_ble_eq_true rfl⟩) (dk_preV (kn_K, kt_K, 12) hE hP hS hh_1365 rfl) rfl rfl hl.1 rfl (lv_room (Nat.le_of_ble_eq_true rfl)) de_K_put_4 ⟨(by first | exact Nat.le_of_ble_eq_true rfl | (simp only [Nat.zero_add]; omega) | omega), (by first | exact Nat.le_of_ble_eq_true rfl | (simp only [Nat.zero_add]; omega) | omega)⟩) hS (fun r_1368 w_1366 H locs hq_1367 hP hS => ?_)
  exact dk_iret hQ hx hb hr hlocks hP hS (by omega) (by omega) (⟨hq_1367.1, hq_1367.2.1, hq_1367.2.2⟩) de_K_put_7
abbrev rm_K_delete (c : Nat) : Room := { frames := 11, cells := (2 + 5 * c), slots := (8 + 1579 * c), locals := 260 }
set_option maxHeartbeats 4000000 in
set_option maxRecDepth 100000 in
theorem c_K_deleteB (l : Launch) (G : dk_G) (w : dk_H) (h : Nat) (D : kp_D) (σ : kp_S) (hkp : kp_at G w h D σ) (k : Nat) (hk0 : k < 1024) (hib : σ.ib = true) (hfull : σ.ad.length < 16) : dk_Mi l my_K_delete (wd_c my_K_delete mb_K_delete 2 (some .int)) (rm_K_delete 0) G w [.ref h, .int (nI k)] (fun r w1 => r = nI (σ.ad.length + 1) ∧ kp_at G w1 h D (σ.ad' (σ.ad ++ [(k, 0, 0, true)])) ∧ dk_fr kp_T w w1) 2 8 := by
  refine dk_enter (lv := [(0, .ref h), (1, .int (nI k))]) (by decide) (Nat.le_of_ble_eq_true rfl) rfl (fun p e s m args below meth c ls Q hQ C hP hS hl => ?_)
  obtain ⟨hx, hb, hr, hml, hlocks, hown, hnm, hts, hE⟩ := C
  have hK := hE.1
  have hN := hE.2.1
  have hh_1369 : w h = some (1, .inr (cx_K, [.ref D.t, .ref D.a, .ref D.lv, .ref D.sn, .ref D.g, .ref D.k, .ref D.ne, .int (nI σ.sf), .int (bo_i σ.ib), .int (nI σ.sq), .int (nI σ.pr), .int (nI σ.mi)])) := hkp.o
  refine lv_aload_n hx hb de_K_delete_0 rfl (lv_at hl 0 rfl) ?_
  refine lv_iload_n hx hb de_K_delete_1 rfl (lv_at hl 1 rfl) ?_
  refine lv_lconst (v := 0) hx hb de_K_delete_2 (by decide) ?_
  refine lv_iconst (v := nI 1) hx hb de_K_delete_3 (by decide) ?_
  rw [show nI 1 = bo_i true by decide]
  refine dk_calli (va_runV (As := [.int (nI k), .long 0, .int (bo_i true)]) (rest := []) ⟨hx, hb, hml, hown, hts⟩ (c_K_writeB l G w h D σ hkp k 0 true hk0 hib hfull) (cwV 3 hts (wd_gV (C := "RunKeeper") wi_338 wi_335 wi_337 (wd_p (q := (⟨"RunKeeper", "write", "(IJZ)I"⟩, 12)) (by decide +kernel) (by decide +kernel)) wi_1) rfl rfl rfl (by decide +kernel) ⟨Nat.le_of_ble_eq_true rfl, Nat.le_of_ble_eq_true rfl⟩) (dk_preV (kn_K, kt_K, 12) hE hP hS hh_1369 rfl) rfl rfl hl.1 rfl (lv_room (Nat.le_of_ble_eq_true rfl)) de_K_delete_4 ⟨(by first | exact Nat.le_of_ble_eq_true rfl | (simp only [Nat.zero_add]; omega) | omega), (by first | exact Nat.le_of_ble_eq_true rfl | (simp only [Nat.zero_add]; omega) | omega)⟩) hS (fun r_1372 w_1370 H locs hq_1371 hP hS => ?_)
  exact dk_iret hQ hx hb hr hlocks hP hS (by omega) (by omega) (⟨hq_1371.1, hq_1371.2.1, hq_1371.2.2⟩) de_K_delete_7
set_option maxHeartbeats 4000000 in
set_option maxRecDepth 100000 in
theorem c_K_deleteN (l : Launch) (G : dk_G) (w : dk_H) (h : Nat) (D : kp_D) (σ : kp_S) (hkp : kp_at G w h D σ) (k : Nat) (hk0 : k < 1024) (hib : σ.ib = false) (hc6 : kp_n σ < 600) (hs : σ.sq + 1 < 2 ^ 30) (ht : σ.tb.length < 40) : dk_Mi l my_K_delete (wd_c my_K_delete mb_K_delete 2 (some .int)) (rm_K_delete 1) G w [.ref h, .int (nI k)] (fun r w1 => r = nI (σ.sq + 1) ∧ kp_at G w1 h D (kp_fl (kp_ap σ (k, 0, 0, true)) 24) ∧ dk_fr kp_T w w1) 7 1587 := by
  refine dk_enter (lv := [(0, .ref h), (1, .int (nI k))]) (by decide) (Nat.le_of_ble_eq_true rfl) rfl (fun p e s m args below meth c ls Q hQ C hP hS hl => ?_)
  obtain ⟨hx, hb, hr, hml, hlocks, hown, hnm, hts, hE⟩ := C
  have hK := hE.1
  have hN := hE.2.1
  have hh_1373 : w h = some (1, .inr (cx_K, [.ref D.t, .ref D.a, .ref D.lv, .ref D.sn, .ref D.g, .ref D.k, .ref D.ne, .int (nI σ.sf), .int (bo_i σ.ib), .int (nI σ.sq), .int (nI σ.pr), .int (nI σ.mi)])) := hkp.o
  refine lv_aload_n hx hb de_K_delete_0 rfl (lv_at hl 0 rfl) ?_
  refine lv_iload_n hx hb de_K_delete_1 rfl (lv_at hl 1 rfl) ?_
  refine lv_lconst (v := 0) hx hb de_K_delete_2 (by decide) ?_
  refine lv_iconst (v := nI 1) hx hb de_K_delete_3 (by decide) ?_
  rw [show nI 1 = bo_i true by decide]
  refine dk_calli (va_runV (As := [.int (nI k), .long 0, .int (bo_i true)]) (rest := []) ⟨hx, hb, hml, hown, hts⟩ (c_K_writeN l G w h D σ hkp k 0 true hk0 hib hc6 hs ht) (cwV 3 hts (wd_gV (C := "RunKeeper") wi_338 wi_335 wi_337 (wd_p (q := (⟨"RunKeeper", "write", "(IJZ)I"⟩, 12)) (by decide +kernel) (by decide +kernel)) wi_1) rfl rfl rfl (by decide +kernel) ⟨Nat.le_of_ble_eq_true rfl, Nat.le_of_ble_eq_true rfl⟩) (dk_preV (kn_K, kt_K, 12) hE hP hS hh_1373 rfl) rfl rfl hl.1 rfl (lv_room (Nat.le_of_ble_eq_true rfl)) de_K_delete_4 ⟨(by first | exact Nat.le_of_ble_eq_true rfl | (simp only [Nat.zero_add]; omega) | omega), (by first | exact Nat.le_of_ble_eq_true rfl | (simp only [Nat.zero_add]; omega) | omega)⟩) hS (fun r_1376 w_1374 H locs hq_1375 hP hS => ?_)
  exact dk_iret hQ hx hb hr hlocks hP hS (by omega) (by omega) (⟨hq_1375.1, hq_1375.2.1, hq_1375.2.2⟩) de_K_delete_7
abbrev rm_K_end (n : Nat) : Room := { frames := 10, cells := (n + 5), slots := (4 * n + 1579), locals := 235 }
set_option maxHeartbeats 4000000 in
set_option maxRecDepth 100000 in
theorem c_K_endC (l : Launch) (G : dk_G) (w : dk_H) (h : Nat) (D : kp_D) (σ : kp_S) (hkp : kp_at G w h D σ) (hib : σ.ib = true) (hc6 : kp_n σ + σ.ad.length ≤ 600) (hs : σ.sq + 17 < 2 ^ 30) (ht : σ.tb.length < 24) (hadk : ∀ x ∈ σ.ad, x.1 < 1024) : dk_Mi l my_K_end (wd_c my_K_end mb_K_end 4 (some .int)) (rm_K_end σ.ad.length) G w [.ref h, .int (bo_i true)] (fun r w1 => r = nI (σ.ad.length) ∧ kp_at G w1 h D (((kp_fl (ap_L σ σ.ad) 24).ib' false).ad' []) ∧ dk_fr kp_T w w1) (σ.ad.length + 5) (4 * σ.ad.length + 1579) := by
  have ha16 : σ.ad.length ≤ 16 := hkp.a.choose_spec.choose_spec.2.2.1
  refine dk_enter (lv := [(0, .ref h), (1, .int (bo_i true))]) (by decide) (Nat.le_of_ble_eq_true rfl) rfl (fun p e s m args below meth c ls Q hQ C hP hS hl => ?_)
  obtain ⟨hx, hb, hr, hml, hlocks, hown, hnm, hts, hE⟩ := C
  have hK := hE.1
  have hN := hE.2.1
  have hh_1377 : w h = some (1, .inr (cx_K, [.ref D.t, .ref D.a, .ref D.lv, .ref D.sn, .ref D.g, .ref D.k, .ref D.ne, .int (nI σ.sf), .int (bo_i σ.ib), .int (nI σ.sq), .int (nI σ.pr), .int (nI σ.mi)])) := hkp.o
  refine lv_aload_n hx hb de_K_end_0 rfl (lv_at hl 0 rfl) ?_
  refine dk_get (a := h) (v := .int (bo_i σ.ib)) (C := kn_K) (T := kt_K) (N := 12) hx hb hts ki_K hown hK hP hh_1377 rfl 8 (by decide) (hts _ wi_111) (fun _ h9 => h9) rfl de_K_end_1 ?_
  refine bo_if_ne (b := σ.ib) (tgt := 17) hx hb de_K_end_4 (by decide) (fun c_1378 => ?_) (fun c_1378 => ?_)
  · refine lv_iload_n hx hb de_K_end_17 rfl (lv_at hl 1 rfl) ?_
    refine bo_if_eq (b := true) (tgt := 31) hx hb de_K_end_18 (by decide) (fun c_1379 => ?_) (fun c_1379 => ?_)
    · exact absurd c_1379 (by decide)
    · refine lv_aload_n hx hb de_K_end_21 rfl (lv_at hl 0 rfl) ?_
      refine dk_get (a := h) (v := .ref D.a) (C := kn_K) (T := kt_K) (N := 12) hx hb hts ki_K hown hK hP hh_1377 rfl 1 (by decide) (hts _ wi_104) (fun _ h9 => h9) rfl de_K_end_22 ?_
      obtain ⟨sl_1380, _, hc_1381, -⟩ := id hkp.a
      refine dk_calli (va_runV (As := []) (rest := []) ⟨hx, hb, hml, hown, hts⟩ (c_R_size l G w D.a 4 5 16 σ.ad hkp.a) (cwV 0 hts (wd_gV (C := "RunKeeper$Row") wi_147 wi_144 wi_145 wi_146 wi_2) rfl rfl rfl (by decide +kernel) ⟨Nat.le_of_ble_eq_true rfl, Nat.le_of_ble_eq_true rfl⟩) (dk_preV (kn_R, kt_R, 2) hE hP hS hc_1381 rfl) rfl rfl hl.1 rfl (lv_room (Nat.le_of_ble_eq_true rfl)) de_K_end_25 ⟨(by first | exact Nat.le_of_ble_eq_true rfl | (simp only [Nat.zero_add]; omega) | omega), (by first | exact Nat.le_of_ble_eq_true rfl | (simp only [Nat.zero_add]; omega) | omega)⟩) hS (fun r_1384 w_1382 H locs hq_1383 hP hS => ?_)
      obtain ⟨hr_1385, he_1386⟩ := hq_1383
      subst hr_1385
      rw [he_1386] at hP
      refine lv_goto (tgt := 32) hx hb de_K_end_28 (by decide) ?_
      refine lv_istore_n (lv' := [(2, .int (nI σ.ad.length)), (0, .ref h), (1, .int (bo_i true))]) hx hb de_K_end_32 rfl hl (by decide) rfl (fun ls hl => ?_)
      refine lv_aload_n hx hb de_K_end_33 rfl (lv_at hl 1 rfl) ?_
      refine dk_calli (va_runV (As := []) (rest := []) ⟨hx, hb, hml, hown, hts⟩ (c_K_entriesInAll l G w h D σ hkp) (cwV 0 hts (wd_gV (C := "RunKeeper") wi_418 wi_415 wi_417 (wd_p (q := (⟨"RunKeeper", "entriesInAll", "()I"⟩, 12)) (by decide +kernel) (by decide +kernel)) wi_1) rfl rfl rfl (by decide +kernel) ⟨Nat.le_of_ble_eq_true rfl, Nat.le_of_ble_eq_true rfl⟩) (dk_preV (kn_K, kt_K, 12) hE hP hS hh_1377 rfl) rfl rfl hl.1 rfl (lv_room (Nat.le_of_ble_eq_true rfl)) de_K_end_34 ⟨(by first | exact Nat.le_of_ble_eq_true rfl | (simp only [Nat.zero_add]; omega) | omega), (by first | exact Nat.le_of_ble_eq_true rfl | (simp only [Nat.zero_add]; omega) | omega)⟩) hS (fun r_1389 w_1387 H locs hq_1388 hP hS => ?_)
      obtain ⟨hr_1390, he_1391⟩ := hq_1388
      subst hr_1390
      rw [he_1391] at hP
      refine lv_iload_n hx hb de_K_end_37 rfl (lv_at hl 0 rfl) ?_
      refine nx_iadd (a := kp_n σ) (b := σ.ad.length) hx hb de_K_end_38 ?_
      refine lv_sipush (v := nI 600) hx hb de_K_end_39 (by decide) ?_
      refine nx_icmp_le (a := kp_n σ + σ.ad.length) (b := 600) (tgt := 55) hx hb (by omega) (by omega) de_K_end_42 (by decide) (fun c_1392 => ?_) (fun c_1392 => ?_)
      · refine lv_iconst (v := nI 0) hx hb de_K_end_55 (by decide) ?_
        refine lv_istore_n (lv' := [(3, .int (nI 0)), (2, .int (nI σ.ad.length)), (0, .ref h), (1, .int (bo_i true))]) hx hb de_K_end_56 rfl hl (by decide) rfl (fun ls hl => ?_)
        have lp : ∀ (zk : Nat) (i : Nat), σ.ad.length - i < zk → (i ≤ σ.ad.length) → ∀ (H : Heap) (locs : List Loc) (v : dk_H), (kp_at G v h D (ap_L σ (σ.ad.take i))) → (dk_fr kp_T w v) → dk_P G v H → dk_S G s.heap H locs → ∀ (ls : Array Slot), lv_has ls 4 [(0, .ref h), (1, .int (bo_i true)), (2, .int (nI σ.ad.length)), (3, .int (nI i))] → W p l e (rm_K_end σ.ad.length) s m args below meth c H locs i (4 * i) Q (F0 m 57 ls []) := by
          intro zk
          induction zk with
          | zero =>
            intro i hk
            exact absurd hk (by omega)
          | succ zk ih =>
            intro i hk hi
            intro H locs v hkv hg hP hS
            intro ls hl
            have hh_1393 : v h = some (1, .inr (cx_K, [.ref D.t, .ref D.a, .ref D.lv, .ref D.sn, .ref D.g, .ref D.k, .ref D.ne, .int (nI ((ap_L σ (σ.ad.take i)).sf)), .int (bo_i ((ap_L σ (σ.ad.take i)).ib)), .int (nI ((ap_L σ (σ.ad.take i)).sq)), .int (nI ((ap_L σ (σ.ad.take i)).pr)), .int (nI ((ap_L σ (σ.ad.take i)).mi))])) := hkv.o
            have hap := ap_L_p σ (σ.ad.take i)
            have htk : (σ.ad.take i).length = i := by rw [List.length_take]; omega
            refine lv_iload_n hx hb de_K_end_57 rfl (lv_at hl 3 rfl) ?_
            refine lv_iload_n hx hb de_K_end_58 rfl (lv_at hl 2 rfl) ?_
            refine nx_icmp_ge (a := i) (b := σ.ad.length) (tgt := 80) hx hb (by omega) (by omega) de_K_end_59 (by decide) (fun c_1394 => ?_) (fun c_1394 => ?_)
            · have e9 : σ.ad.take i = σ.ad := List.take_of_length_le (by omega)
              rw [e9] at hkv hap
              have hh_1395 : v h = some (1, .inr (cx_K, [.ref D.t, .ref D.a, .ref D.lv, .ref D.sn, .ref D.g, .ref D.k, .ref D.ne, .int (nI ((ap_L σ σ.ad).sf)), .int (bo_i ((ap_L σ σ.ad).ib)), .int (nI ((ap_L σ σ.ad).sq)), .int (nI ((ap_L σ σ.ad).pr)), .int (nI ((ap_L σ σ.ad).mi))])) := hkv.o
              refine lv_aload_n hx hb de_K_end_80 rfl (lv_at hl 0 rfl) ?_
              refine lv_bipush (v := nI 24) hx hb de_K_end_81 (by decide) ?_
              refine dk_callv (va_runV (As := [.int (nI 24)]) (rest := []) ⟨hx, hb, hml, hown, hts⟩ (c_K_flushTableIfItHas l G v h D (ap_L σ σ.ad) hkv 24 (by decide) (by decide) (by rw [hap.2.2.2.1]; omega)) (cwV 1 hts (wd_gV (C := "RunKeeper") wi_155 wi_152 wi_154 (wd_p (q := (⟨"RunKeeper", "flushTableIfItHas", "(I)V"⟩, 12)) (by decide +kernel) (by decide +kernel)) wi_1) rfl rfl rfl (by decide +kernel) ⟨Nat.le_of_ble_eq_true rfl, Nat.le_of_ble_eq_true rfl⟩) (dk_preV (kn_K, kt_K, 12) hE hP hS hh_1395 rfl) rfl rfl hl.1 rfl (lv_room (Nat.le_of_ble_eq_true rfl)) de_K_end_83 ⟨(by first | exact Nat.le_of_ble_eq_true rfl | (simp only [Nat.zero_add]; omega) | omega), (by first | exact Nat.le_of_ble_eq_true rfl | (simp only [Nat.zero_add]; omega) | omega)⟩) hS (fun w_1396 H locs hq_1397 hP hS => ?_)
              have hh_1399 : w_1396 h = some (1, .inr (cx_K, [.ref D.t, .ref D.a, .ref D.lv, .ref D.sn, .ref D.g, .ref D.k, .ref D.ne, .int (nI ((kp_fl (ap_L σ σ.ad) 24).sf)), .int (bo_i ((kp_fl (ap_L σ σ.ad) 24).ib)), .int (nI ((kp_fl (ap_L σ σ.ad) 24).sq)), .int (nI ((kp_fl (ap_L σ σ.ad) 24).pr)), .int (nI ((kp_fl (ap_L σ σ.ad) 24).mi))])) := hq_1397.1.o
              refine lv_aload_n hx hb de_K_end_86 rfl (lv_at hl 0 rfl) ?_
              refine dk_callv (va_runV (As := []) (rest := []) ⟨hx, hb, hml, hown, hts⟩ (c_K_dropBatch l G w_1396 h D (kp_fl (ap_L σ σ.ad) 24) hq_1397.1) (cwV 0 hts (wd_gV (C := "RunKeeper") wi_287 wi_284 wi_286 (wd_p (q := (⟨"RunKeeper", "dropBatch", "()V"⟩, 12)) (by decide +kernel) (by decide +kernel)) wi_1) rfl rfl rfl (by decide +kernel) ⟨Nat.le_of_ble_eq_true rfl, Nat.le_of_ble_eq_true rfl⟩) (dk_preV (kn_K, kt_K, 12) hE hP hS hh_1399 rfl) rfl rfl hl.1 rfl (lv_room (Nat.le_of_ble_eq_true rfl)) de_K_end_87 ⟨(by first | exact Nat.le_of_ble_eq_true rfl | (simp only [Nat.zero_add]; omega) | omega), (by first | exact Nat.le_of_ble_eq_true rfl | (simp only [Nat.zero_add]; omega) | omega)⟩) hS (fun w_1400 H locs hq_1401 hP hS => ?_)
              refine lv_iload_n hx hb de_K_end_90 rfl (lv_at hl 2 rfl) ?_
              exact dk_iret hQ hx hb hr hlocks hP hS (by omega) (by omega) (⟨rfl, hq_1401.1, (hg.tr hq_1397.2).tr hq_1401.2⟩) de_K_end_91
            · obtain ⟨x, hx9⟩ := ge_at c_1394
              refine lv_aload_n hx hb de_K_end_62 rfl (lv_at hl 0 rfl) ?_
              refine lv_aload_n hx hb de_K_end_63 rfl (lv_at hl 0 rfl) ?_
              refine dk_get (a := h) (v := .ref D.a) (C := kn_K) (T := kt_K) (N := 12) hx hb hts ki_K hown hK hP hh_1393 rfl 1 (by decide) (hts _ wi_104) (fun _ h9 => h9) rfl de_K_end_64 ?_
              refine lv_iload_n hx hb de_K_end_67 rfl (lv_at hl 3 rfl) ?_
              have had : rw_at G v D.a 4 5 16 σ.ad := by rw [← hap.2.1]; exact hkv.a
              obtain ⟨sl9, _, hac, -⟩ := id had
              refine dk_callq (va_runV (As := [.int (nI i)]) (rest := [.ref h]) ⟨hx, hb, hml, hown, hts⟩ (c_R_at l G v D.a 4 5 16 σ.ad had (nI i)) (cwV 1 hts (wd_gV (C := "RunKeeper$Row") wi_191 wi_516 wi_189 wi_190 wi_2) rfl rfl rfl (by decide +kernel) ⟨Nat.le_of_ble_eq_true rfl, Nat.le_of_ble_eq_true rfl⟩) (dk_preV (kn_R, kt_R, 2) hE hP hS hac rfl) rfl rfl hl.1 rfl (lv_room (Nat.le_of_ble_eq_true rfl)) de_K_end_68 ⟨(by first | exact Nat.le_of_ble_eq_true rfl | (simp only [Nat.zero_add]; omega) | omega), (by first | exact Nat.le_of_ble_eq_true rfl | (simp only [Nat.zero_add]; omega) | omega)⟩) hS (fun r_1405 w_1403 H locs hq_1404 hP hS => ?_)
              obtain ⟨a1, ha1, ha2⟩ := at_in hq_1404.2 (by omega) (by omega) hx9
              rw [hq_1404.1] at hP
              subst ha1
              refine dk_callv (va_runV (As := [.ref a1]) (rest := []) ⟨hx, hb, hml, hown, hts⟩ (c_K_appendToTable l G v h D (ap_L σ (σ.ad.take i)) hkv a1 x ha2 (by rw [hap.2.2.1]; omega) (hadk x (List.mem_of_getElem? hx9)) (by rw [hap.1]; omega)) (cwV 1 hts (wd_gV (C := "RunKeeper") wi_469 wi_466 wi_468 (wd_p (q := (⟨"RunKeeper", "appendToTable", "(LRunKeeper$Entry;)V"⟩, 12)) (by decide +kernel) (by decide +kernel)) wi_1) rfl rfl rfl (by decide +kernel) ⟨Nat.le_of_ble_eq_true rfl, Nat.le_of_ble_eq_true rfl⟩) (dk_preV (kn_K, kt_K, 12) hE hP hS hh_1393 rfl) rfl rfl hl.1 rfl (lv_room (Nat.le_of_ble_eq_true rfl)) de_K_end_71 ⟨(by first | exact Nat.le_of_ble_eq_true rfl | (simp only [Nat.zero_add]; omega) | omega), (by first | exact Nat.le_of_ble_eq_true rfl | (simp only [Nat.zero_add]; omega) | omega)⟩) hS (fun w_1406 H locs hq_1407 hP hS => ?_)
              have hk7 : kp_at G w_1406 h D (ap_L σ (σ.ad.take (i + 1))) := by rw [ta_s hx9, ap_snoc]; exact hq_1407.1
              refine lv_iinc (v := nI (i + 1)) (lv' := [(3, .int (nI (i + 1))), (0, .ref h), (1, .int (bo_i true)), (2, .int (nI σ.ad.length))]) hx hb de_K_end_74 hl (k := 3) rfl (nx_inc i) (by decide) rfl (fun ls hl => ?_)
              refine lv_goto (tgt := 57) hx hb de_K_end_77 (by decide) ?_
              exact W.widen (by omega) (by omega) (ih (i + 1) (by omega) (by omega) _ _ _ hk7 (hg.tr hq_1407.2) hP hS _ (lv_sub hl [1, 2, 3, 0] rfl))
        exact W.widen (by omega) (by omega) (lp (σ.ad.length + 1) 0 (by omega) (Nat.zero_le _) _ _ _ (by rw [List.take_zero]; exact hkp) dk_fr.rf hP hS _ (lv_sub hl [2, 3, 1, 0] rfl))
      · exact absurd c_1392 (by omega)
  · exact absurd (hib.symm.trans c_1378) (by decide)
set_option maxHeartbeats 4000000 in
set_option maxRecDepth 100000 in
theorem c_K_endR (l : Launch) (G : dk_G) (w : dk_H) (h : Nat) (D : kp_D) (σ : kp_S) (hkp : kp_at G w h D σ) (hib : σ.ib = true) (hc6 : kp_n σ + 0 ≤ 600) (hs : σ.sq + 17 < 2 ^ 30) (ht : σ.tb.length < 24) (hadk : ∀ x ∈ σ.ad, x.1 < 1024) : dk_Mi l my_K_end (wd_c my_K_end mb_K_end 4 (some .int)) (rm_K_end 0) G w [.ref h, .int (bo_i false)] (fun r w1 => r = nI (0) ∧ kp_at G w1 h D (((kp_fl (ap_L σ ([] : List en_T)) 24).ib' false).ad' []) ∧ dk_fr kp_T w w1) (0 + 5) (4 * 0 + 1579) := by
  have ha16 : σ.ad.length ≤ 16 := hkp.a.choose_spec.choose_spec.2.2.1
  refine dk_enter (lv := [(0, .ref h), (1, .int (bo_i false))]) (by decide) (Nat.le_of_ble_eq_true rfl) rfl (fun p e s m args below meth c ls Q hQ C hP hS hl => ?_)
  obtain ⟨hx, hb, hr, hml, hlocks, hown, hnm, hts, hE⟩ := C
  have hK := hE.1
  have hN := hE.2.1
  have hh_1409 : w h = some (1, .inr (cx_K, [.ref D.t, .ref D.a, .ref D.lv, .ref D.sn, .ref D.g, .ref D.k, .ref D.ne, .int (nI σ.sf), .int (bo_i σ.ib), .int (nI σ.sq), .int (nI σ.pr), .int (nI σ.mi)])) := hkp.o
  refine lv_aload_n hx hb de_K_end_0 rfl (lv_at hl 0 rfl) ?_
  refine dk_get (a := h) (v := .int (bo_i σ.ib)) (C := kn_K) (T := kt_K) (N := 12) hx hb hts ki_K hown hK hP hh_1409 rfl 8 (by decide) (hts _ wi_111) (fun _ h9 => h9) rfl de_K_end_1 ?_
  refine bo_if_ne (b := σ.ib) (tgt := 17) hx hb de_K_end_4 (by decide) (fun c_1410 => ?_) (fun c_1410 => ?_)
  · refine lv_iload_n hx hb de_K_end_17 rfl (lv_at hl 1 rfl) ?_
    refine bo_if_eq (b := false) (tgt := 31) hx hb de_K_end_18 (by decide) (fun c_1411 => ?_) (fun c_1411 => ?_)
    · refine lv_iconst (v := nI 0) hx hb de_K_end_31 (by decide) ?_
      refine lv_istore_n (lv' := [(2, .int (nI 0)), (0, .ref h), (1, .int (bo_i false))]) hx hb de_K_end_32 rfl hl (by decide) rfl (fun ls hl => ?_)
      refine lv_aload_n hx hb de_K_end_33 rfl (lv_at hl 1 rfl) ?_
      refine dk_calli (va_runV (As := []) (rest := []) ⟨hx, hb, hml, hown, hts⟩ (c_K_entriesInAll l G w h D σ hkp) (cwV 0 hts (wd_gV (C := "RunKeeper") wi_418 wi_415 wi_417 (wd_p (q := (⟨"RunKeeper", "entriesInAll", "()I"⟩, 12)) (by decide +kernel) (by decide +kernel)) wi_1) rfl rfl rfl (by decide +kernel) ⟨Nat.le_of_ble_eq_true rfl, Nat.le_of_ble_eq_true rfl⟩) (dk_preV (kn_K, kt_K, 12) hE hP hS hh_1409 rfl) rfl rfl hl.1 rfl (lv_room (Nat.le_of_ble_eq_true rfl)) de_K_end_34 ⟨(by first | exact Nat.le_of_ble_eq_true rfl | (simp only [Nat.zero_add]; omega) | omega), (by first | exact Nat.le_of_ble_eq_true rfl | (simp only [Nat.zero_add]; omega) | omega)⟩) hS (fun r_1414 w_1412 H locs hq_1413 hP hS => ?_)
      obtain ⟨hr_1415, he_1416⟩ := hq_1413
      subst hr_1415
      rw [he_1416] at hP
      refine lv_iload_n hx hb de_K_end_37 rfl (lv_at hl 0 rfl) ?_
      refine nx_iadd (a := kp_n σ) (b := 0) hx hb de_K_end_38 ?_
      refine lv_sipush (v := nI 600) hx hb de_K_end_39 (by decide) ?_
      refine nx_icmp_le (a := kp_n σ + 0) (b := 600) (tgt := 55) hx hb (by omega) (by omega) de_K_end_42 (by decide) (fun c_1417 => ?_) (fun c_1417 => ?_)
      · refine lv_iconst (v := nI 0) hx hb de_K_end_55 (by decide) ?_
        refine lv_istore_n (lv' := [(3, .int (nI 0)), (2, .int (nI 0)), (0, .ref h), (1, .int (bo_i false))]) hx hb de_K_end_56 rfl hl (by decide) rfl (fun ls hl => ?_)
        have lp : ∀ (zk : Nat) (i : Nat), 0 - i < zk → (i ≤ 0) → ∀ (H : Heap) (locs : List Loc) (v : dk_H), (kp_at G v h D (ap_L σ (([] : List en_T).take i))) → (dk_fr kp_T w v) → dk_P G v H → dk_S G s.heap H locs → ∀ (ls : Array Slot), lv_has ls 4 [(0, .ref h), (1, .int (bo_i false)), (2, .int (nI 0)), (3, .int (nI i))] → W p l e (rm_K_end 0) s m args below meth c H locs i (4 * i) Q (F0 m 57 ls []) := by
          intro zk
          induction zk with
          | zero =>
            intro i hk
            exact absurd hk (by omega)
          | succ zk ih =>
            intro i hk hi
            intro H locs v hkv hg hP hS
            intro ls hl
            have hh_1418 : v h = some (1, .inr (cx_K, [.ref D.t, .ref D.a, .ref D.lv, .ref D.sn, .ref D.g, .ref D.k, .ref D.ne, .int (nI ((ap_L σ (([] : List en_T).take i)).sf)), .int (bo_i ((ap_L σ (([] : List en_T).take i)).ib)), .int (nI ((ap_L σ (([] : List en_T).take i)).sq)), .int (nI ((ap_L σ (([] : List en_T).take i)).pr)), .int (nI ((ap_L σ (([] : List en_T).take i)).mi))])) := hkv.o
            have hap := ap_L_p σ (([] : List en_T).take i)
            have htk : (([] : List en_T).take i).length = i := by rw [List.length_take]; simp; omega
            refine lv_iload_n hx hb de_K_end_57 rfl (lv_at hl 3 rfl) ?_
            refine lv_iload_n hx hb de_K_end_58 rfl (lv_at hl 2 rfl) ?_
            refine nx_icmp_ge (a := i) (b := 0) (tgt := 80) hx hb (by omega) (by omega) de_K_end_59 (by decide) (fun c_1419 => ?_) (fun c_1419 => ?_)
            · have e9 : ([] : List en_T).take i = ([] : List en_T) := List.take_of_length_le (by simp)
              rw [e9] at hkv hap
              have hh_1420 : v h = some (1, .inr (cx_K, [.ref D.t, .ref D.a, .ref D.lv, .ref D.sn, .ref D.g, .ref D.k, .ref D.ne, .int (nI ((ap_L σ ([] : List en_T)).sf)), .int (bo_i ((ap_L σ ([] : List en_T)).ib)), .int (nI ((ap_L σ ([] : List en_T)).sq)), .int (nI ((ap_L σ ([] : List en_T)).pr)), .int (nI ((ap_L σ ([] : List en_T)).mi))])) := hkv.o
              refine lv_aload_n hx hb de_K_end_80 rfl (lv_at hl 0 rfl) ?_
              refine lv_bipush (v := nI 24) hx hb de_K_end_81 (by decide) ?_
              refine dk_callv (va_runV (As := [.int (nI 24)]) (rest := []) ⟨hx, hb, hml, hown, hts⟩ (c_K_flushTableIfItHas l G v h D (ap_L σ ([] : List en_T)) hkv 24 (by decide) (by decide) (by rw [hap.2.2.2.1]; simp; omega)) (cwV 1 hts (wd_gV (C := "RunKeeper") wi_155 wi_152 wi_154 (wd_p (q := (⟨"RunKeeper", "flushTableIfItHas", "(I)V"⟩, 12)) (by decide +kernel) (by decide +kernel)) wi_1) rfl rfl rfl (by decide +kernel) ⟨Nat.le_of_ble_eq_true rfl, Nat.le_of_ble_eq_true rfl⟩) (dk_preV (kn_K, kt_K, 12) hE hP hS hh_1420 rfl) rfl rfl hl.1 rfl (lv_room (Nat.le_of_ble_eq_true rfl)) de_K_end_83 ⟨(by first | exact Nat.le_of_ble_eq_true rfl | (simp only [Nat.zero_add]; omega) | omega), (by first | exact Nat.le_of_ble_eq_true rfl | (simp only [Nat.zero_add]; omega) | omega)⟩) hS (fun w_1421 H locs hq_1422 hP hS => ?_)
              have hh_1424 : w_1421 h = some (1, .inr (cx_K, [.ref D.t, .ref D.a, .ref D.lv, .ref D.sn, .ref D.g, .ref D.k, .ref D.ne, .int (nI ((kp_fl (ap_L σ ([] : List en_T)) 24).sf)), .int (bo_i ((kp_fl (ap_L σ ([] : List en_T)) 24).ib)), .int (nI ((kp_fl (ap_L σ ([] : List en_T)) 24).sq)), .int (nI ((kp_fl (ap_L σ ([] : List en_T)) 24).pr)), .int (nI ((kp_fl (ap_L σ ([] : List en_T)) 24).mi))])) := hq_1422.1.o
              refine lv_aload_n hx hb de_K_end_86 rfl (lv_at hl 0 rfl) ?_
              refine dk_callv (va_runV (As := []) (rest := []) ⟨hx, hb, hml, hown, hts⟩ (c_K_dropBatch l G w_1421 h D (kp_fl (ap_L σ ([] : List en_T)) 24) hq_1422.1) (cwV 0 hts (wd_gV (C := "RunKeeper") wi_287 wi_284 wi_286 (wd_p (q := (⟨"RunKeeper", "dropBatch", "()V"⟩, 12)) (by decide +kernel) (by decide +kernel)) wi_1) rfl rfl rfl (by decide +kernel) ⟨Nat.le_of_ble_eq_true rfl, Nat.le_of_ble_eq_true rfl⟩) (dk_preV (kn_K, kt_K, 12) hE hP hS hh_1424 rfl) rfl rfl hl.1 rfl (lv_room (Nat.le_of_ble_eq_true rfl)) de_K_end_87 ⟨(by first | exact Nat.le_of_ble_eq_true rfl | (simp only [Nat.zero_add]; omega) | omega), (by first | exact Nat.le_of_ble_eq_true rfl | (simp only [Nat.zero_add]; omega) | omega)⟩) hS (fun w_1425 H locs hq_1426 hP hS => ?_)
              refine lv_iload_n hx hb de_K_end_90 rfl (lv_at hl 2 rfl) ?_
              exact dk_iret hQ hx hb hr hlocks hP hS (by omega) (by omega) (⟨rfl, hq_1426.1, (hg.tr hq_1422.2).tr hq_1426.2⟩) de_K_end_91
            · exact absurd c_1419 (by omega)
        exact W.widen (by omega) (by omega) (lp (0 + 1) 0 (by omega) (Nat.zero_le _) _ _ _ (by rw [List.take_zero]; exact hkp) dk_fr.rf hP hS _ (lv_sub hl [2, 3, 1, 0] rfl))
      · exact absurd c_1417 (by omega)
    · exact absurd c_1411 (by decide)
  · exact absurd (hib.symm.trans c_1410) (by decide)
