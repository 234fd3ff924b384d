/-! RunKeeper: its constructor (printed by gen/c_keep7.py) -/
def kp_0 : kp_S := ([], [], fun _ => [], fun _ => none, [], [], fun _ => none, 0, false, 0, 0, 0)
/-- a keeper whose first i levels are made -/
def in_at (G : dk_G) (w : dk_H) (h : Nat) (D : kp_D) (i : Nat) : Prop := w h = some (1, kp_c D kp_0) ∧ rw_at G w D.t 2 3 40 [] ∧ rw_at G w D.a 4 5 16 [] ∧ w D.lv = some (11, dk_ca G 4 6 D.lf) ∧ (∀ j, j < i → D.lf j = some (D.le j) ∧ le_at G w (D.le j) (20 + 3 * j) []) ∧ sn_at G w D.sn (fun _ => none) ∧ rw_at G w D.g 6 7 600 [] ∧ rw_at G w D.k 8 9 600 [] ∧ nw_at G w D.ne (fun _ => none)
theorem in_done {G : dk_G} {w : dk_H} {h : Nat} {D : kp_D} (H : in_at G w h D 6) : kp_at G w h D kp_0 := by
  obtain ⟨h1, h2, h3, h4, h5, h6, h7, h8, h9⟩ := H
  exact ⟨h1, h2, h3, h4, h5, h6, h7, h8, h9, fun y hy => by cases hy⟩
theorem in_step {G : dk_G} {w w1 w2 : dk_H} {h i q : Nat} {D : kp_D} (H : in_at G w h D i) (hi : i < 6) (hf : dk_fr (fun t => t = 20 + 3 * i ∨ t = 20 + 3 * i + 1 ∨ t = 20 + 3 * i + 2) w w1) (hq : le_at G w1 q (20 + 3 * i) []) (hf2 : dk_fr (fun t => t = 11) w1 w2) (hl : w2 D.lv = some (11, dk_ca G 4 6 (va_up D.lf i (some q)))) : in_at G w2 h (D.t, D.a, D.lv, D.sn, D.g, D.k, D.ne, va_up D.lf i (some q), va_up D.le i q) (i + 1) := by
  obtain ⟨h1, h2, h3, h4, h5, h6, h7, h8, h9⟩ := H
  have hf3 : dk_fr (fun t => t = 11 ∨ t = 20 + 3 * i ∨ t = 20 + 3 * i + 1 ∨ t = 20 + 3 * i + 2) w w2 := (hf.mono (fun t z => Or.inr z)).tr (hf2.mono (fun t z => Or.inl z))
  refine ⟨hf3 _ _ _ h1 (by omega), h2.fr hf3 (by omega) (by omega) (by omega), h3.fr hf3 (by omega) (by omega) (by omega), hl, fun j hj => ?_, h6.fr hf3 (by omega) (by omega) (by omega), h7.fr hf3 (by omega) (by omega) (by omega), h8.fr hf3 (by omega) (by omega) (by omega), h9.fr hf3 (by omega) (by omega)⟩
  show va_up D.lf i (some q) j = some (va_up D.le i q j) ∧ le_at G w2 (va_up D.le i q j) (20 + 3 * j) []
  by_cases e : j = i
  · subst e
    rw [dk_us, dk_us]
    exact ⟨rfl, hq.fr hf2 (by omega) (by omega) (by omega) (by omega)⟩
  · rw [dk_un e, dk_un e]
    exact ⟨(h5 j (by omega)).1, (h5 j (by omega)).2.fr hf3 (by omega) (by omega) (by omega) (by omega)⟩
abbrev rm_K_init : Room := { frames := 5, cells := 25, slots := 2338, locals := 100 }
set_option maxHeartbeats 4000000 in
set_option maxRecDepth 100000 in
theorem c_K_init (l : Launch) (G : dk_G) (w : dk_H) (h : Nat) (hh : w h = some (1, .inr (cx_K, [.null, .null, .null, .null, .null, .null, .null, .int 0, .int 0, .int 0, .int 0, .int 0]))) : dk_Mv l my_K_init (wd_c my_K_init mb_K_init 2 none) rm_K_init G w [.ref h] (fun w1 => ∃ D, kp_at G w1 h D kp_0 ∧ dk_fr kp_T w w1) 25 2338 := by
  refine dk_enter (lv := [(0, .ref h)]) (by decide) (Nat.le_of_ble_eq_true rfl) rfl (fun p e s m args below meth c ls Q hQ C hP hS hl => ?_)
  obtain ⟨hx, hb, hr, hml, hlocks, hown, hnm, hts, hE⟩ := C
  have hK := hE.1
  have hN := hE.2.1
  refine lv_aload_n hx hb de_K_init_0 rfl (lv_at hl 0 rfl) ?_
  refine W.objInit hx hb hown (hts _ wi_29) (hts _ wi_30) (hts _ wi_31) rfl (by rw [hml]; exact hl.1) rfl de_K_init_1 (Nat.le_of_ble_eq_true rfl) (Nat.le_of_ble_eq_true rfl) ?_
  refine W.eq (g2 := F0 m 4 ls []) rfl ?_
  refine lv_aload_n hx hb de_K_init_4 rfl (lv_at hl 0 rfl) ?_
  refine dk_new 2 (fs := [.null, .int 0]) (C := kn_R) (T := kt_R) (N := 2) (ci := cx_R) hx hb hts ki_R ky_R kk_R hown (hts _ wi_32) (hts _ wi_33) (hts _ wi_2) hK hP hS hE.2.2.2 rfl (fun j hj => by match j, hj with | 0, _ => rfl | 1, _ => rfl | j + 2, h => exact absurd h (by omega)) (by first | exact Nat.le_of_ble_eq_true rfl | (simp only [Nat.zero_add]; omega) | omega) (by first | exact Nat.le_of_ble_eq_true rfl | (simp only [Nat.zero_add]; omega) | omega) de_K_init_5 (fun q_1428 H w_1429 hn_1431 hw_1430 hP hS => ?_)
  have h_1432 : w_1429 q_1428 = some (2, .inr (cx_R, [.null, .int 0])) := dk_here hw_1430
  have h_1433 : w_1429 h = some (1, .inr (cx_K, [.null, .null, .null, .null, .null, .null, .null, .int 0, .int 0, .int 0, .int 0, .int 0])) := dk_keepN hw_1430 hn_1431 hh
  have hf_1434 : dk_fr (fun t => t = 2) w w_1429 := (dk_fr.upN hn_1431).eq hw_1430
  refine lv_dup hx hb de_K_init_8 rfl ?_
  refine lv_bipush (v := nI 40) hx hb de_K_init_9 (by decide) ?_
  refine dk_callv (va_runI (As := [.int (nI 40)]) (rest := [.ref q_1428, .ref h]) ⟨hx, hb, hml, hown, hts⟩ (c_R_init l G w_1429 q_1428 2 3 40 h_1432 (by decide) (by decide) (by decide)) (cwI 1 hts (wd_g wi_36) rfl rfl rfl (hts _ wi_2) (hts _ wi_34) (hts _ wi_35) rfl (by decide +kernel) ⟨Nat.le_of_ble_eq_true rfl, Nat.le_of_ble_eq_true rfl⟩) (dk_preS hE hP hS) rfl rfl hl.1 rfl (lv_room (Nat.le_of_ble_eq_true rfl)) de_K_init_11 ⟨(by first | exact Nat.le_of_ble_eq_true rfl | (simp only [Nat.zero_add]; omega) | omega), (by first | exact Nat.le_of_ble_eq_true rfl | (simp only [Nat.zero_add]; omega) | omega)⟩) hS (fun w_1435 H locs hq_1436 hP hS => ?_)
  have hf_1438 : dk_fr (fun t => t = 2) w_1429 w_1435 := hq_1436.2
  have h_1439 : w_1435 h = some (1, .inr (cx_K, [.null, .null, .null, .null, .null, .null, .null, .int 0, .int 0, .int 0, .int 0, .int 0])) := hf_1438 _ _ _ h_1433 (by omega)
  refine dk_putF (a := h) (v := .ref q_1428) (ty := (.object "RunKeeper$Row")) (C := kn_K) (T := kt_K) (N := 12) hx hb hts ki_K ky_K kk_K kd_K hown hK hP hS h_1439 rfl 0 (by decide) (hts _ wi_103) (fun _ h9 => h9) rfl hnm rfl (by decide +kernel) rfl rfl (Nat.le_of_ble_eq_true rfl) de_K_init_14 (fun H locs w_1440 hw_1441 hP hS => ?_)
  have h_1442 : w_1440 h = some (1, .inr (cx_K, [.ref q_1428, .null, .null, .null, .null, .null, .null, .int 0, .int 0, .int 0, .int 0, .int 0])) := dk_here hw_1441
  refine lv_aload_n hx hb de_K_init_17 rfl (lv_at hl 0 rfl) ?_
  have hf_1443 : dk_fr (fun t => t = 1) w_1435 w_1440 := ((dk_fr.up (T := fun t => t = 1) h_1439 rfl).eq hw_1441)
  have he_1444 := hq_1436.1.fr hf_1443 (by omega) (by omega) (by omega)
  refine dk_new 4 (fs := [.null, .int 0]) (C := kn_R) (T := kt_R) (N := 2) (ci := cx_R) hx hb hts ki_R ky_R kk_R hown (hts _ wi_32) (hts _ wi_33) (hts _ wi_2) hK hP hS hE.2.2.2 rfl (fun j hj => by match j, hj with | 0, _ => rfl | 1, _ => rfl | j + 2, h => exact absurd h (by omega)) (by first | exact Nat.le_of_ble_eq_true rfl | (simp only [Nat.zero_add]; omega) | omega) (by first | exact Nat.le_of_ble_eq_true rfl | (simp only [Nat.zero_add]; omega) | omega) de_K_init_18 (fun q_1445 H w_1446 hn_1448 hw_1447 hP hS => ?_)
  have h_1449 : w_1446 q_1445 = some (4, .inr (cx_R, [.null, .int 0])) := dk_here hw_1447
  have h_1450 : w_1446 h = some (1, .inr (cx_K, [.ref q_1428, .null, .null, .null, .null, .null, .null, .int 0, .int 0, .int 0, .int 0, .int 0])) := dk_keepN hw_1447 hn_1448 h_1442
  have hf_1451 : dk_fr (fun t => t = 4) w_1440 w_1446 := (dk_fr.upN hn_1448).eq hw_1447
  have he_1452 := he_1444.fr hf_1451 (by omega) (by omega) (by omega)
  refine lv_dup hx hb de_K_init_21 rfl ?_
  refine lv_bipush (v := nI 16) hx hb de_K_init_22 (by decide) ?_
  refine dk_callv (va_runI (As := [.int (nI 16)]) (rest := [.ref q_1445, .ref h]) ⟨hx, hb, hml, hown, hts⟩ (c_R_init l G w_1446 q_1445 4 5 16 h_1449 (by decide) (by decide) (by decide)) (cwI 1 hts (wd_g wi_36) rfl rfl rfl (hts _ wi_2) (hts _ wi_34) (hts _ wi_35) rfl (by decide +kernel) ⟨Nat.le_of_ble_eq_true rfl, Nat.le_of_ble_eq_true rfl⟩) (dk_preS hE hP hS) rfl rfl hl.1 rfl (lv_room (Nat.le_of_ble_eq_true rfl)) de_K_init_24 ⟨(by first | exact Nat.le_of_ble_eq_true rfl | (simp only [Nat.zero_add]; omega) | omega), (by first | exact Nat.le_of_ble_eq_true rfl | (simp only [Nat.zero_add]; omega) | omega)⟩) hS (fun w_1453 H locs hq_1454 hP hS => ?_)
  have hf_1456 : dk_fr (fun t => t = 4) w_1446 w_1453 := hq_1454.2
  have h_1457 : w_1453 h = some (1, .inr (cx_K, [.ref q_1428, .null, .null, .null, .null, .null, .null, .int 0, .int 0, .int 0, .int 0, .int 0])) := hf_1456 _ _ _ h_1450 (by omega)
  have he_1458 := he_1452.fr hf_1456 (by omega) (by omega) (by omega)
  refine dk_putF (a := h) (v := .ref q_1445) (ty := (.object "RunKeeper$Row")) (C := kn_K) (T := kt_K) (N := 12) hx hb hts ki_K ky_K kk_K kd_K hown hK hP hS h_1457 rfl 1 (by decide) (hts _ wi_104) (fun _ h9 => h9) rfl hnm rfl (by decide +kernel) rfl rfl (Nat.le_of_ble_eq_true rfl) de_K_init_27 (fun H locs w_1459 hw_1460 hP hS => ?_)
  have h_1461 : w_1459 h = some (1, .inr (cx_K, [.ref q_1428, .ref q_1445, .null, .null, .null, .null, .null, .int 0, .int 0, .int 0, .int 0, .int 0])) := dk_here hw_1460
  refine lv_aload_n hx hb de_K_init_30 rfl (lv_at hl 0 rfl) ?_
  refine lv_bipush (v := nI 6) hx hb de_K_init_31 (by decide) ?_
  have hf_1462 : dk_fr (fun t => t = 1) w_1453 w_1459 := ((dk_fr.up (T := fun t => t = 1) h_1457 rfl).eq hw_1460)
  have he_1463 := he_1458.fr hf_1462 (by omega) (by omega) (by omega)
  have he_1464 := hq_1454.1.fr hf_1462 (by omega) (by omega) (by omega)
  refine dk_newq 11 4 (C := "RunKeeper$Level") (N' := 6) hx hb hown (hts _ wi_47) (va_AO.use hE.2.2.1.2.2.2.2.2.2.2.2.1) hK hP hS hE.2.2.2 rfl rfl (by omega) (by omega) (by first | exact Nat.le_of_ble_eq_true rfl | (simp only [Nat.zero_add]; omega) | omega) (by first | exact Nat.le_of_ble_eq_true rfl | (simp only [Nat.zero_add]; omega) | omega) de_K_init_33 (fun q_1465 H w_1466 hn_1468 hw_1467 hP hS => ?_)
  have h_1469 : w_1466 q_1465 = some (11, dk_ca G 4 6 (fun _ => none)) := dk_here hw_1467
  have h_1470 : w_1466 h = some (1, .inr (cx_K, [.ref q_1428, .ref q_1445, .null, .null, .null, .null, .null, .int 0, .int 0, .int 0, .int 0, .int 0])) := dk_keepN hw_1467 hn_1468 h_1461
  have hf_1471 : dk_fr (fun t => t = 11) w_1459 w_1466 := (dk_fr.upN hn_1468).eq hw_1467
  have he_1472 := he_1463.fr hf_1471 (by omega) (by omega) (by omega)
  have he_1473 := he_1464.fr hf_1471 (by omega) (by omega) (by omega)
  refine dk_putF (a := h) (v := .ref q_1465) (ty := (.array (.object "RunKeeper$Level"))) (C := kn_K) (T := kt_K) (N := 12) hx hb hts ki_K ky_K kk_K kd_K hown hK hP hS h_1470 rfl 2 (by decide) (hts _ wi_105) (fun _ h9 => h9) rfl hnm rfl (by decide +kernel) rfl rfl (Nat.le_of_ble_eq_true rfl) de_K_init_36 (fun H locs w_1474 hw_1475 hP hS => ?_)
  have h_1476 : w_1474 h = some (1, .inr (cx_K, [.ref q_1428, .ref q_1445, .ref q_1465, .null, .null, .null, .null, .int 0, .int 0, .int 0, .int 0, .int 0])) := dk_here hw_1475
  have h_1477 : w_1474 q_1465 = some (11, dk_ca G 4 6 (fun _ => none)) := dk_keep hw_1475 h_1470 h_1469 (by decide)
  refine lv_aload_n hx hb de_K_init_39 rfl (lv_at hl 0 rfl) ?_
  have hf_1478 : dk_fr (fun t => t = 1) w_1466 w_1474 := ((dk_fr.up (T := fun t => t = 1) h_1470 rfl).eq hw_1475)
  have he_1479 := he_1472.fr hf_1478 (by omega) (by omega) (by omega)
  have he_1480 := he_1473.fr hf_1478 (by omega) (by omega) (by omega)
  refine dk_new 13 (fs := [.null, .null]) (C := kn_S) (T := kt_S) (N := 2) (ci := cx_S) hx hb hts ki_S ky_S kk_S hown (hts _ wi_49) (hts _ wi_50) (hts _ wi_3) hK hP hS hE.2.2.2 rfl (fun j hj => by match j, hj with | 0, _ => rfl | 1, _ => rfl | j + 2, h => exact absurd h (by omega)) (by first | exact Nat.le_of_ble_eq_true rfl | (simp only [Nat.zero_add]; omega) | omega) (by first | exact Nat.le_of_ble_eq_true rfl | (simp only [Nat.zero_add]; omega) | omega) de_K_init_40 (fun q_1481 H w_1482 hn_1484 hw_1483 hP hS => ?_)
  have h_1485 : w_1482 q_1481 = some (13, .inr (cx_S, [.null, .null])) := dk_here hw_1483
  have h_1486 : w_1482 h = some (1, .inr (cx_K, [.ref q_1428, .ref q_1445, .ref q_1465, .null, .null, .null, .null, .int 0, .int 0, .int 0, .int 0, .int 0])) := dk_keepN hw_1483 hn_1484 h_1476
  have h_1487 : w_1482 q_1465 = some (11, dk_ca G 4 6 (fun _ => none)) := dk_keepN hw_1483 hn_1484 h_1477
  have hf_1488 : dk_fr (fun t => t = 13) w_1474 w_1482 := (dk_fr.upN hn_1484).eq hw_1483
  have he_1489 := he_1479.fr hf_1488 (by omega) (by omega) (by omega)
  have he_1490 := he_1480.fr hf_1488 (by omega) (by omega) (by omega)
  refine lv_dup hx hb de_K_init_43 rfl ?_
  refine dk_callv (va_runIN (As := []) (rest := [.ref q_1481, .ref h]) ⟨hx, hb, hml, hown, hts⟩ (c_S_init l G w_1482 q_1481 h_1485) ⟨va_cnB (host := "RunKeeper") 0 hts (wd_g wi_53) rfl rfl rfl (hN _ (dn_m 51 (by decide +kernel) rfl)) (hts _ wi_3) (by decide +kernel) ⟨Nat.le_of_ble_eq_true rfl, Nat.le_of_ble_eq_true rfl⟩, rfl, hts _ wi_52⟩ (dk_preS hE hP hS) rfl rfl hl.1 rfl (lv_room (Nat.le_of_ble_eq_true rfl)) de_K_init_44 ⟨(by first | exact Nat.le_of_ble_eq_true rfl | (simp only [Nat.zero_add]; omega) | omega), (by first | exact Nat.le_of_ble_eq_true rfl | (simp only [Nat.zero_add]; omega) | omega)⟩) hS (fun w_1491 H locs hq_1492 hP hS => ?_)
  have hf_1494 : dk_fr (fun t => t = 13 ∨ t = 14 ∨ t = 15) w_1482 w_1491 := hq_1492.2
  have h_1495 : w_1491 h = some (1, .inr (cx_K, [.ref q_1428, .ref q_1445, .ref q_1465, .null, .null, .null, .null, .int 0, .int 0, .int 0, .int 0, .int 0])) := hf_1494 _ _ _ h_1486 (by omega)
  have h_1496 : w_1491 q_1465 = some (11, dk_ca G 4 6 (fun _ => none)) := hf_1494 _ _ _ h_1487 (by omega)
  have he_1497 := he_1489.fr hf_1494 (by omega) (by omega) (by omega)
  have he_1498 := he_1490.fr hf_1494 (by omega) (by omega) (by omega)
  refine dk_putF (a := h) (v := .ref q_1481) (ty := (.object "RunKeeper$Snapshots")) (C := kn_K) (T := kt_K) (N := 12) hx hb hts ki_K ky_K kk_K kd_K hown hK hP hS h_1495 rfl 3 (by decide) (hts _ wi_106) (fun _ h9 => h9) rfl hnm rfl (by decide +kernel) rfl rfl (Nat.le_of_ble_eq_true rfl) de_K_init_47 (fun H locs w_1499 hw_1500 hP hS => ?_)
  have h_1501 : w_1499 h = some (1, .inr (cx_K, [.ref q_1428, .ref q_1445, .ref q_1465, .ref q_1481, .null, .null, .null, .int 0, .int 0, .int 0, .int 0, .int 0])) := dk_here hw_1500
  have h_1502 : w_1499 q_1465 = some (11, dk_ca G 4 6 (fun _ => none)) := dk_keep hw_1500 h_1495 h_1496 (by decide)
  refine lv_aload_n hx hb de_K_init_50 rfl (lv_at hl 0 rfl) ?_
  have hf_1503 : dk_fr (fun t => t = 1) w_1491 w_1499 := ((dk_fr.up (T := fun t => t = 1) h_1495 rfl).eq hw_1500)
  have he_1504 := he_1497.fr hf_1503 (by omega) (by omega) (by omega)
  have he_1505 := he_1498.fr hf_1503 (by omega) (by omega) (by omega)
  have he_1506 := hq_1492.1.fr hf_1503 (by omega) (by omega) (by omega)
  refine dk_new 6 (fs := [.null, .int 0]) (C := kn_R) (T := kt_R) (N := 2) (ci := cx_R) hx hb hts ki_R ky_R kk_R hown (hts _ wi_32) (hts _ wi_33) (hts _ wi_2) hK hP hS hE.2.2.2 rfl (fun j hj => by match j, hj with | 0, _ => rfl | 1, _ => rfl | j + 2, h => exact absurd h (by omega)) (by first | exact Nat.le_of_ble_eq_true rfl | (simp only [Nat.zero_add]; omega) | omega) (by first | exact Nat.le_of_ble_eq_true rfl | (simp only [Nat.zero_add]; omega) | omega) de_K_init_51 (fun q_1507 H w_1508 hn_1510 hw_1509 hP hS => ?_)
  have h_1511 : w_1508 q_1507 = some (6, .inr (cx_R, [.null, .int 0])) := dk_here hw_1509
  have h_1512 : w_1508 h = some (1, .inr (cx_K, [.ref q_1428, .ref q_1445, .ref q_1465, .ref q_1481, .null, .null, .null, .int 0, .int 0, .int 0, .int 0, .int 0])) := dk_keepN hw_1509 hn_1510 h_1501
  have h_1513 : w_1508 q_1465 = some (11, dk_ca G 4 6 (fun _ => none)) := dk_keepN hw_1509 hn_1510 h_1502
  have hf_1514 : dk_fr (fun t => t = 6) w_1499 w_1508 := (dk_fr.upN hn_1510).eq hw_1509
  have he_1515 := he_1504.fr hf_1514 (by omega) (by omega) (by omega)
  have he_1516 := he_1505.fr hf_1514 (by omega) (by omega) (by omega)
  have he_1517 := he_1506.fr hf_1514 (by omega) (by omega) (by omega)
  refine lv_dup hx hb de_K_init_54 rfl ?_
  refine lv_sipush (v := nI 600) hx hb de_K_init_55 (by decide) ?_
  refine dk_callv (va_runI (As := [.int (nI 600)]) (rest := [.ref q_1507, .ref h]) ⟨hx, hb, hml, hown, hts⟩ (c_R_init l G w_1508 q_1507 6 7 600 h_1511 (by decide) (by decide) (by decide)) (cwI 1 hts (wd_g wi_36) rfl rfl rfl (hts _ wi_2) (hts _ wi_34) (hts _ wi_35) rfl (by decide +kernel) ⟨Nat.le_of_ble_eq_true rfl, Nat.le_of_ble_eq_true rfl⟩) (dk_preS hE hP hS) rfl rfl hl.1 rfl (lv_room (Nat.le_of_ble_eq_true rfl)) de_K_init_58 ⟨(by first | exact Nat.le_of_ble_eq_true rfl | (simp only [Nat.zero_add]; omega) | omega), (by first | exact Nat.le_of_ble_eq_true rfl | (simp only [Nat.zero_add]; omega) | omega)⟩) hS (fun w_1518 H locs hq_1519 hP hS => ?_)
  have hf_1521 : dk_fr (fun t => t = 6) w_1508 w_1518 := hq_1519.2
  have h_1522 : w_1518 h = some (1, .inr (cx_K, [.ref q_1428, .ref q_1445, .ref q_1465, .ref q_1481, .null, .null, .null, .int 0, .int 0, .int 0, .int 0, .int 0])) := hf_1521 _ _ _ h_1512 (by omega)
  have h_1523 : w_1518 q_1465 = some (11, dk_ca G 4 6 (fun _ => none)) := hf_1521 _ _ _ h_1513 (by omega)
  have he_1524 := he_1515.fr hf_1521 (by omega) (by omega) (by omega)
  have he_1525 := he_1516.fr hf_1521 (by omega) (by omega) (by omega)
  have he_1526 := he_1517.fr hf_1521 (by omega) (by omega) (by omega)
  refine dk_putF (a := h) (v := .ref q_1507) (ty := (.object "RunKeeper$Row")) (C := kn_K) (T := kt_K) (N := 12) hx hb hts ki_K ky_K kk_K kd_K hown hK hP hS h_1522 rfl 4 (by decide) (hts _ wi_107) (fun _ h9 => h9) rfl hnm rfl (by decide +kernel) rfl rfl (Nat.le_of_ble_eq_true rfl) de_K_init_61 (fun H locs w_1527 hw_1528 hP hS => ?_)
  have h_1529 : w_1527 h = some (1, .inr (cx_K, [.ref q_1428, .ref q_1445, .ref q_1465, .ref q_1481, .ref q_1507, .null, .null, .int 0, .int 0, .int 0, .int 0, .int 0])) := dk_here hw_1528
  have h_1530 : w_1527 q_1465 = some (11, dk_ca G 4 6 (fun _ => none)) := dk_keep hw_1528 h_1522 h_1523 (by decide)
  refine lv_aload_n hx hb de_K_init_64 rfl (lv_at hl 0 rfl) ?_
  have hf_1531 : dk_fr (fun t => t = 1) w_1518 w_1527 := ((dk_fr.up (T := fun t => t = 1) h_1522 rfl).eq hw_1528)
  have he_1532 := he_1524.fr hf_1531 (by omega) (by omega) (by omega)
  have he_1533 := he_1525.fr hf_1531 (by omega) (by omega) (by omega)
  have he_1534 := he_1526.fr hf_1531 (by omega) (by omega) (by omega)
  have he_1535 := hq_1519.1.fr hf_1531 (by omega) (by omega) (by omega)
  refine dk_new 8 (fs := [.null, .int 0]) (C := kn_R) (T := kt_R) (N := 2) (ci := cx_R) hx hb hts ki_R ky_R kk_R hown (hts _ wi_32) (hts _ wi_33) (hts _ wi_2) hK hP hS hE.2.2.2 rfl (fun j hj => by match j, hj with | 0, _ => rfl | 1, _ => rfl | j + 2, h => exact absurd h (by omega)) (by first | exact Nat.le_of_ble_eq_true rfl | (simp only [Nat.zero_add]; omega) | omega) (by first | exact Nat.le_of_ble_eq_true rfl | (simp only [Nat.zero_add]; omega) | omega) de_K_init_65 (fun q_1536 H w_1537 hn_1539 hw_1538 hP hS => ?_)
  have h_1540 : w_1537 q_1536 = some (8, .inr (cx_R, [.null, .int 0])) := dk_here hw_1538
  have h_1541 : w_1537 h = some (1, .inr (cx_K, [.ref q_1428, .ref q_1445, .ref q_1465, .ref q_1481, .ref q_1507, .null, .null, .int 0, .int 0, .int 0, .int 0, .int 0])) := dk_keepN hw_1538 hn_1539 h_1529
  have h_1542 : w_1537 q_1465 = some (11, dk_ca G 4 6 (fun _ => none)) := dk_keepN hw_1538 hn_1539 h_1530
  have hf_1543 : dk_fr (fun t => t = 8) w_1527 w_1537 := (dk_fr.upN hn_1539).eq hw_1538
  have he_1544 := he_1532.fr hf_1543 (by omega) (by omega) (by omega)
  have he_1545 := he_1533.fr hf_1543 (by omega) (by omega) (by omega)
  have he_1546 := he_1534.fr hf_1543 (by omega) (by omega) (by omega)
  have he_1547 := he_1535.fr hf_1543 (by omega) (by omega) (by omega)
  refine lv_dup hx hb de_K_init_68 rfl ?_
  refine lv_sipush (v := nI 600) hx hb de_K_init_69 (by decide) ?_
  refine dk_callv (va_runI (As := [.int (nI 600)]) (rest := [.ref q_1536, .ref h]) ⟨hx, hb, hml, hown, hts⟩ (c_R_init l G w_1537 q_1536 8 9 600 h_1540 (by decide) (by decide) (by decide)) (cwI 1 hts (wd_g wi_36) rfl rfl rfl (hts _ wi_2) (hts _ wi_34) (hts _ wi_35) rfl (by decide +kernel) ⟨Nat.le_of_ble_eq_true rfl, Nat.le_of_ble_eq_true rfl⟩) (dk_preS hE hP hS) rfl rfl hl.1 rfl (lv_room (Nat.le_of_ble_eq_true rfl)) de_K_init_72 ⟨(by first | exact Nat.le_of_ble_eq_true rfl | (simp only [Nat.zero_add]; omega) | omega), (by first | exact Nat.le_of_ble_eq_true rfl | (simp only [Nat.zero_add]; omega) | omega)⟩) hS (fun w_1548 H locs hq_1549 hP hS => ?_)
  have hf_1551 : dk_fr (fun t => t = 8) w_1537 w_1548 := hq_1549.2
  have h_1552 : w_1548 h = some (1, .inr (cx_K, [.ref q_1428, .ref q_1445, .ref q_1465, .ref q_1481, .ref q_1507, .null, .null, .int 0, .int 0, .int 0, .int 0, .int 0])) := hf_1551 _ _ _ h_1541 (by omega)
  have h_1553 : w_1548 q_1465 = some (11, dk_ca G 4 6 (fun _ => none)) := hf_1551 _ _ _ h_1542 (by omega)
  have he_1554 := he_1544.fr hf_1551 (by omega) (by omega) (by omega)
  have he_1555 := he_1545.fr hf_1551 (by omega) (by omega) (by omega)
  have he_1556 := he_1546.fr hf_1551 (by omega) (by omega) (by omega)
  have he_1557 := he_1547.fr hf_1551 (by omega) (by omega) (by omega)
  refine dk_putF (a := h) (v := .ref q_1536) (ty := (.object "RunKeeper$Row")) (C := kn_K) (T := kt_K) (N := 12) hx hb hts ki_K ky_K kk_K kd_K hown hK hP hS h_1552 rfl 5 (by decide) (hts _ wi_108) (fun _ h9 => h9) rfl hnm rfl (by decide +kernel) rfl rfl (Nat.le_of_ble_eq_true rfl) de_K_init_75 (fun H locs w_1558 hw_1559 hP hS => ?_)
  have h_1560 : w_1558 h = some (1, .inr (cx_K, [.ref q_1428, .ref q_1445, .ref q_1465, .ref q_1481, .ref q_1507, .ref q_1536, .null, .int 0, .int 0, .int 0, .int 0, .int 0])) := dk_here hw_1559
  have h_1561 : w_1558 q_1465 = some (11, dk_ca G 4 6 (fun _ => none)) := dk_keep hw_1559 h_1552 h_1553 (by decide)
  refine lv_aload_n hx hb de_K_init_78 rfl (lv_at hl 0 rfl) ?_
  refine lv_sipush (v := nI 1024) hx hb de_K_init_79 (by decide) ?_
  have hf_1562 : dk_fr (fun t => t = 1) w_1548 w_1558 := ((dk_fr.up (T := fun t => t = 1) h_1552 rfl).eq hw_1559)
  have he_1563 := he_1554.fr hf_1562 (by omega) (by omega) (by omega)
  have he_1564 := he_1555.fr hf_1562 (by omega) (by omega) (by omega)
  have he_1565 := he_1556.fr hf_1562 (by omega) (by omega) (by omega)
  have he_1566 := he_1557.fr hf_1562 (by omega) (by omega) (by omega)
  have he_1567 := hq_1549.1.fr hf_1562 (by omega) (by omega) (by omega)
  refine dk_newq 10 3 (C := "RunKeeper$Entry") (N' := 1024) hx hb hown (hts _ wi_64) (va_AO.use hE.2.2.1.2.2.2.2.2.2.2.1) hK hP hS hE.2.2.2 rfl rfl (by omega) (by omega) (by first | exact Nat.le_of_ble_eq_true rfl | (simp only [Nat.zero_add]; omega) | omega) (by first | exact Nat.le_of_ble_eq_true rfl | (simp only [Nat.zero_add]; omega) | omega) de_K_init_82 (fun q_1568 H w_1569 hn_1571 hw_1570 hP hS => ?_)
  have h_1572 : w_1569 q_1568 = some (10, dk_ca G 3 1024 (fun _ => none)) := dk_here hw_1570
  have h_1573 : w_1569 h = some (1, .inr (cx_K, [.ref q_1428, .ref q_1445, .ref q_1465, .ref q_1481, .ref q_1507, .ref q_1536, .null, .int 0, .int 0, .int 0, .int 0, .int 0])) := dk_keepN hw_1570 hn_1571 h_1560
  have h_1574 : w_1569 q_1465 = some (11, dk_ca G 4 6 (fun _ => none)) := dk_keepN hw_1570 hn_1571 h_1561
  have hf_1575 : dk_fr (fun t => t = 10) w_1558 w_1569 := (dk_fr.upN hn_1571).eq hw_1570
  have he_1576 := he_1563.fr hf_1575 (by omega) (by omega) (by omega)
  have he_1577 := he_1564.fr hf_1575 (by omega) (by omega) (by omega)
  have he_1578 := he_1565.fr hf_1575 (by omega) (by omega) (by omega)
  have he_1579 := he_1566.fr hf_1575 (by omega) (by omega) (by omega)
  have he_1580 := he_1567.fr hf_1575 (by omega) (by omega) (by omega)
  refine dk_putF (a := h) (v := .ref q_1568) (ty := (.array (.object "RunKeeper$Entry"))) (C := kn_K) (T := kt_K) (N := 12) hx hb hts ki_K ky_K kk_K kd_K hown hK hP hS h_1573 rfl 6 (by decide) (hts _ wi_109) (fun _ h9 => h9) rfl hnm rfl (by decide +kernel) rfl rfl (Nat.le_of_ble_eq_true rfl) de_K_init_85 (fun H locs w_1581 hw_1582 hP hS => ?_)
  have h_1583 : w_1581 h = some (1, .inr (cx_K, [.ref q_1428, .ref q_1445, .ref q_1465, .ref q_1481, .ref q_1507, .ref q_1536, .ref q_1568, .int 0, .int 0, .int 0, .int 0, .int 0])) := dk_here hw_1582
  have h_1584 : w_1581 q_1465 = some (11, dk_ca G 4 6 (fun _ => none)) := dk_keep hw_1582 h_1573 h_1574 (by decide)
  have h_1585 : w_1581 q_1568 = some (10, dk_ca G 3 1024 (fun _ => none)) := dk_keep hw_1582 h_1573 h_1572 (by decide)
  refine lv_aload_n hx hb de_K_init_88 rfl (lv_at hl 0 rfl) ?_
  refine lv_iconst (v := nI 0) hx hb de_K_init_89 (by decide) ?_
  refine dk_put (a := h) (v := .int (nI 0)) (ty := .int) (C := kn_K) (T := kt_K) (N := 12) hx hb hts ki_K ky_K kk_K kd_K hown hK hP hS h_1583 rfl 7 (by decide) (hts _ wi_110) (fun _ h9 => h9) rfl (by decide +kernel) rfl rfl (Nat.le_of_ble_eq_true rfl) de_K_init_90 (fun H locs w_1586 hw_1587 hP hS => ?_)
  have h_1588 : w_1586 h = some (1, .inr (cx_K, [.ref q_1428, .ref q_1445, .ref q_1465, .ref q_1481, .ref q_1507, .ref q_1536, .ref q_1568, .int (nI 0), .int 0, .int 0, .int 0, .int 0])) := dk_here hw_1587
  have h_1589 : w_1586 q_1465 = some (11, dk_ca G 4 6 (fun _ => none)) := dk_keep hw_1587 h_1583 h_1584 (by decide)
  have h_1590 : w_1586 q_1568 = some (10, dk_ca G 3 1024 (fun _ => none)) := dk_keep hw_1587 h_1583 h_1585 (by decide)
  refine lv_aload_n hx hb de_K_init_93 rfl (lv_at hl 0 rfl) ?_
  refine lv_iconst (v := nI 0) hx hb de_K_init_94 (by decide) ?_
  refine dk_put (a := h) (v := .int (nI 0)) (ty := .boolean) (C := kn_K) (T := kt_K) (N := 12) hx hb hts ki_K ky_K kk_K kd_K hown hK hP hS h_1588 rfl 8 (by decide) (hts _ wi_111) (fun _ h9 => h9) rfl (by decide +kernel) (by decide) (by decide) (Nat.le_of_ble_eq_true rfl) de_K_init_95 (fun H locs w_1591 hw_1592 hP hS => ?_)
  have h_1593 : w_1591 h = some (1, .inr (cx_K, [.ref q_1428, .ref q_1445, .ref q_1465, .ref q_1481, .ref q_1507, .ref q_1536, .ref q_1568, .int (nI 0), .int (nI 0), .int 0, .int 0, .int 0])) := dk_here hw_1592
  have h_1594 : w_1591 q_1465 = some (11, dk_ca G 4 6 (fun _ => none)) := dk_keep hw_1592 h_1588 h_1589 (by decide)
  have h_1595 : w_1591 q_1568 = some (10, dk_ca G 3 1024 (fun _ => none)) := dk_keep hw_1592 h_1588 h_1590 (by decide)
  refine lv_aload_n hx hb de_K_init_98 rfl (lv_at hl 0 rfl) ?_
  refine lv_iconst (v := nI 0) hx hb de_K_init_99 (by decide) ?_
  refine dk_put (a := h) (v := .int (nI 0)) (ty := .int) (C := kn_K) (T := kt_K) (N := 12) hx hb hts ki_K ky_K kk_K kd_K hown hK hP hS h_1593 rfl 9 (by decide) (hts _ wi_112) (fun _ h9 => h9) rfl (by decide +kernel) rfl rfl (Nat.le_of_ble_eq_true rfl) de_K_init_100 (fun H locs w_1596 hw_1597 hP hS => ?_)
  have h_1598 : w_1596 h = some (1, .inr (cx_K, [.ref q_1428, .ref q_1445, .ref q_1465, .ref q_1481, .ref q_1507, .ref q_1536, .ref q_1568, .int (nI 0), .int (nI 0), .int (nI 0), .int 0, .int 0])) := dk_here hw_1597
  have h_1599 : w_1596 q_1465 = some (11, dk_ca G 4 6 (fun _ => none)) := dk_keep hw_1597 h_1593 h_1594 (by decide)
  have h_1600 : w_1596 q_1568 = some (10, dk_ca G 3 1024 (fun _ => none)) := dk_keep hw_1597 h_1593 h_1595 (by decide)
  refine lv_aload_n hx hb de_K_init_103 rfl (lv_at hl 0 rfl) ?_
  refine lv_iconst (v := nI 0) hx hb de_K_init_104 (by decide) ?_
  refine dk_put (a := h) (v := .int (nI 0)) (ty := .int) (C := kn_K) (T := kt_K) (N := 12) hx hb hts ki_K ky_K kk_K kd_K hown hK hP hS h_1598 rfl 10 (by decide) (hts _ wi_113) (fun _ h9 => h9) rfl (by decide +kernel) rfl rfl (Nat.le_of_ble_eq_true rfl) de_K_init_105 (fun H locs w_1601 hw_1602 hP hS => ?_)
  have h_1603 : w_1601 h = some (1, .inr (cx_K, [.ref q_1428, .ref q_1445, .ref q_1465, .ref q_1481, .ref q_1507, .ref q_1536, .ref q_1568, .int (nI 0), .int (nI 0), .int (nI 0), .int (nI 0), .int 0])) := dk_here hw_1602
  have h_1604 : w_1601 q_1465 = some (11, dk_ca G 4 6 (fun _ => none)) := dk_keep hw_1602 h_1598 h_1599 (by decide)
  have h_1605 : w_1601 q_1568 = some (10, dk_ca G 3 1024 (fun _ => none)) := dk_keep hw_1602 h_1598 h_1600 (by decide)
  refine lv_aload_n hx hb de_K_init_108 rfl (lv_at hl 0 rfl) ?_
  refine lv_iconst (v := nI 0) hx hb de_K_init_109 (by decide) ?_
  refine dk_put (a := h) (v := .int (nI 0)) (ty := .int) (C := kn_K) (T := kt_K) (N := 12) hx hb hts ki_K ky_K kk_K kd_K hown hK hP hS h_1603 rfl 11 (by decide) (hts _ wi_114) (fun _ h9 => h9) rfl (by decide +kernel) rfl rfl (Nat.le_of_ble_eq_true rfl) de_K_init_110 (fun H locs w_1606 hw_1607 hP hS => ?_)
  have h_1608 : w_1606 h = some (1, .inr (cx_K, [.ref q_1428, .ref q_1445, .ref q_1465, .ref q_1481, .ref q_1507, .ref q_1536, .ref q_1568, .int (nI 0), .int (nI 0), .int (nI 0), .int (nI 0), .int (nI 0)])) := dk_here hw_1607
  have h_1609 : w_1606 q_1465 = some (11, dk_ca G 4 6 (fun _ => none)) := dk_keep hw_1607 h_1603 h_1604 (by decide)
  have h_1610 : w_1606 q_1568 = some (10, dk_ca G 3 1024 (fun _ => none)) := dk_keep hw_1607 h_1603 h_1605 (by decide)
  refine lv_iconst (v := nI 0) hx hb de_K_init_113 (by decide) ?_
  refine lv_istore_n (lv' := [(1, .int (nI 0)), (0, .ref h)]) hx hb de_K_init_114 rfl hl (by decide) rfl (fun ls hl => ?_)
  have hf_1611 : dk_fr (fun t => t = 1) w_1569 w_1606 := (((((((dk_fr.up (T := fun t => t = 1) h_1573 rfl).eq hw_1582)).tr ((dk_fr.up (T := fun t => t = 1) h_1583 rfl).eq hw_1587)).tr ((dk_fr.up (T := fun t => t = 1) h_1588 rfl).eq hw_1592)).tr ((dk_fr.up (T := fun t => t = 1) h_1593 rfl).eq hw_1597)).tr ((dk_fr.up (T := fun t => t = 1) h_1598 rfl).eq hw_1602)).tr ((dk_fr.up (T := fun t => t = 1) h_1603 rfl).eq hw_1607)
  have he_1612 := he_1576.fr hf_1611 (by omega) (by omega) (by omega)
  have he_1613 := he_1577.fr hf_1611 (by omega) (by omega) (by omega)
  have he_1614 := he_1578.fr hf_1611 (by omega) (by omega) (by omega)
  have he_1615 := he_1579.fr hf_1611 (by omega) (by omega) (by omega)
  have he_1616 := he_1580.fr hf_1611 (by omega) (by omega) (by omega)
  have hi0 : in_at G w_1606 h (q_1428, q_1445, q_1465, q_1481, q_1507, q_1536, q_1568, fun _ => none, fun _ => 0) 0 := ⟨by show w_1606 h = some (1, .inr (cx_K, [.ref q_1428, .ref q_1445, .ref q_1465, .ref q_1481, .ref q_1507, .ref q_1536, .ref q_1568, .int (nI 0), .int (bo_i false), .int (nI 0), .int (nI 0), .int (nI 0)])); rw [bo_nf]; exact h_1608, he_1612, he_1613, h_1609, fun j hj => absurd hj (by omega), he_1614, he_1615, he_1616, ⟨fun _ => none, h_1610, fun i hi => rfl⟩⟩
  have hg0 : dk_fr kp_T w w_1606 := (((((((((((((((((((hf_1434.mono (fun t z => by unfold kp_T; omega))).tr (hf_1438.mono (fun t z => by unfold kp_T; omega))).tr (hf_1443.mono (fun t z => by unfold kp_T; omega))).tr (hf_1451.mono (fun t z => by unfold kp_T; omega))).tr (hf_1456.mono (fun t z => by unfold kp_T; omega))).tr (hf_1462.mono (fun t z => by unfold kp_T; omega))).tr (hf_1471.mono (fun t z => by unfold kp_T; omega))).tr (hf_1478.mono (fun t z => by unfold kp_T; omega))).tr (hf_1488.mono (fun t z => by unfold kp_T; omega))).tr (hf_1494.mono (fun t z => by unfold kp_T; omega))).tr (hf_1503.mono (fun t z => by unfold kp_T; omega))).tr (hf_1514.mono (fun t z => by unfold kp_T; omega))).tr (hf_1521.mono (fun t z => by unfold kp_T; omega))).tr (hf_1531.mono (fun t z => by unfold kp_T; omega))).tr (hf_1543.mono (fun t z => by unfold kp_T; omega))).tr (hf_1551.mono (fun t z => by unfold kp_T; omega))).tr (hf_1562.mono (fun t z => by unfold kp_T; omega))).tr (hf_1575.mono (fun t z => by unfold kp_T; omega))).tr (hf_1611.mono (fun t z => by unfold kp_T; omega))
  have lp : ∀ (zk : Nat) (i : Nat) (D : kp_D), 6 - i < zk → (i ≤ 6) → ∀ (H : Heap) (locs : List Loc) (v : dk_H), (in_at G v h D i) → (dk_fr kp_T w v) → dk_P G v H → dk_S G s.heap H locs → ∀ (ls : Array Slot), lv_has ls 2 [(0, .ref h), (1, .int (nI i))] → W p l e rm_K_init s m args below meth c H locs (13 + 2 * i) (2308 + 5 * i) Q (F0 m 115 ls []) := by
    intro zk
    induction zk with
    | zero =>
      intro i D hk
      exact absurd hk (by omega)
    | succ zk ih =>
      intro i D hk hi
      intro H locs v hin hg hP hS
      intro ls hl
      refine lv_iload_n hx hb de_K_init_115 rfl (lv_at hl 1 rfl) ?_
      refine lv_bipush (v := nI 6) hx hb de_K_init_116 (by decide) ?_
      refine nx_icmp_ge (a := i) (b := 6) (tgt := 140) hx hb (by omega) (by omega) de_K_init_118 (by decide) (fun c_1617 => ?_) (fun c_1617 => ?_)
      · have e9 : i = 6 := by omega
        subst e9
        exact dk_vret hQ hx hb hr hlocks hP hS (by omega) (by omega) (⟨D, in_done hin, hg⟩) de_K_init_140
      · refine lv_aload_n hx hb de_K_init_121 rfl (lv_at hl 0 rfl) ?_
        refine dk_get (a := h) (v := .ref D.lv) (C := kn_K) (T := kt_K) (N := 12) hx hb hts ki_K hown hK hP hin.1 rfl 2 (by decide) (hts _ wi_105) (fun _ h9 => h9) rfl de_K_init_122 ?_
        refine lv_iload_n hx hb de_K_init_125 rfl (lv_at hl 1 rfl) ?_
        refine dk_new (20 + 3 * i) (fs := [.null, .int 0]) (C := kn_V) (T := kt_V) (N := 2) (ci := cx_V) hx hb hts ki_V ky_V kk_V hown (hts _ wi_47) (hts _ wi_65) (hts _ wi_4) hK hP hS hE.2.2.2 rfl (fun j hj => by match j, hj with | 0, _ => rfl | 1, _ => rfl | j + 2, h => exact absurd h (by omega)) (by first | exact Nat.le_of_ble_eq_true rfl | (simp only [Nat.zero_add]; omega) | omega) (by first | exact Nat.le_of_ble_eq_true rfl | (simp only [Nat.zero_add]; omega) | omega) de_K_init_126 (fun q_1618 H w_1619 hn_1621 hw_1620 hP hS => ?_)
        have h_1622 : w_1619 q_1618 = some ((20 + 3 * i), .inr (cx_V, [.null, .int 0])) := dk_here hw_1620
        have h_1623 : w_1619 h = some (1, .inr (cx_K, [.ref D.t, .ref D.a, .ref D.lv, .ref D.sn, .ref D.g, .ref D.k, .ref D.ne, .int (nI 0), .int (bo_i false), .int (nI 0), .int (nI 0), .int (nI 0)])) := dk_keepN hw_1620 hn_1621 hin.1
        have h_1624 : w_1619 D.lv = some (11, dk_ca G 4 6 D.lf) := dk_keepN hw_1620 hn_1621 hin.2.2.2.1
        have hf1 : dk_fr (le_T (20 + 3 * i)) v w_1619 := (dk_fr.upN hn_1621).eq hw_1620
        refine lv_dup hx hb de_K_init_129 rfl ?_
        refine dk_callv (va_runIN (As := []) (rest := [.ref q_1618, .int (nI i), .ref D.lv]) ⟨hx, hb, hml, hown, hts⟩ (c_V_init l G w_1619 q_1618 (20 + 3 * i) (by omega) h_1622) ⟨va_cnB (host := "RunKeeper") 0 hts (wd_g wi_68) rfl rfl rfl (hN _ (dn_m 66 (by decide +kernel) rfl)) (hts _ wi_4) (by decide +kernel) ⟨Nat.le_of_ble_eq_true rfl, Nat.le_of_ble_eq_true rfl⟩, rfl, hts _ wi_67⟩ (dk_preS hE hP hS) rfl rfl hl.1 rfl (lv_room (Nat.le_of_ble_eq_true rfl)) de_K_init_130 ⟨(by first | exact Nat.le_of_ble_eq_true rfl | (simp only [Nat.zero_add]; omega) | omega), (by first | exact Nat.le_of_ble_eq_true rfl | (simp only [Nat.zero_add]; omega) | omega)⟩) hS (fun w_1625 H locs hq_1626 hP hS => ?_)
        have hf2 : dk_fr (fun t => t = 20 + 3 * i ∨ t = 20 + 3 * i + 1 ∨ t = 20 + 3 * i + 2) w_1619 w_1625 := hq_1626.2
        have h_1628 : w_1625 h = some (1, .inr (cx_K, [.ref D.t, .ref D.a, .ref D.lv, .ref D.sn, .ref D.g, .ref D.k, .ref D.ne, .int (nI 0), .int (bo_i false), .int (nI 0), .int (nI 0), .int (nI 0)])) := hf2 _ _ _ h_1623 (by omega)
        have h_1629 : w_1625 D.lv = some (11, dk_ca G 4 6 D.lf) := hf2 _ _ _ h_1624 (by omega)
        obtain ⟨al9, _, hqc, -⟩ := id hq_1626.1
        refine dk_aast (a := D.lv) (v := q_1618) (r := (kn_V, kt_V, 2)) hx hb hK hP hS h_1629 rfl hqc rfl i rfl (by omega) (by omega) de_K_init_133 (fun H locs w_1630 hw_1631 hP hS => ?_)
        have h_1632 : w_1630 D.lv = some (11, dk_ca G 4 6 (va_up D.lf i (some q_1618))) := dk_here hw_1631
        have h_1633 : w_1630 h = some (1, .inr (cx_K, [.ref D.t, .ref D.a, .ref D.lv, .ref D.sn, .ref D.g, .ref D.k, .ref D.ne, .int (nI 0), .int (bo_i false), .int (nI 0), .int (nI 0), .int (nI 0)])) := dk_keep hw_1631 h_1629 h_1628 (by decide)
        have h_1634 : w_1630 q_1618 = some (20 + 3 * i, .inr (cx_V, [.ref al9, .int (nI (le_ct []))])) := dk_keep hw_1631 h_1629 hqc (by omega)
        have hf3 : dk_fr (fun t => t = 11) w_1625 w_1630 := (dk_fr.up (T := fun t => t = 11) h_1629 rfl).eq hw_1631
        have hin2 := in_step hin (by omega) (hf1.tr hf2) hq_1626.1 hf3 h_1632
        refine lv_iinc (v := nI (i + 1)) (lv' := [(1, .int (nI (i + 1))), (0, .ref h)]) hx hb de_K_init_134 hl (k := 1) rfl (nx_inc i) (by decide) rfl (fun ls hl => ?_)
        refine lv_goto (tgt := 115) hx hb de_K_init_137 (by decide) ?_
        exact W.widen (by omega) (by omega) (ih (i + 1) (D.t, D.a, D.lv, D.sn, D.g, D.k, D.ne, va_up D.lf i (some q_1618), va_up D.le i q_1618) (by omega) (by omega) _ _ _ hin2 ((hg.tr (kp_v (by omega) (hf1.tr hf2))).tr (hf3.mono (fun t z => by unfold kp_T; omega))) hP hS _ (lv_sub hl [1, 0] rfl))
  exact W.widen (by omega) (by omega) (lp 7 0 (q_1428, q_1445, q_1465, q_1481, q_1507, q_1536, q_1568, fun _ => none, fun _ => 0) (by omega) (Nat.zero_le _) _ _ _ hi0 hg0 hP hS _ (lv_sub hl [1, 0] rfl))
