/-! RunKeeperLaw: the way to the loop (printed by gen/c_law5.py) -/
set_option maxHeartbeats 4000000 in
set_option maxRecDepth 100000 in
theorem lw_begin {p : Program} {l : Launch} {e : Env} {s : State} {m : MethodId} {args : Array Value} {below : List Frame} {meth : Method} {c : Code} {Q : State → Prop} {G : dk_G} {H : Heap} {locs : List Loc} {ls : Array Slot} {b : Nat} {w : dk_H} (hx : p.tables.exec = Jvm.exec) (hb : c.code = code) (hml : c.maxLocals = 8) (hown : s.vm.findClass "RunKeeperLaw" = some m.cls) (hts : ∀ w ∈ wd_all, w.before args s = true) (hE : dk_E G s) (hP : dk_P G w H) (hS : dk_S G s.heap H locs) (hl : lv_has ls 8 [(0, .ref b)]) (KK : ∀ (h a o : Nat) (D : kp_D) (DM : md_D) (v1 : dk_H) (H1 : Heap) (locs1 : List Loc) (ls1 : Array Slot), lw_S G v1 h a o D DM 0 0 → dk_P G v1 H1 → dk_S G s.heap H1 locs1 → lv_has ls1 8 [(0, .ref b), (1, .ref h), (2, .ref a), (3, .ref o), (4, .int (nI (5 * 0)))] → W p l e room_1 s m args below meth c H1 locs1 (100 + 24 * 0 + 5 * 0) (30000 + 1650 * 0 + 1579 * 0) Q (F0 m 23 ls1 [])) : W p l e room_1 s m args below meth c H locs 0 0 Q (F0 m 0 ls []) := by
  have hK := hE.1
  have hN := hE.2.1
  refine dk_new 1 (fs := [.null, .null, .null, .null, .null, .null, .null, .int 0, .int 0, .int 0, .int 0, .int 0]) (C := kn_K) (T := kt_K) (N := 12) (ci := cx_K) hx hb hts ki_K ky_K kk_K hown (hts _ wi_24) (hts _ wi_25) (hts _ wi_1) hK hP hS hE.2.2.2 rfl (fun j hj => by match j, hj with | 0, _ => rfl | 1, _ => rfl | 2, _ => rfl | 3, _ => rfl | 4, _ => rfl | 5, _ => rfl | 6, _ => rfl | 7, _ => rfl | 8, _ => rfl | 9, _ => rfl | 10, _ => rfl | 11, _ => rfl | j + 12, h => exact absurd h (by omega)) (by show _ ≤ 601024; omega) (by show _ ≤ 7293034; omega) de_L_law_0 (fun q_8751 H w_8752 hn_8754 hw_8753 hP hS => ?_)
  have h_8755 : w_8752 q_8751 = some (1, .inr (cx_K, [.null, .null, .null, .null, .null, .null, .null, .int 0, .int 0, .int 0, .int 0, .int 0])) := dk_here hw_8753
  refine lv_dup hx hb de_L_law_3 rfl ?_
  refine dk_callv (va_runI (As := []) (rest := [.ref q_8751]) ⟨hx, hb, hml, hown, hts⟩ (c_K_init l G w_8752 q_8751 h_8755) (cwI 0 hts (wd_g wi_28) rfl rfl rfl (hts _ wi_1) (hts _ wi_26) (hts _ wi_27) rfl (by decide +kernel) ⟨Nat.le_of_ble_eq_true rfl, Nat.le_of_ble_eq_true rfl⟩) (dk_preS hE hP hS) rfl rfl hl.1 rfl (lv_room (Nat.le_of_ble_eq_true rfl)) de_L_law_4 ⟨(by show _ ≤ 601024; omega), (by show _ ≤ 7293034; omega)⟩) hS (fun w_8756 H locs hq_8757 hP hS => ?_)
  obtain ⟨D, hk1, -⟩ := hq_8757
  refine lv_astore_n (lv' := [(1, .ref q_8751), (0, .ref b)]) hx hb de_L_law_7 rfl hl (by decide) rfl (fun ls hl => ?_)
  refine dk_new 100 (fs := [.int 0, .int 0, .int 0, .int 0, .int 0, .int 0, .int 0, .int 0, .null, .null, .null, .null, .null, .null, .null, .null, .null, .null, .null, .null, .null, .null]) (C := kn_M) (T := kt_M) (N := 22) (ci := cx_M) hx hb hts ki_M ky_M kk_M hown (hts _ wi_708) (hts _ wi_709) (hts _ wi_8) hK hP hS hE.2.2.2 rfl (fun j hj => by match j, hj with | 0, _ => rfl | 1, _ => rfl | 2, _ => rfl | 3, _ => rfl | 4, _ => rfl | 5, _ => rfl | 6, _ => rfl | 7, _ => rfl | 8, _ => rfl | 9, _ => rfl | 10, _ => rfl | 11, _ => rfl | 12, _ => rfl | 13, _ => rfl | 14, _ => rfl | 15, _ => rfl | 16, _ => rfl | 17, _ => rfl | 18, _ => rfl | 19, _ => rfl | 20, _ => rfl | 21, _ => rfl | j + 22, h => exact absurd h (by omega)) (by show _ ≤ 601024; omega) (by show _ ≤ 7293034; omega) de_L_law_8 (fun q_8759 H w_8760 hn_8762 hw_8761 hP hS => ?_)
  have h_8763 : w_8760 q_8759 = some (100, .inr (cx_M, [.int 0, .int 0, .int 0, .int 0, .int 0, .int 0, .int 0, .int 0, .null, .null, .null, .null, .null, .null, .null, .null, .null, .null, .null, .null, .null, .null])) := dk_here hw_8761
  have hf1 : dk_fr (fun t => t = 100) w_8756 w_8760 := (dk_fr.upN hn_8762).eq hw_8761
  have hk2 := hk1.fr hf1 (fun t ht => by omega)
  refine lv_dup hx hb de_L_law_11 rfl ?_
  refine dk_callv (va_runI (As := []) (rest := [.ref q_8759]) ⟨hx, hb, hml, hown, hts⟩ (c_M_init l G w_8760 q_8759 h_8763) (cwI 0 hts (wd_g wi_712) rfl rfl rfl (hts _ wi_8) (hts _ wi_710) (hts _ wi_711) rfl (by decide +kernel) ⟨Nat.le_of_ble_eq_true rfl, Nat.le_of_ble_eq_true rfl⟩) (dk_preS hE hP hS) rfl rfl hl.1 rfl (lv_room (Nat.le_of_ble_eq_true rfl)) de_L_law_12 ⟨(by show _ ≤ 601024; omega), (by show _ ≤ 7293034; omega)⟩) hS (fun w_8764 H locs hq_8765 hP hS => ?_)
  obtain ⟨DM, hm1, hf2⟩ := hq_8765
  have hk3 := hk2.fr hf2 (fun t ht => by unfold md_T; omega)
  refine lv_astore_n (lv' := [(2, .ref q_8759), (1, .ref q_8751), (0, .ref b)]) hx hb de_L_law_15 rfl hl (by decide) rfl (fun ls hl => ?_)
  refine lv_iconst (v := nI 1) hx hb de_L_law_16 (by decide) ?_
  refine dk_newa 90 1 (atype := .long) (ty := .long) (a0 := (1, .inr (.inl (fun _ => 0)))) (N' := 1) hx hb (hts _ wi_207) rfl hK hP hS hE.2.2.2 rfl (fun U cA h => h) (fun cA => rfl) rfl (by omega) (by first | decide | (simp [componentBytes]; done) | (simp [componentBytes]; omega)) (by show _ ≤ 601024; omega) (by show _ ≤ 7293034; omega) de_L_law_17 (fun q_8767 H w_8768 hn_8770 hw_8769 hP hS => ?_)
  have h_8771 : w_8768 q_8767 = some (90, dk_cl G 1 (fun _ => 0)) := dk_here hw_8769
  have hf3 : dk_fr (fun t => t = 90) w_8764 w_8768 := (dk_fr.upN hn_8770).eq hw_8769
  have hk4 := hk3.fr hf3 (fun t ht => by omega)
  have hm4 := hm1.fr hf3 (fun t ht => by omega)
  refine lv_astore_n (lv' := [(3, .ref q_8767), (2, .ref q_8759), (1, .ref q_8751), (0, .ref b)]) hx hb de_L_law_19 rfl hl (by decide) rfl (fun ls hl => ?_)
  refine lv_iconst (v := nI 0) hx hb de_L_law_20 (by decide) ?_
  refine lv_istore (lv' := [(4, .int (nI 0)), (3, .ref q_8767), (2, .ref q_8759), (1, .ref q_8751), (0, .ref b)]) hx hb de_L_law_21 hl (by decide) rfl (fun ls hl => ?_)
  exact W.widen (by omega) (by omega) (KK q_8751 q_8759 q_8767 D DM _ _ _ _ ⟨_, _, _, hk4, hm4, h_8771, rl_0, bu_0⟩ hP hS (lv_sub hl [4, 3, 2, 1, 0] rfl))
