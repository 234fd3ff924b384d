/-! RunKeeperModel: crash (printed by gen/c_md9.py) -/
/-- the k-th entry copied to place m -/
def md_cp (ν : md_S) (m k : Nat) : md_S := ((((ν.kf' (va_up ν.kf m (ν.kf k))).nf' (va_up ν.nf m (ν.nf k))).vf' (va_up ν.vf m (ν.vf k))).df' (va_up ν.df m (ν.df k))).rf' (va_up ν.rf m (ν.rf k))
theorem md_cp_ok {ν : md_S} (h : md_ok ν) (m k : Nat) : md_ok (md_cp ν m k) := by
  obtain ⟨ok1, ok2, ok3, ok4, ok5, ok6, ok7, ok8, ok9, ok10, ok11⟩ := h
  exact ⟨up_all (P := fun v => v < 1024) ok1 (ok1 k), up_all (P := fun v => v < 2 ^ 30) ok2 (ok2 k), fun i => up_all (P := fun o => ∀ r, o = some r → r < 5000) ok3 (ok3 k) i, ok4, ok5, ok6, ok7, ok8, ok9, ok10, ok11⟩
/-- the first entries: the state, how many are kept, how many of the table were seen, the greatest number kept -/
def cr_f (μ : md_S) : Nat → md_S × Nat × Nat × Nat
  | 0 => (μ, 0, 0, 0)
  | k + 1 => if (cr_f μ k).1.rf k = none ∧ μ.sf ≤ (cr_f μ k).2.2.1 then ((cr_f μ k).1, (cr_f μ k).2.1, (cr_f μ k).2.2.1 + 1, (cr_f μ k).2.2.2)
    else (md_cp (cr_f μ k).1 (cr_f μ k).2.1 k, (cr_f μ k).2.1 + 1, (if (cr_f μ k).1.rf k = none then (cr_f μ k).2.2.1 + 1 else (cr_f μ k).2.2.1), max (cr_f μ k).2.2.2 ((cr_f μ k).1.nf k))
theorem cr_r {μ ν : md_S} {k m c o : Nat} (h : cr_f μ k = (ν, m, c, o)) (h1 : ¬ ν.rf k = none) : cr_f μ (k + 1) = (md_cp ν m k, m + 1, c, max o (ν.nf k)) := by
  rw [cr_f, h]
  simp only
  rw [if_neg (fun z => h1 z.1), if_neg h1]
theorem cr_k {μ ν : md_S} {k m c o : Nat} (h : cr_f μ k = (ν, m, c, o)) (h1 : ν.rf k = none) (h2 : c < μ.sf) : cr_f μ (k + 1) = (md_cp ν m k, m + 1, c + 1, max o (ν.nf k)) := by
  rw [cr_f, h]
  simp only
  rw [if_neg (fun z => absurd z.2 (by omega)), if_pos h1]
theorem cr_d {μ ν : md_S} {k m c o : Nat} (h : cr_f μ k = (ν, m, c, o)) (h1 : ν.rf k = none) (h2 : μ.sf ≤ c) : cr_f μ (k + 1) = (ν, m, c + 1, o) := by
  rw [cr_f, h]
  simp only
  rw [if_pos ⟨h1, h2⟩]
def md_cr (μ : md_S) : md_S := ((((cr_f (μ.er' 0) μ.n).1.n' (cr_f (μ.er' 0) μ.n).2.1).sq' (cr_f (μ.er' 0) μ.n).2.2.2).ba' none).ss' (fun b => if b < 6 then false else (cr_f (μ.er' 0) μ.n).1.ss b)
abbrev rm_M_crash : Room := { frames := 1, cells := 0, slots := 0, locals := 23 }
set_option maxHeartbeats 4000000 in
set_option maxRecDepth 100000 in
theorem c_M_crash (l : Launch) (G : dk_G) (w : dk_H) (h : Nat) (D : md_D) (μ : md_S) (hm : md_at G w h D μ) (hmo : md_ok μ) (hsf : μ.sf < 2 ^ 31) : dk_Mi l my_M_crash (wd_c my_M_crash mb_M_crash 5 (some .int)) rm_M_crash G w [.ref h] (fun r w1 => r = nI (md_k (md_cr μ)) ∧ md_at G w1 h D (md_cr μ) ∧ dk_fr md_T w w1) 0 0 := by
  obtain ⟨ok1, ok2, ok3, ok4, ok5, ok6, ok7, ok8, ok9, ok10, ok11⟩ := id hmo
  have hmo0 : md_ok (μ.er' 0) := ⟨ok1, ok2, ok3, ok4, ok5, ok6, ok7, ok8, ok9, ok10, show (0 : Nat) < 3 by decide⟩
  refine dk_enter (lv := [(0, .ref h)]) (by decide) (Nat.le_of_ble_eq_true rfl) rfl (fun p e s m args below meth c ls Q hQ C hP hS hl => ?_)
  obtain ⟨hx, hb, hr, hml, hlocks, hown, hnm, hts, hE⟩ := C
  have hK := hE.1
  have hN := hE.2.1
  have hh_6328 : w h = some (100, .inr (cx_M, [.int (nI μ.er), .int (nI μ.n), .int (nI μ.sq), .int (nI μ.sf), .int (nI μ.rs), .int (rI μ.ba), .int (nI μ.pr), .int (nI μ.mi), .ref D.kf, .ref D.nf, .ref D.rf, .ref D.lf, .ref D.sv, .ref D.bk, .ref D.od, .ref D.vf, .ref D.bv, .ref D.df, .ref D.ss, .ref D.bd, .ref D.ks, .ref D.bt])) := hm.o
  refine lv_aload_n hx hb de_M_crash_0 rfl (lv_at hl 0 rfl) ?_
  refine lv_iconst (v := nI 0) hx hb de_M_crash_1 (by decide) ?_
  refine dk_put (a := h) (v := .int (nI 0)) (ty := .int) (C := kn_M) (T := kt_M) (N := 22) hx hb hts ki_M ky_M kk_M kd_M hown hK hP hS hh_6328 rfl 0 (by decide) (hts _ wi_714) (fun _ h9 => h9) rfl (by decide +kernel) rfl rfl (Nat.le_of_ble_eq_true rfl) de_M_crash_2 (fun H locs w_6329 hw_6330 hP hS => ?_)
  have h_6331 : w_6329 h = some (100, .inr (cx_M, [.int (nI 0), .int (nI μ.n), .int (nI μ.sq), .int (nI μ.sf), .int (nI μ.rs), .int (rI μ.ba), .int (nI μ.pr), .int (nI μ.mi), .ref D.kf, .ref D.nf, .ref D.rf, .ref D.lf, .ref D.sv, .ref D.bk, .ref D.od, .ref D.vf, .ref D.bv, .ref D.df, .ref D.ss, .ref D.bd, .ref D.ks, .ref D.bt])) := dk_here hw_6330
  have h_6332 : w_6329 D.kf = some (101, dk_ci G 700 (fun i9 => nI (μ.kf i9))) := dk_keep hw_6330 hh_6328 hm.kf (by decide)
  have h_6333 : w_6329 D.nf = some (102, dk_ci G 700 (fun i9 => nI (μ.nf i9))) := dk_keep hw_6330 hh_6328 hm.nf (by decide)
  have h_6334 : w_6329 D.rf = some (103, dk_ci G 700 (fun i9 => rI (μ.rf i9))) := dk_keep hw_6330 hh_6328 hm.rf (by decide)
  have h_6335 : w_6329 D.lf = some (104, dk_ci G 5000 (fun i9 => rI (μ.lf i9))) := dk_keep hw_6330 hh_6328 hm.lf (by decide)
  have h_6336 : w_6329 D.sv = some (105, dk_ci G 6 (fun i9 => nI (μ.sv i9))) := dk_keep hw_6330 hh_6328 hm.sv (by decide)
  have h_6337 : w_6329 D.bk = some (106, dk_ci G 16 (fun i9 => nI (μ.bk i9))) := dk_keep hw_6330 hh_6328 hm.bk (by decide)
  have h_6338 : w_6329 D.od = some (107, dk_ci G 700 (fun i9 => nI (μ.od i9))) := dk_keep hw_6330 hh_6328 hm.od (by decide)
  have h_6339 : w_6329 D.vf = some (108, dk_cl G 700 (fun i9 => μ.vf i9)) := dk_keep hw_6330 hh_6328 hm.vf (by decide)
  have h_6340 : w_6329 D.bv = some (109, dk_cl G 16 (fun i9 => μ.bv i9)) := dk_keep hw_6330 hh_6328 hm.bv (by decide)
  have h_6341 : w_6329 D.df = some (110, dk_cz G 700 (fun i9 => bo_i (μ.df i9))) := dk_keep hw_6330 hh_6328 hm.df (by decide)
  have h_6342 : w_6329 D.ss = some (111, dk_cz G 6 (fun i9 => bo_i (μ.ss i9))) := dk_keep hw_6330 hh_6328 hm.ss (by decide)
  have h_6343 : w_6329 D.bd = some (112, dk_cz G 16 (fun i9 => bo_i (μ.bd i9))) := dk_keep hw_6330 hh_6328 hm.bd (by decide)
  have h_6344 : w_6329 D.ks = some (113, dk_cz G 700 (fun i9 => bo_i (μ.ks i9))) := dk_keep hw_6330 hh_6328 hm.ks (by decide)
  have h_6345 : w_6329 D.bt = some (114, dk_cz G 6000 (fun i9 => bo_i (μ.bt i9))) := dk_keep hw_6330 hh_6328 hm.bt (by decide)
  have hm_6346 : md_at G w_6329 h D (μ.er' 0) := ⟨h_6331, h_6332, h_6333, h_6334, h_6335, h_6336, h_6337, h_6338, h_6339, h_6340, h_6341, h_6342, h_6343, h_6344, h_6345⟩
  have hh_6347 : w_6329 h = some (100, .inr (cx_M, [.int (nI 0), .int (nI μ.n), .int (nI μ.sq), .int (nI μ.sf), .int (nI μ.rs), .int (rI μ.ba), .int (nI μ.pr), .int (nI μ.mi), .ref D.kf, .ref D.nf, .ref D.rf, .ref D.lf, .ref D.sv, .ref D.bk, .ref D.od, .ref D.vf, .ref D.bv, .ref D.df, .ref D.ss, .ref D.bd, .ref D.ks, .ref D.bt])) := hm_6346.o
  have ha_6348 : w_6329 D.kf = some (101, dk_ci G 700 (fun i9 => nI (μ.kf i9))) := hm_6346.kf
  have ha_6349 : w_6329 D.nf = some (102, dk_ci G 700 (fun i9 => nI (μ.nf i9))) := hm_6346.nf
  have ha_6350 : w_6329 D.rf = some (103, dk_ci G 700 (fun i9 => rI (μ.rf i9))) := hm_6346.rf
  have ha_6351 : w_6329 D.lf = some (104, dk_ci G 5000 (fun i9 => rI (μ.lf i9))) := hm_6346.lf
  have ha_6352 : w_6329 D.sv = some (105, dk_ci G 6 (fun i9 => nI (μ.sv i9))) := hm_6346.sv
  have ha_6353 : w_6329 D.bk = some (106, dk_ci G 16 (fun i9 => nI (μ.bk i9))) := hm_6346.bk
  have ha_6354 : w_6329 D.od = some (107, dk_ci G 700 (fun i9 => nI (μ.od i9))) := hm_6346.od
  have ha_6355 : w_6329 D.vf = some (108, dk_cl G 700 (fun i9 => μ.vf i9)) := hm_6346.vf
  have ha_6356 : w_6329 D.bv = some (109, dk_cl G 16 (fun i9 => μ.bv i9)) := hm_6346.bv
  have ha_6357 : w_6329 D.df = some (110, dk_cz G 700 (fun i9 => bo_i (μ.df i9))) := hm_6346.df
  have ha_6358 : w_6329 D.ss = some (111, dk_cz G 6 (fun i9 => bo_i (μ.ss i9))) := hm_6346.ss
  have ha_6359 : w_6329 D.bd = some (112, dk_cz G 16 (fun i9 => bo_i (μ.bd i9))) := hm_6346.bd
  have ha_6360 : w_6329 D.ks = some (113, dk_cz G 700 (fun i9 => bo_i (μ.ks i9))) := hm_6346.ks
  have ha_6361 : w_6329 D.bt = some (114, dk_cz G 6000 (fun i9 => bo_i (μ.bt i9))) := hm_6346.bt
  refine lv_iconst (v := nI 0) hx hb de_M_crash_5 (by decide) ?_
  refine lv_istore_n (lv' := [(1, .int (nI 0)), (0, .ref h)]) hx hb de_M_crash_6 rfl hl (by decide) rfl (fun ls hl => ?_)
  refine lv_iconst (v := nI 0) hx hb de_M_crash_7 (by decide) ?_
  refine lv_istore_n (lv' := [(2, .int (nI 0)), (1, .int (nI 0)), (0, .ref h)]) hx hb de_M_crash_8 rfl hl (by decide) rfl (fun ls hl => ?_)
  refine lv_iconst (v := nI 0) hx hb de_M_crash_9 (by decide) ?_
  refine lv_istore_n (lv' := [(3, .int (nI 0)), (2, .int (nI 0)), (1, .int (nI 0)), (0, .ref h)]) hx hb de_M_crash_10 rfl hl (by decide) rfl (fun ls hl => ?_)
  refine lv_iconst (v := nI 0) hx hb de_M_crash_11 (by decide) ?_
  refine lv_istore (lv' := [(4, .int (nI 0)), (3, .int (nI 0)), (2, .int (nI 0)), (1, .int (nI 0)), (0, .ref h)]) hx hb de_M_crash_12 hl (by decide) rfl (fun ls hl => ?_)
  have lp : ∀ (zk : Nat) (i : Nat) (ν : md_S) (m9 : Nat) (c9 : Nat) (o9 : Nat), μ.n - i < zk → (i ≤ μ.n) → (cr_f (μ.er' 0) i = (ν, m9, c9, o9)) → (m9 ≤ i ∧ c9 ≤ i ∧ o9 < 2 ^ 30 ∧ ν.n = μ.n ∧ ν.sf = μ.sf) → (md_ok ν) → ∀ (H : Heap) (locs : List Loc) (v : dk_H), (md_at G v h D ν) → (dk_fr md_T w v) → dk_P G v H → dk_S G s.heap H locs → ∀ (ls : Array Slot), lv_has ls 5 [(0, .ref h), (1, .int (nI m9)), (2, .int (nI c9)), (3, .int (nI o9)), (4, .int (nI i))] → W p l e rm_M_crash s m args below meth c H locs 0 0 Q (F0 m 14 ls []) := by
    intro zk
    induction zk with
    | zero =>
      intro i ν m9 c9 o9 hk
      exact absurd hk (by omega)
    | succ zk ih =>
      intro i ν m9 c9 o9 hk hi hcr hbd hok
      intro H locs v hmv hg hP hS
      intro ls hl
      obtain ⟨q1, q2, q3, q4, q5⟩ := hbd
      obtain ⟨k1, k2, k3, k4, k5, k6, k7, k8, k9, k10, k11⟩ := id hok
      have hh_6362 : v h = some (100, .inr (cx_M, [.int (nI ν.er), .int (nI ν.n), .int (nI ν.sq), .int (nI ν.sf), .int (nI ν.rs), .int (rI ν.ba), .int (nI ν.pr), .int (nI ν.mi), .ref D.kf, .ref D.nf, .ref D.rf, .ref D.lf, .ref D.sv, .ref D.bk, .ref D.od, .ref D.vf, .ref D.bv, .ref D.df, .ref D.ss, .ref D.bd, .ref D.ks, .ref D.bt])) := hmv.o
      have hneg := rI_neg (a := ν.rf i) (fun r hr => by have := k3 i r hr; omega)
      have hs9 : ν.sf = μ.sf := q5
      have b3 := k2 i
      refine lv_iload hx hb de_M_crash_14 (lv_at hl 4 rfl) ?_
      refine lv_aload_n hx hb de_M_crash_16 rfl (lv_at hl 0 rfl) ?_
      refine dk_get (a := h) (v := .int (nI ν.n)) (C := kn_M) (T := kt_M) (N := 22) hx hb hts ki_M hown hK hP hh_6362 rfl 1 (by decide) (hts _ wi_715) (fun _ h9 => h9) rfl de_M_crash_17 ?_
      refine nx_icmp_ge (a := i) (b := ν.n) (tgt := 138) hx hb (by omega) (by omega) de_M_crash_20 (by decide) (fun c_6363 => ?_) (fun c_6363 => ?_)
      · have e9 : i = μ.n := by omega
        refine lv_aload_n hx hb de_M_crash_138 rfl (lv_at hl 0 rfl) ?_
        refine lv_iload_n hx hb de_M_crash_139 rfl (lv_at hl 1 rfl) ?_
        refine dk_put (a := h) (v := .int (nI m9)) (ty := .int) (C := kn_M) (T := kt_M) (N := 22) hx hb hts ki_M ky_M kk_M kd_M hown hK hP hS hh_6362 rfl 1 (by decide) (hts _ wi_715) (fun _ h9 => h9) rfl (by decide +kernel) rfl rfl (Nat.le_of_ble_eq_true rfl) de_M_crash_140 (fun H locs w_6542 hw_6543 hP hS => ?_)
        have h_6544 : w_6542 h = some (100, .inr (cx_M, [.int (nI ν.er), .int (nI m9), .int (nI ν.sq), .int (nI ν.sf), .int (nI ν.rs), .int (rI ν.ba), .int (nI ν.pr), .int (nI ν.mi), .ref D.kf, .ref D.nf, .ref D.rf, .ref D.lf, .ref D.sv, .ref D.bk, .ref D.od, .ref D.vf, .ref D.bv, .ref D.df, .ref D.ss, .ref D.bd, .ref D.ks, .ref D.bt])) := dk_here hw_6543
        have h_6545 : w_6542 D.kf = some (101, dk_ci G 700 (fun i9 => nI (ν.kf i9))) := dk_keep hw_6543 hh_6362 hmv.kf (by decide)
        have h_6546 : w_6542 D.nf = some (102, dk_ci G 700 (fun i9 => nI (ν.nf i9))) := dk_keep hw_6543 hh_6362 hmv.nf (by decide)
        have h_6547 : w_6542 D.rf = some (103, dk_ci G 700 (fun i9 => rI (ν.rf i9))) := dk_keep hw_6543 hh_6362 hmv.rf (by decide)
        have h_6548 : w_6542 D.lf = some (104, dk_ci G 5000 (fun i9 => rI (ν.lf i9))) := dk_keep hw_6543 hh_6362 hmv.lf (by decide)
        have h_6549 : w_6542 D.sv = some (105, dk_ci G 6 (fun i9 => nI (ν.sv i9))) := dk_keep hw_6543 hh_6362 hmv.sv (by decide)
        have h_6550 : w_6542 D.bk = some (106, dk_ci G 16 (fun i9 => nI (ν.bk i9))) := dk_keep hw_6543 hh_6362 hmv.bk (by decide)
        have h_6551 : w_6542 D.od = some (107, dk_ci G 700 (fun i9 => nI (ν.od i9))) := dk_keep hw_6543 hh_6362 hmv.od (by decide)
        have h_6552 : w_6542 D.vf = some (108, dk_cl G 700 (fun i9 => ν.vf i9)) := dk_keep hw_6543 hh_6362 hmv.vf (by decide)
        have h_6553 : w_6542 D.bv = some (109, dk_cl G 16 (fun i9 => ν.bv i9)) := dk_keep hw_6543 hh_6362 hmv.bv (by decide)
        have h_6554 : w_6542 D.df = some (110, dk_cz G 700 (fun i9 => bo_i (ν.df i9))) := dk_keep hw_6543 hh_6362 hmv.df (by decide)
        have h_6555 : w_6542 D.ss = some (111, dk_cz G 6 (fun i9 => bo_i (ν.ss i9))) := dk_keep hw_6543 hh_6362 hmv.ss (by decide)
        have h_6556 : w_6542 D.bd = some (112, dk_cz G 16 (fun i9 => bo_i (ν.bd i9))) := dk_keep hw_6543 hh_6362 hmv.bd (by decide)
        have h_6557 : w_6542 D.ks = some (113, dk_cz G 700 (fun i9 => bo_i (ν.ks i9))) := dk_keep hw_6543 hh_6362 hmv.ks (by decide)
        have h_6558 : w_6542 D.bt = some (114, dk_cz G 6000 (fun i9 => bo_i (ν.bt i9))) := dk_keep hw_6543 hh_6362 hmv.bt (by decide)
        refine lv_aload_n hx hb de_M_crash_143 rfl (lv_at hl 0 rfl) ?_
        refine lv_iload_n hx hb de_M_crash_144 rfl (lv_at hl 3 rfl) ?_
        refine dk_put (a := h) (v := .int (nI o9)) (ty := .int) (C := kn_M) (T := kt_M) (N := 22) hx hb hts ki_M ky_M kk_M kd_M hown hK hP hS h_6544 rfl 2 (by decide) (hts _ wi_716) (fun _ h9 => h9) rfl (by decide +kernel) rfl rfl (Nat.le_of_ble_eq_true rfl) de_M_crash_145 (fun H locs w_6559 hw_6560 hP hS => ?_)
        have h_6561 : w_6559 h = some (100, .inr (cx_M, [.int (nI ν.er), .int (nI m9), .int (nI o9), .int (nI ν.sf), .int (nI ν.rs), .int (rI ν.ba), .int (nI ν.pr), .int (nI ν.mi), .ref D.kf, .ref D.nf, .ref D.rf, .ref D.lf, .ref D.sv, .ref D.bk, .ref D.od, .ref D.vf, .ref D.bv, .ref D.df, .ref D.ss, .ref D.bd, .ref D.ks, .ref D.bt])) := dk_here hw_6560
        have h_6562 : w_6559 D.kf = some (101, dk_ci G 700 (fun i9 => nI (ν.kf i9))) := dk_keep hw_6560 h_6544 h_6545 (by decide)
        have h_6563 : w_6559 D.nf = some (102, dk_ci G 700 (fun i9 => nI (ν.nf i9))) := dk_keep hw_6560 h_6544 h_6546 (by decide)
        have h_6564 : w_6559 D.rf = some (103, dk_ci G 700 (fun i9 => rI (ν.rf i9))) := dk_keep hw_6560 h_6544 h_6547 (by decide)
        have h_6565 : w_6559 D.lf = some (104, dk_ci G 5000 (fun i9 => rI (ν.lf i9))) := dk_keep hw_6560 h_6544 h_6548 (by decide)
        have h_6566 : w_6559 D.sv = some (105, dk_ci G 6 (fun i9 => nI (ν.sv i9))) := dk_keep hw_6560 h_6544 h_6549 (by decide)
        have h_6567 : w_6559 D.bk = some (106, dk_ci G 16 (fun i9 => nI (ν.bk i9))) := dk_keep hw_6560 h_6544 h_6550 (by decide)
        have h_6568 : w_6559 D.od = some (107, dk_ci G 700 (fun i9 => nI (ν.od i9))) := dk_keep hw_6560 h_6544 h_6551 (by decide)
        have h_6569 : w_6559 D.vf = some (108, dk_cl G 700 (fun i9 => ν.vf i9)) := dk_keep hw_6560 h_6544 h_6552 (by decide)
        have h_6570 : w_6559 D.bv = some (109, dk_cl G 16 (fun i9 => ν.bv i9)) := dk_keep hw_6560 h_6544 h_6553 (by decide)
        have h_6571 : w_6559 D.df = some (110, dk_cz G 700 (fun i9 => bo_i (ν.df i9))) := dk_keep hw_6560 h_6544 h_6554 (by decide)
        have h_6572 : w_6559 D.ss = some (111, dk_cz G 6 (fun i9 => bo_i (ν.ss i9))) := dk_keep hw_6560 h_6544 h_6555 (by decide)
        have h_6573 : w_6559 D.bd = some (112, dk_cz G 16 (fun i9 => bo_i (ν.bd i9))) := dk_keep hw_6560 h_6544 h_6556 (by decide)
        have h_6574 : w_6559 D.ks = some (113, dk_cz G 700 (fun i9 => bo_i (ν.ks i9))) := dk_keep hw_6560 h_6544 h_6557 (by decide)
        have h_6575 : w_6559 D.bt = some (114, dk_cz G 6000 (fun i9 => bo_i (ν.bt i9))) := dk_keep hw_6560 h_6544 h_6558 (by decide)
        refine lv_aload_n hx hb de_M_crash_148 rfl (lv_at hl 0 rfl) ?_
        refine lv_iconst (v := (-1)) hx hb de_M_crash_149 (by decide) ?_
        refine dk_put (a := h) (v := .int (-1)) (ty := .int) (C := kn_M) (T := kt_M) (N := 22) hx hb hts ki_M ky_M kk_M kd_M hown hK hP hS h_6561 rfl 5 (by decide) (hts _ wi_719) (fun _ h9 => h9) rfl (by decide +kernel) rfl rfl (Nat.le_of_ble_eq_true rfl) de_M_crash_150 (fun H locs w_6576 hw_6577 hP hS => ?_)
        have h_6578 : w_6576 h = some (100, .inr (cx_M, [.int (nI ν.er), .int (nI m9), .int (nI o9), .int (nI ν.sf), .int (nI ν.rs), .int (-1), .int (nI ν.pr), .int (nI ν.mi), .ref D.kf, .ref D.nf, .ref D.rf, .ref D.lf, .ref D.sv, .ref D.bk, .ref D.od, .ref D.vf, .ref D.bv, .ref D.df, .ref D.ss, .ref D.bd, .ref D.ks, .ref D.bt])) := dk_here hw_6577
        have h_6579 : w_6576 D.kf = some (101, dk_ci G 700 (fun i9 => nI (ν.kf i9))) := dk_keep hw_6577 h_6561 h_6562 (by decide)
        have h_6580 : w_6576 D.nf = some (102, dk_ci G 700 (fun i9 => nI (ν.nf i9))) := dk_keep hw_6577 h_6561 h_6563 (by decide)
        have h_6581 : w_6576 D.rf = some (103, dk_ci G 700 (fun i9 => rI (ν.rf i9))) := dk_keep hw_6577 h_6561 h_6564 (by decide)
        have h_6582 : w_6576 D.lf = some (104, dk_ci G 5000 (fun i9 => rI (ν.lf i9))) := dk_keep hw_6577 h_6561 h_6565 (by decide)
        have h_6583 : w_6576 D.sv = some (105, dk_ci G 6 (fun i9 => nI (ν.sv i9))) := dk_keep hw_6577 h_6561 h_6566 (by decide)
        have h_6584 : w_6576 D.bk = some (106, dk_ci G 16 (fun i9 => nI (ν.bk i9))) := dk_keep hw_6577 h_6561 h_6567 (by decide)
        have h_6585 : w_6576 D.od = some (107, dk_ci G 700 (fun i9 => nI (ν.od i9))) := dk_keep hw_6577 h_6561 h_6568 (by decide)
        have h_6586 : w_6576 D.vf = some (108, dk_cl G 700 (fun i9 => ν.vf i9)) := dk_keep hw_6577 h_6561 h_6569 (by decide)
        have h_6587 : w_6576 D.bv = some (109, dk_cl G 16 (fun i9 => ν.bv i9)) := dk_keep hw_6577 h_6561 h_6570 (by decide)
        have h_6588 : w_6576 D.df = some (110, dk_cz G 700 (fun i9 => bo_i (ν.df i9))) := dk_keep hw_6577 h_6561 h_6571 (by decide)
        have h_6589 : w_6576 D.ss = some (111, dk_cz G 6 (fun i9 => bo_i (ν.ss i9))) := dk_keep hw_6577 h_6561 h_6572 (by decide)
        have h_6590 : w_6576 D.bd = some (112, dk_cz G 16 (fun i9 => bo_i (ν.bd i9))) := dk_keep hw_6577 h_6561 h_6573 (by decide)
        have h_6591 : w_6576 D.ks = some (113, dk_cz G 700 (fun i9 => bo_i (ν.ks i9))) := dk_keep hw_6577 h_6561 h_6574 (by decide)
        have h_6592 : w_6576 D.bt = some (114, dk_cz G 6000 (fun i9 => bo_i (ν.bt i9))) := dk_keep hw_6577 h_6561 h_6575 (by decide)
        have hm_6593 : md_at G w_6576 h D (((ν.n' m9).sq' o9).ba' none) := ⟨h_6578, h_6579, h_6580, h_6581, h_6582, h_6583, h_6584, h_6585, h_6586, h_6587, h_6588, h_6589, h_6590, h_6591, h_6592⟩
        have hh_6594 : w_6576 h = some (100, .inr (cx_M, [.int (nI ν.er), .int (nI m9), .int (nI o9), .int (nI ν.sf), .int (nI ν.rs), .int (rI none), .int (nI ν.pr), .int (nI ν.mi), .ref D.kf, .ref D.nf, .ref D.rf, .ref D.lf, .ref D.sv, .ref D.bk, .ref D.od, .ref D.vf, .ref D.bv, .ref D.df, .ref D.ss, .ref D.bd, .ref D.ks, .ref D.bt])) := hm_6593.o
        have ha_6595 : w_6576 D.kf = some (101, dk_ci G 700 (fun i9 => nI (ν.kf i9))) := hm_6593.kf
        have ha_6596 : w_6576 D.nf = some (102, dk_ci G 700 (fun i9 => nI (ν.nf i9))) := hm_6593.nf
        have ha_6597 : w_6576 D.rf = some (103, dk_ci G 700 (fun i9 => rI (ν.rf i9))) := hm_6593.rf
        have ha_6598 : w_6576 D.lf = some (104, dk_ci G 5000 (fun i9 => rI (ν.lf i9))) := hm_6593.lf
        have ha_6599 : w_6576 D.sv = some (105, dk_ci G 6 (fun i9 => nI (ν.sv i9))) := hm_6593.sv
        have ha_6600 : w_6576 D.bk = some (106, dk_ci G 16 (fun i9 => nI (ν.bk i9))) := hm_6593.bk
        have ha_6601 : w_6576 D.od = some (107, dk_ci G 700 (fun i9 => nI (ν.od i9))) := hm_6593.od
        have ha_6602 : w_6576 D.vf = some (108, dk_cl G 700 (fun i9 => ν.vf i9)) := hm_6593.vf
        have ha_6603 : w_6576 D.bv = some (109, dk_cl G 16 (fun i9 => ν.bv i9)) := hm_6593.bv
        have ha_6604 : w_6576 D.df = some (110, dk_cz G 700 (fun i9 => bo_i (ν.df i9))) := hm_6593.df
        have ha_6605 : w_6576 D.ss = some (111, dk_cz G 6 (fun i9 => bo_i (ν.ss i9))) := hm_6593.ss
        have ha_6606 : w_6576 D.bd = some (112, dk_cz G 16 (fun i9 => bo_i (ν.bd i9))) := hm_6593.bd
        have ha_6607 : w_6576 D.ks = some (113, dk_cz G 700 (fun i9 => bo_i (ν.ks i9))) := hm_6593.ks
        have ha_6608 : w_6576 D.bt = some (114, dk_cz G 6000 (fun i9 => bo_i (ν.bt i9))) := hm_6593.bt
        refine lv_iconst (v := nI 0) hx hb de_M_crash_153 (by decide) ?_
        refine lv_istore (lv' := [(4, .int (nI 0)), (0, .ref h), (1, .int (nI m9)), (2, .int (nI c9)), (3, .int (nI o9))]) hx hb de_M_crash_154 hl (by decide) rfl (fun ls hl => ?_)
        have lp2 : ∀ (zk2 : Nat) (j : Nat), 6 - j < zk2 → (j ≤ 6) → ∀ (H : Heap) (locs : List Loc) (v2 : dk_H), (md_at G v2 h D ((((ν.n' m9).sq' o9).ba' none).ss' (fun b => if b < j then false else ν.ss b))) → (dk_fr md_T w v2) → dk_P G v2 H → dk_S G s.heap H locs → ∀ (ls : Array Slot), lv_has ls 5 [(0, .ref h), (1, .int (nI m9)), (2, .int (nI c9)), (3, .int (nI o9)), (4, .int (nI j))] → W p l e rm_M_crash s m args below meth c H locs 0 0 Q (F0 m 156 ls []) := by
          intro zk2
          induction zk2 with
          | zero =>
            intro j hk
            exact absurd hk (by omega)
          | succ zk2 ih2 =>
            intro j hk hj
            intro H locs v2 hmv2 hg2 hP hS
            intro ls hl
            have hh_6609 : v2 h = some (100, .inr (cx_M, [.int (nI ν.er), .int (nI m9), .int (nI o9), .int (nI ν.sf), .int (nI ν.rs), .int (rI none), .int (nI ν.pr), .int (nI ν.mi), .ref D.kf, .ref D.nf, .ref D.rf, .ref D.lf, .ref D.sv, .ref D.bk, .ref D.od, .ref D.vf, .ref D.bv, .ref D.df, .ref D.ss, .ref D.bd, .ref D.ks, .ref D.bt])) := hmv2.o
            have ha_6610 : v2 D.kf = some (101, dk_ci G 700 (fun i9 => nI (ν.kf i9))) := hmv2.kf
            have ha_6611 : v2 D.nf = some (102, dk_ci G 700 (fun i9 => nI (ν.nf i9))) := hmv2.nf
            have ha_6612 : v2 D.rf = some (103, dk_ci G 700 (fun i9 => rI (ν.rf i9))) := hmv2.rf
            have ha_6613 : v2 D.lf = some (104, dk_ci G 5000 (fun i9 => rI (ν.lf i9))) := hmv2.lf
            have ha_6614 : v2 D.sv = some (105, dk_ci G 6 (fun i9 => nI (ν.sv i9))) := hmv2.sv
            have ha_6615 : v2 D.bk = some (106, dk_ci G 16 (fun i9 => nI (ν.bk i9))) := hmv2.bk
            have ha_6616 : v2 D.od = some (107, dk_ci G 700 (fun i9 => nI (ν.od i9))) := hmv2.od
            have ha_6617 : v2 D.vf = some (108, dk_cl G 700 (fun i9 => ν.vf i9)) := hmv2.vf
            have ha_6618 : v2 D.bv = some (109, dk_cl G 16 (fun i9 => ν.bv i9)) := hmv2.bv
            have ha_6619 : v2 D.df = some (110, dk_cz G 700 (fun i9 => bo_i (ν.df i9))) := hmv2.df
            have ha_6620 : v2 D.ss = some (111, dk_cz G 6 (fun i9 => bo_i ((fun b => if b < j then false else ν.ss b) i9))) := hmv2.ss
            have ha_6621 : v2 D.bd = some (112, dk_cz G 16 (fun i9 => bo_i (ν.bd i9))) := hmv2.bd
            have ha_6622 : v2 D.ks = some (113, dk_cz G 700 (fun i9 => bo_i (ν.ks i9))) := hmv2.ks
            have ha_6623 : v2 D.bt = some (114, dk_cz G 6000 (fun i9 => bo_i (ν.bt i9))) := hmv2.bt
            refine lv_iload hx hb de_M_crash_156 (lv_at hl 4 rfl) ?_
            refine lv_bipush (v := nI 6) hx hb de_M_crash_158 (by decide) ?_
            refine nx_icmp_ge (a := j) (b := 6) (tgt := 177) hx hb (by omega) (by omega) de_M_crash_160 (by decide) (fun c_6624 => ?_) (fun c_6624 => ?_)
            · have e8 : j = 6 := by omega
              have hE9 : md_cr μ = (((ν.n' m9).sq' o9).ba' none).ss' (fun b => if b < j then false else ν.ss b) := by rw [md_cr, ← e9, hcr, e8]
              have hmo3 : md_ok (md_cr μ) := by rw [hE9]; exact ⟨k1, k2, k3, k4, by show m9 ≤ 640; omega, k6, q3, k8, (fun b (hb : (none : Option Nat) = some b) => by cases hb), k10, k11⟩
              rw [← hE9] at hmv2
              have hh_6643 : v2 h = some (100, .inr (cx_M, [.int (nI ((md_cr μ).er)), .int (nI ((md_cr μ).n)), .int (nI ((md_cr μ).sq)), .int (nI ((md_cr μ).sf)), .int (nI ((md_cr μ).rs)), .int (rI ((md_cr μ).ba)), .int (nI ((md_cr μ).pr)), .int (nI ((md_cr μ).mi)), .ref D.kf, .ref D.nf, .ref D.rf, .ref D.lf, .ref D.sv, .ref D.bk, .ref D.od, .ref D.vf, .ref D.bv, .ref D.df, .ref D.ss, .ref D.bd, .ref D.ks, .ref D.bt])) := hmv2.o
              refine lv_aload_n hx hb de_M_crash_177 rfl (lv_at hl 0 rfl) ?_
              refine lv_iconst (v := (-1)) hx hb de_M_crash_178 (by decide) ?_
              refine dk_calli (va_runV (As := [.int (-1)]) (rest := []) ⟨hx, hb, hml, hown, hts⟩ (c_M_inRun l G v2 h D (md_cr μ) hmv2 hmo3 none (fun r hr => by cases hr)) (cwV 1 hts (wd_gV (C := "RunKeeperModel") wi_807 wi_804 wi_806 (wd_p (q := (⟨"RunKeeperModel", "inRun", "(I)I"⟩, 22)) (by decide +kernel) (by decide +kernel)) wi_8) rfl rfl rfl (by decide +kernel) ⟨Nat.le_of_ble_eq_true rfl, Nat.le_of_ble_eq_true rfl⟩) (dk_preV (kn_M, kt_M, 22) hE hP hS hh_6643 rfl) rfl rfl hl.1 rfl (lv_room (Nat.le_of_ble_eq_true rfl)) de_M_crash_179 ⟨(by first | exact Nat.le_of_ble_eq_true rfl | (simp only [Nat.zero_add]; omega) | omega), (by first | exact Nat.le_of_ble_eq_true rfl | (simp only [Nat.zero_add]; omega) | omega)⟩) hS (fun r_6646 w_6644 H locs hq_6645 hP hS => ?_)
              obtain ⟨hr_6647, he_6648⟩ := hq_6645
              subst hr_6647
              rw [he_6648] at hP
              exact dk_iret hQ hx hb hr hlocks hP hS (Nat.le_refl _) (Nat.le_refl _) (⟨rfl, hmv2, hg2⟩) de_M_crash_182
            · refine lv_aload_n hx hb de_M_crash_163 rfl (lv_at hl 0 rfl) ?_
              refine dk_get (a := h) (v := .ref D.ss) (C := kn_M) (T := kt_M) (N := 22) hx hb hts ki_M hown hK hP hh_6609 rfl 18 (by decide) (hts _ wi_732) (fun _ h9 => h9) rfl de_M_crash_164 ?_
              refine lv_iload hx hb de_M_crash_167 (lv_at hl 4 rfl) ?_
              refine lv_iconst (v := nI 0) hx hb de_M_crash_169 (by decide) ?_
              refine dk_zast (a := D.ss) (x := (bo_i false)) hx hb hK hP hS ha_6620 j rfl (by omega) (by omega) (bo_vn false) de_M_crash_170 (fun H locs w_6625 hw_6626 hP hS => ?_)
              rw [up_bo] at hw_6626
              have h_6627 : w_6625 D.ss = some (111, dk_cz G 6 (fun i9 => bo_i ((va_up (fun b => if b < j then false else ν.ss b) j false) i9))) := dk_here hw_6626
              have h_6628 : w_6625 h = some (100, .inr (cx_M, [.int (nI ν.er), .int (nI m9), .int (nI o9), .int (nI ν.sf), .int (nI ν.rs), .int (rI none), .int (nI ν.pr), .int (nI ν.mi), .ref D.kf, .ref D.nf, .ref D.rf, .ref D.lf, .ref D.sv, .ref D.bk, .ref D.od, .ref D.vf, .ref D.bv, .ref D.df, .ref D.ss, .ref D.bd, .ref D.ks, .ref D.bt])) := dk_keep hw_6626 ha_6620 hh_6609 (by decide)
              have h_6629 : w_6625 D.kf = some (101, dk_ci G 700 (fun i9 => nI (ν.kf i9))) := dk_keep hw_6626 ha_6620 ha_6610 (by decide)
              have h_6630 : w_6625 D.nf = some (102, dk_ci G 700 (fun i9 => nI (ν.nf i9))) := dk_keep hw_6626 ha_6620 ha_6611 (by decide)
              have h_6631 : w_6625 D.rf = some (103, dk_ci G 700 (fun i9 => rI (ν.rf i9))) := dk_keep hw_6626 ha_6620 ha_6612 (by decide)
              have h_6632 : w_6625 D.lf = some (104, dk_ci G 5000 (fun i9 => rI (ν.lf i9))) := dk_keep hw_6626 ha_6620 ha_6613 (by decide)
              have h_6633 : w_6625 D.sv = some (105, dk_ci G 6 (fun i9 => nI (ν.sv i9))) := dk_keep hw_6626 ha_6620 ha_6614 (by decide)
              have h_6634 : w_6625 D.bk = some (106, dk_ci G 16 (fun i9 => nI (ν.bk i9))) := dk_keep hw_6626 ha_6620 ha_6615 (by decide)
              have h_6635 : w_6625 D.od = some (107, dk_ci G 700 (fun i9 => nI (ν.od i9))) := dk_keep hw_6626 ha_6620 ha_6616 (by decide)
              have h_6636 : w_6625 D.vf = some (108, dk_cl G 700 (fun i9 => ν.vf i9)) := dk_keep hw_6626 ha_6620 ha_6617 (by decide)
              have h_6637 : w_6625 D.bv = some (109, dk_cl G 16 (fun i9 => ν.bv i9)) := dk_keep hw_6626 ha_6620 ha_6618 (by decide)
              have h_6638 : w_6625 D.df = some (110, dk_cz G 700 (fun i9 => bo_i (ν.df i9))) := dk_keep hw_6626 ha_6620 ha_6619 (by decide)
              have h_6639 : w_6625 D.bd = some (112, dk_cz G 16 (fun i9 => bo_i (ν.bd i9))) := dk_keep hw_6626 ha_6620 ha_6621 (by decide)
              have h_6640 : w_6625 D.ks = some (113, dk_cz G 700 (fun i9 => bo_i (ν.ks i9))) := dk_keep hw_6626 ha_6620 ha_6622 (by decide)
              have h_6641 : w_6625 D.bt = some (114, dk_cz G 6000 (fun i9 => bo_i (ν.bt i9))) := dk_keep hw_6626 ha_6620 ha_6623 (by decide)
              have hm_6642 : md_at G w_6625 h D (((((ν.n' m9).sq' o9).ba' none).ss' (fun b => if b < j then false else ν.ss b)).ss' (va_up (fun b => if b < j then false else ν.ss b) j false)) := ⟨h_6628, h_6629, h_6630, h_6631, h_6632, h_6633, h_6634, h_6635, h_6636, h_6637, h_6638, h_6627, h_6639, h_6640, h_6641⟩
              refine lv_iinc (v := nI (j + 1)) (lv' := [(4, .int (nI (j + 1))), (0, .ref h), (1, .int (nI m9)), (2, .int (nI c9)), (3, .int (nI o9))]) hx hb de_M_crash_171 hl (k := 4) rfl (nx_inc j) (by decide) rfl (fun ls hl => ?_)
              refine lv_goto (tgt := 156) hx hb de_M_crash_174 (by decide) ?_
              exact ih2 (j + 1) (by omega) (by omega) _ _ _ (by rw [bs_cs]; exact hm_6642) (hg2.tr ((dk_fr.rf).tr ((dk_fr.up (T := md_T) ha_6620 (by unfold md_T; omega)).eq hw_6626))) hP hS _ (lv_sub hl [1, 2, 3, 4, 0] rfl)
        exact lp2 7 0 (by omega) (Nat.zero_le _) _ _ _ (by rw [bs_c0]; exact hm_6593) (hg.tr ((((dk_fr.rf).tr ((dk_fr.up (T := md_T) hh_6362 (by unfold md_T; omega)).eq hw_6543)).tr ((dk_fr.up (T := md_T) h_6544 (by unfold md_T; omega)).eq hw_6560)).tr ((dk_fr.up (T := md_T) h_6561 (by unfold md_T; omega)).eq hw_6577))) hP hS _ (lv_sub hl [1, 2, 3, 4, 0] rfl)
      · refine lv_aload_n hx hb de_M_crash_23 rfl (lv_at hl 0 rfl) ?_
        refine dk_get (a := h) (v := .ref D.rf) (C := kn_M) (T := kt_M) (N := 22) hx hb hts ki_M hown hK hP hh_6362 rfl 10 (by decide) (hts _ wi_724) (fun _ h9 => h9) rfl de_M_crash_24 ?_
        refine lv_iload hx hb de_M_crash_27 (lv_at hl 4 rfl) ?_
        refine dk_iald (a := D.rf) hx hb hK hP hmv.rf i rfl (by omega) (by omega) de_M_crash_29 ?_
        refine lv_if_ge (tgt := 47) hx hb de_M_crash_30 (by decide) (fun c_6364 => ?_) (fun c_6364 => ?_)
        · have e7 : ¬ ν.rf i = none := fun z => absurd (hneg.mpr z) (by simpa using c_6364)
          refine lv_aload_n hx hb de_M_crash_47 rfl (lv_at hl 0 rfl) ?_
          refine dk_get (a := h) (v := .ref D.kf) (C := kn_M) (T := kt_M) (N := 22) hx hb hts ki_M hown hK hP hh_6362 rfl 8 (by decide) (hts _ wi_722) (fun _ h9 => h9) rfl de_M_crash_48 ?_
          refine lv_iload_n hx hb de_M_crash_51 rfl (lv_at hl 1 rfl) ?_
          refine lv_aload_n hx hb de_M_crash_52 rfl (lv_at hl 0 rfl) ?_
          refine dk_get (a := h) (v := .ref D.kf) (C := kn_M) (T := kt_M) (N := 22) hx hb hts ki_M hown hK hP hh_6362 rfl 8 (by decide) (hts _ wi_722) (fun _ h9 => h9) rfl de_M_crash_53 ?_
          refine lv_iload hx hb de_M_crash_56 (lv_at hl 4 rfl) ?_
          refine dk_iald (a := D.kf) hx hb hK hP hmv.kf i rfl (by omega) (by omega) de_M_crash_58 ?_
          refine dk_iast (a := D.kf) (x := (nI (ν.kf i))) hx hb hK hP hS hmv.kf m9 rfl (by omega) (by omega) de_M_crash_59 (fun H locs w_6365 hw_6366 hP hS => ?_)
          rw [up_nI] at hw_6366
          have h_6367 : w_6365 D.kf = some (101, dk_ci G 700 (fun i9 => nI ((va_up ν.kf m9 (ν.kf i)) i9))) := dk_here hw_6366
          have h_6368 : w_6365 h = some (100, .inr (cx_M, [.int (nI ν.er), .int (nI ν.n), .int (nI ν.sq), .int (nI ν.sf), .int (nI ν.rs), .int (rI ν.ba), .int (nI ν.pr), .int (nI ν.mi), .ref D.kf, .ref D.nf, .ref D.rf, .ref D.lf, .ref D.sv, .ref D.bk, .ref D.od, .ref D.vf, .ref D.bv, .ref D.df, .ref D.ss, .ref D.bd, .ref D.ks, .ref D.bt])) := dk_keep hw_6366 hmv.kf hh_6362 (by decide)
          have h_6369 : w_6365 D.nf = some (102, dk_ci G 700 (fun i9 => nI (ν.nf i9))) := dk_keep hw_6366 hmv.kf hmv.nf (by decide)
          have h_6370 : w_6365 D.rf = some (103, dk_ci G 700 (fun i9 => rI (ν.rf i9))) := dk_keep hw_6366 hmv.kf hmv.rf (by decide)
          have h_6371 : w_6365 D.lf = some (104, dk_ci G 5000 (fun i9 => rI (ν.lf i9))) := dk_keep hw_6366 hmv.kf hmv.lf (by decide)
          have h_6372 : w_6365 D.sv = some (105, dk_ci G 6 (fun i9 => nI (ν.sv i9))) := dk_keep hw_6366 hmv.kf hmv.sv (by decide)
          have h_6373 : w_6365 D.bk = some (106, dk_ci G 16 (fun i9 => nI (ν.bk i9))) := dk_keep hw_6366 hmv.kf hmv.bk (by decide)
          have h_6374 : w_6365 D.od = some (107, dk_ci G 700 (fun i9 => nI (ν.od i9))) := dk_keep hw_6366 hmv.kf hmv.od (by decide)
          have h_6375 : w_6365 D.vf = some (108, dk_cl G 700 (fun i9 => ν.vf i9)) := dk_keep hw_6366 hmv.kf hmv.vf (by decide)
          have h_6376 : w_6365 D.bv = some (109, dk_cl G 16 (fun i9 => ν.bv i9)) := dk_keep hw_6366 hmv.kf hmv.bv (by decide)
          have h_6377 : w_6365 D.df = some (110, dk_cz G 700 (fun i9 => bo_i (ν.df i9))) := dk_keep hw_6366 hmv.kf hmv.df (by decide)
          have h_6378 : w_6365 D.ss = some (111, dk_cz G 6 (fun i9 => bo_i (ν.ss i9))) := dk_keep hw_6366 hmv.kf hmv.ss (by decide)
          have h_6379 : w_6365 D.bd = some (112, dk_cz G 16 (fun i9 => bo_i (ν.bd i9))) := dk_keep hw_6366 hmv.kf hmv.bd (by decide)
          have h_6380 : w_6365 D.ks = some (113, dk_cz G 700 (fun i9 => bo_i (ν.ks i9))) := dk_keep hw_6366 hmv.kf hmv.ks (by decide)
          have h_6381 : w_6365 D.bt = some (114, dk_cz G 6000 (fun i9 => bo_i (ν.bt i9))) := dk_keep hw_6366 hmv.kf hmv.bt (by decide)
          refine lv_aload_n hx hb de_M_crash_60 rfl (lv_at hl 0 rfl) ?_
          refine dk_get (a := h) (v := .ref D.nf) (C := kn_M) (T := kt_M) (N := 22) hx hb hts ki_M hown hK hP h_6368 rfl 9 (by decide) (hts _ wi_723) (fun _ h9 => h9) rfl de_M_crash_61 ?_
          refine lv_iload_n hx hb de_M_crash_64 rfl (lv_at hl 1 rfl) ?_
          refine lv_aload_n hx hb de_M_crash_65 rfl (lv_at hl 0 rfl) ?_
          refine dk_get (a := h) (v := .ref D.nf) (C := kn_M) (T := kt_M) (N := 22) hx hb hts ki_M hown hK hP h_6368 rfl 9 (by decide) (hts _ wi_723) (fun _ h9 => h9) rfl de_M_crash_66 ?_
          refine lv_iload hx hb de_M_crash_69 (lv_at hl 4 rfl) ?_
          refine dk_iald (a := D.nf) hx hb hK hP h_6369 i rfl (by omega) (by omega) de_M_crash_71 ?_
          refine dk_iast (a := D.nf) (x := (nI (ν.nf i))) hx hb hK hP hS h_6369 m9 rfl (by omega) (by omega) de_M_crash_72 (fun H locs w_6382 hw_6383 hP hS => ?_)
          rw [up_nI] at hw_6383
          have h_6384 : w_6382 D.nf = some (102, dk_ci G 700 (fun i9 => nI ((va_up ν.nf m9 (ν.nf i)) i9))) := dk_here hw_6383
          have h_6385 : w_6382 h = some (100, .inr (cx_M, [.int (nI ν.er), .int (nI ν.n), .int (nI ν.sq), .int (nI ν.sf), .int (nI ν.rs), .int (rI ν.ba), .int (nI ν.pr), .int (nI ν.mi), .ref D.kf, .ref D.nf, .ref D.rf, .ref D.lf, .ref D.sv, .ref D.bk, .ref D.od, .ref D.vf, .ref D.bv, .ref D.df, .ref D.ss, .ref D.bd, .ref D.ks, .ref D.bt])) := dk_keep hw_6383 h_6369 h_6368 (by decide)
          have h_6386 : w_6382 D.kf = some (101, dk_ci G 700 (fun i9 => nI ((va_up ν.kf m9 (ν.kf i)) i9))) := dk_keep hw_6383 h_6369 h_6367 (by decide)
          have h_6387 : w_6382 D.rf = some (103, dk_ci G 700 (fun i9 => rI (ν.rf i9))) := dk_keep hw_6383 h_6369 h_6370 (by decide)
          have h_6388 : w_6382 D.lf = some (104, dk_ci G 5000 (fun i9 => rI (ν.lf i9))) := dk_keep hw_6383 h_6369 h_6371 (by decide)
          have h_6389 : w_6382 D.sv = some (105, dk_ci G 6 (fun i9 => nI (ν.sv i9))) := dk_keep hw_6383 h_6369 h_6372 (by decide)
          have h_6390 : w_6382 D.bk = some (106, dk_ci G 16 (fun i9 => nI (ν.bk i9))) := dk_keep hw_6383 h_6369 h_6373 (by decide)
          have h_6391 : w_6382 D.od = some (107, dk_ci G 700 (fun i9 => nI (ν.od i9))) := dk_keep hw_6383 h_6369 h_6374 (by decide)
          have h_6392 : w_6382 D.vf = some (108, dk_cl G 700 (fun i9 => ν.vf i9)) := dk_keep hw_6383 h_6369 h_6375 (by decide)
          have h_6393 : w_6382 D.bv = some (109, dk_cl G 16 (fun i9 => ν.bv i9)) := dk_keep hw_6383 h_6369 h_6376 (by decide)
          have h_6394 : w_6382 D.df = some (110, dk_cz G 700 (fun i9 => bo_i (ν.df i9))) := dk_keep hw_6383 h_6369 h_6377 (by decide)
          have h_6395 : w_6382 D.ss = some (111, dk_cz G 6 (fun i9 => bo_i (ν.ss i9))) := dk_keep hw_6383 h_6369 h_6378 (by decide)
          have h_6396 : w_6382 D.bd = some (112, dk_cz G 16 (fun i9 => bo_i (ν.bd i9))) := dk_keep hw_6383 h_6369 h_6379 (by decide)
          have h_6397 : w_6382 D.ks = some (113, dk_cz G 700 (fun i9 => bo_i (ν.ks i9))) := dk_keep hw_6383 h_6369 h_6380 (by decide)
          have h_6398 : w_6382 D.bt = some (114, dk_cz G 6000 (fun i9 => bo_i (ν.bt i9))) := dk_keep hw_6383 h_6369 h_6381 (by decide)
          refine lv_aload_n hx hb de_M_crash_73 rfl (lv_at hl 0 rfl) ?_
          refine dk_get (a := h) (v := .ref D.vf) (C := kn_M) (T := kt_M) (N := 22) hx hb hts ki_M hown hK hP h_6385 rfl 15 (by decide) (hts _ wi_729) (fun _ h9 => h9) rfl de_M_crash_74 ?_
          refine lv_iload_n hx hb de_M_crash_77 rfl (lv_at hl 1 rfl) ?_
          refine lv_aload_n hx hb de_M_crash_78 rfl (lv_at hl 0 rfl) ?_
          refine dk_get (a := h) (v := .ref D.vf) (C := kn_M) (T := kt_M) (N := 22) hx hb hts ki_M hown hK hP h_6385 rfl 15 (by decide) (hts _ wi_729) (fun _ h9 => h9) rfl de_M_crash_79 ?_
          refine lv_iload hx hb de_M_crash_82 (lv_at hl 4 rfl) ?_
          refine dk_lald (a := D.vf) hx hb hK hP h_6392 i rfl (by omega) (by omega) de_M_crash_84 ?_
          refine dk_last (a := D.vf) (x := (ν.vf i)) hx hb hK hP hS h_6392 m9 rfl (by omega) (by omega) de_M_crash_85 (fun H locs w_6399 hw_6400 hP hS => ?_)
          rw [up_L] at hw_6400
          have h_6401 : w_6399 D.vf = some (108, dk_cl G 700 (fun i9 => (va_up ν.vf m9 (ν.vf i)) i9)) := dk_here hw_6400
          have h_6402 : w_6399 h = some (100, .inr (cx_M, [.int (nI ν.er), .int (nI ν.n), .int (nI ν.sq), .int (nI ν.sf), .int (nI ν.rs), .int (rI ν.ba), .int (nI ν.pr), .int (nI ν.mi), .ref D.kf, .ref D.nf, .ref D.rf, .ref D.lf, .ref D.sv, .ref D.bk, .ref D.od, .ref D.vf, .ref D.bv, .ref D.df, .ref D.ss, .ref D.bd, .ref D.ks, .ref D.bt])) := dk_keep hw_6400 h_6392 h_6385 (by decide)
          have h_6403 : w_6399 D.kf = some (101, dk_ci G 700 (fun i9 => nI ((va_up ν.kf m9 (ν.kf i)) i9))) := dk_keep hw_6400 h_6392 h_6386 (by decide)
          have h_6404 : w_6399 D.nf = some (102, dk_ci G 700 (fun i9 => nI ((va_up ν.nf m9 (ν.nf i)) i9))) := dk_keep hw_6400 h_6392 h_6384 (by decide)
          have h_6405 : w_6399 D.rf = some (103, dk_ci G 700 (fun i9 => rI (ν.rf i9))) := dk_keep hw_6400 h_6392 h_6387 (by decide)
          have h_6406 : w_6399 D.lf = some (104, dk_ci G 5000 (fun i9 => rI (ν.lf i9))) := dk_keep hw_6400 h_6392 h_6388 (by decide)
          have h_6407 : w_6399 D.sv = some (105, dk_ci G 6 (fun i9 => nI (ν.sv i9))) := dk_keep hw_6400 h_6392 h_6389 (by decide)
          have h_6408 : w_6399 D.bk = some (106, dk_ci G 16 (fun i9 => nI (ν.bk i9))) := dk_keep hw_6400 h_6392 h_6390 (by decide)
          have h_6409 : w_6399 D.od = some (107, dk_ci G 700 (fun i9 => nI (ν.od i9))) := dk_keep hw_6400 h_6392 h_6391 (by decide)
          have h_6410 : w_6399 D.bv = some (109, dk_cl G 16 (fun i9 => ν.bv i9)) := dk_keep hw_6400 h_6392 h_6393 (by decide)
          have h_6411 : w_6399 D.df = some (110, dk_cz G 700 (fun i9 => bo_i (ν.df i9))) := dk_keep hw_6400 h_6392 h_6394 (by decide)
          have h_6412 : w_6399 D.ss = some (111, dk_cz G 6 (fun i9 => bo_i (ν.ss i9))) := dk_keep hw_6400 h_6392 h_6395 (by decide)
          have h_6413 : w_6399 D.bd = some (112, dk_cz G 16 (fun i9 => bo_i (ν.bd i9))) := dk_keep hw_6400 h_6392 h_6396 (by decide)
          have h_6414 : w_6399 D.ks = some (113, dk_cz G 700 (fun i9 => bo_i (ν.ks i9))) := dk_keep hw_6400 h_6392 h_6397 (by decide)
          have h_6415 : w_6399 D.bt = some (114, dk_cz G 6000 (fun i9 => bo_i (ν.bt i9))) := dk_keep hw_6400 h_6392 h_6398 (by decide)
          refine lv_aload_n hx hb de_M_crash_86 rfl (lv_at hl 0 rfl) ?_
          refine dk_get (a := h) (v := .ref D.df) (C := kn_M) (T := kt_M) (N := 22) hx hb hts ki_M hown hK hP h_6402 rfl 17 (by decide) (hts _ wi_731) (fun _ h9 => h9) rfl de_M_crash_87 ?_
          refine lv_iload_n hx hb de_M_crash_90 rfl (lv_at hl 1 rfl) ?_
          refine lv_aload_n hx hb de_M_crash_91 rfl (lv_at hl 0 rfl) ?_
          refine dk_get (a := h) (v := .ref D.df) (C := kn_M) (T := kt_M) (N := 22) hx hb hts ki_M hown hK hP h_6402 rfl 17 (by decide) (hts _ wi_731) (fun _ h9 => h9) rfl de_M_crash_92 ?_
          refine lv_iload hx hb de_M_crash_95 (lv_at hl 4 rfl) ?_
          refine dk_zald (a := D.df) hx hb hK hP h_6411 i rfl (by omega) (by omega) de_M_crash_97 ?_
          refine dk_zast (a := D.df) (x := (bo_i (ν.df i))) hx hb hK hP hS h_6411 m9 rfl (by omega) (by omega) (bo_vn (ν.df i)) de_M_crash_98 (fun H locs w_6416 hw_6417 hP hS => ?_)
          rw [up_bo] at hw_6417
          have h_6418 : w_6416 D.df = some (110, dk_cz G 700 (fun i9 => bo_i ((va_up ν.df m9 (ν.df i)) i9))) := dk_here hw_6417
          have h_6419 : w_6416 h = some (100, .inr (cx_M, [.int (nI ν.er), .int (nI ν.n), .int (nI ν.sq), .int (nI ν.sf), .int (nI ν.rs), .int (rI ν.ba), .int (nI ν.pr), .int (nI ν.mi), .ref D.kf, .ref D.nf, .ref D.rf, .ref D.lf, .ref D.sv, .ref D.bk, .ref D.od, .ref D.vf, .ref D.bv, .ref D.df, .ref D.ss, .ref D.bd, .ref D.ks, .ref D.bt])) := dk_keep hw_6417 h_6411 h_6402 (by decide)
          have h_6420 : w_6416 D.kf = some (101, dk_ci G 700 (fun i9 => nI ((va_up ν.kf m9 (ν.kf i)) i9))) := dk_keep hw_6417 h_6411 h_6403 (by decide)
          have h_6421 : w_6416 D.nf = some (102, dk_ci G 700 (fun i9 => nI ((va_up ν.nf m9 (ν.nf i)) i9))) := dk_keep hw_6417 h_6411 h_6404 (by decide)
          have h_6422 : w_6416 D.rf = some (103, dk_ci G 700 (fun i9 => rI (ν.rf i9))) := dk_keep hw_6417 h_6411 h_6405 (by decide)
          have h_6423 : w_6416 D.lf = some (104, dk_ci G 5000 (fun i9 => rI (ν.lf i9))) := dk_keep hw_6417 h_6411 h_6406 (by decide)
          have h_6424 : w_6416 D.sv = some (105, dk_ci G 6 (fun i9 => nI (ν.sv i9))) := dk_keep hw_6417 h_6411 h_6407 (by decide)
          have h_6425 : w_6416 D.bk = some (106, dk_ci G 16 (fun i9 => nI (ν.bk i9))) := dk_keep hw_6417 h_6411 h_6408 (by decide)
          have h_6426 : w_6416 D.od = some (107, dk_ci G 700 (fun i9 => nI (ν.od i9))) := dk_keep hw_6417 h_6411 h_6409 (by decide)
          have h_6427 : w_6416 D.vf = some (108, dk_cl G 700 (fun i9 => (va_up ν.vf m9 (ν.vf i)) i9)) := dk_keep hw_6417 h_6411 h_6401 (by decide)
          have h_6428 : w_6416 D.bv = some (109, dk_cl G 16 (fun i9 => ν.bv i9)) := dk_keep hw_6417 h_6411 h_6410 (by decide)
          have h_6429 : w_6416 D.ss = some (111, dk_cz G 6 (fun i9 => bo_i (ν.ss i9))) := dk_keep hw_6417 h_6411 h_6412 (by decide)
          have h_6430 : w_6416 D.bd = some (112, dk_cz G 16 (fun i9 => bo_i (ν.bd i9))) := dk_keep hw_6417 h_6411 h_6413 (by decide)
          have h_6431 : w_6416 D.ks = some (113, dk_cz G 700 (fun i9 => bo_i (ν.ks i9))) := dk_keep hw_6417 h_6411 h_6414 (by decide)
          have h_6432 : w_6416 D.bt = some (114, dk_cz G 6000 (fun i9 => bo_i (ν.bt i9))) := dk_keep hw_6417 h_6411 h_6415 (by decide)
          refine lv_aload_n hx hb de_M_crash_99 rfl (lv_at hl 0 rfl) ?_
          refine dk_get (a := h) (v := .ref D.rf) (C := kn_M) (T := kt_M) (N := 22) hx hb hts ki_M hown hK hP h_6419 rfl 10 (by decide) (hts _ wi_724) (fun _ h9 => h9) rfl de_M_crash_100 ?_
          refine lv_iload_n hx hb de_M_crash_103 rfl (lv_at hl 1 rfl) ?_
          refine lv_aload_n hx hb de_M_crash_104 rfl (lv_at hl 0 rfl) ?_
          refine dk_get (a := h) (v := .ref D.rf) (C := kn_M) (T := kt_M) (N := 22) hx hb hts ki_M hown hK hP h_6419 rfl 10 (by decide) (hts _ wi_724) (fun _ h9 => h9) rfl de_M_crash_105 ?_
          refine lv_iload hx hb de_M_crash_108 (lv_at hl 4 rfl) ?_
          refine dk_iald (a := D.rf) hx hb hK hP h_6422 i rfl (by omega) (by omega) de_M_crash_110 ?_
          refine dk_iast (a := D.rf) (x := (rI (ν.rf i))) hx hb hK hP hS h_6422 m9 rfl (by omega) (by omega) de_M_crash_111 (fun H locs w_6433 hw_6434 hP hS => ?_)
          rw [up_rI] at hw_6434
          have h_6435 : w_6433 D.rf = some (103, dk_ci G 700 (fun i9 => rI ((va_up ν.rf m9 (ν.rf i)) i9))) := dk_here hw_6434
          have h_6436 : w_6433 h = some (100, .inr (cx_M, [.int (nI ν.er), .int (nI ν.n), .int (nI ν.sq), .int (nI ν.sf), .int (nI ν.rs), .int (rI ν.ba), .int (nI ν.pr), .int (nI ν.mi), .ref D.kf, .ref D.nf, .ref D.rf, .ref D.lf, .ref D.sv, .ref D.bk, .ref D.od, .ref D.vf, .ref D.bv, .ref D.df, .ref D.ss, .ref D.bd, .ref D.ks, .ref D.bt])) := dk_keep hw_6434 h_6422 h_6419 (by decide)
          have h_6437 : w_6433 D.kf = some (101, dk_ci G 700 (fun i9 => nI ((va_up ν.kf m9 (ν.kf i)) i9))) := dk_keep hw_6434 h_6422 h_6420 (by decide)
          have h_6438 : w_6433 D.nf = some (102, dk_ci G 700 (fun i9 => nI ((va_up ν.nf m9 (ν.nf i)) i9))) := dk_keep hw_6434 h_6422 h_6421 (by decide)
          have h_6439 : w_6433 D.lf = some (104, dk_ci G 5000 (fun i9 => rI (ν.lf i9))) := dk_keep hw_6434 h_6422 h_6423 (by decide)
          have h_6440 : w_6433 D.sv = some (105, dk_ci G 6 (fun i9 => nI (ν.sv i9))) := dk_keep hw_6434 h_6422 h_6424 (by decide)
          have h_6441 : w_6433 D.bk = some (106, dk_ci G 16 (fun i9 => nI (ν.bk i9))) := dk_keep hw_6434 h_6422 h_6425 (by decide)
          have h_6442 : w_6433 D.od = some (107, dk_ci G 700 (fun i9 => nI (ν.od i9))) := dk_keep hw_6434 h_6422 h_6426 (by decide)
          have h_6443 : w_6433 D.vf = some (108, dk_cl G 700 (fun i9 => (va_up ν.vf m9 (ν.vf i)) i9)) := dk_keep hw_6434 h_6422 h_6427 (by decide)
          have h_6444 : w_6433 D.bv = some (109, dk_cl G 16 (fun i9 => ν.bv i9)) := dk_keep hw_6434 h_6422 h_6428 (by decide)
          have h_6445 : w_6433 D.df = some (110, dk_cz G 700 (fun i9 => bo_i ((va_up ν.df m9 (ν.df i)) i9))) := dk_keep hw_6434 h_6422 h_6418 (by decide)
          have h_6446 : w_6433 D.ss = some (111, dk_cz G 6 (fun i9 => bo_i (ν.ss i9))) := dk_keep hw_6434 h_6422 h_6429 (by decide)
          have h_6447 : w_6433 D.bd = some (112, dk_cz G 16 (fun i9 => bo_i (ν.bd i9))) := dk_keep hw_6434 h_6422 h_6430 (by decide)
          have h_6448 : w_6433 D.ks = some (113, dk_cz G 700 (fun i9 => bo_i (ν.ks i9))) := dk_keep hw_6434 h_6422 h_6431 (by decide)
          have h_6449 : w_6433 D.bt = some (114, dk_cz G 6000 (fun i9 => bo_i (ν.bt i9))) := dk_keep hw_6434 h_6422 h_6432 (by decide)
          refine lv_aload_n hx hb de_M_crash_112 rfl (lv_at hl 0 rfl) ?_
          refine dk_get (a := h) (v := .ref D.nf) (C := kn_M) (T := kt_M) (N := 22) hx hb hts ki_M hown hK hP h_6436 rfl 9 (by decide) (hts _ wi_723) (fun _ h9 => h9) rfl de_M_crash_113 ?_
          refine lv_iload_n hx hb de_M_crash_116 rfl (lv_at hl 1 rfl) ?_
          refine dk_iald (a := D.nf) hx hb hK hP h_6438 m9 rfl (by omega) (by omega) de_M_crash_117 ?_
          rw [dk_us (w := ν.nf) (a := m9) (v := ν.nf i)]
          refine lv_iload_n hx hb de_M_crash_118 rfl (lv_at hl 3 rfl) ?_
          refine nx_icmp_le (a := ν.nf i) (b := o9) (tgt := 129) hx hb (by omega) (by omega) de_M_crash_119 (by decide) (fun c_6450 => ?_) (fun c_6450 => ?_)
          · refine lv_iinc (v := nI (m9 + 1)) (lv' := [(1, .int (nI (m9 + 1))), (0, .ref h), (2, .int (nI c9)), (3, .int (nI o9)), (4, .int (nI i))]) hx hb de_M_crash_129 hl (k := 1) rfl (nx_inc m9) (by decide) rfl (fun ls hl => ?_)
            refine lv_iinc (v := nI (i + 1)) (lv' := [(4, .int (nI (i + 1))), (1, .int (nI (m9 + 1))), (0, .ref h), (2, .int (nI c9)), (3, .int (nI o9))]) hx hb de_M_crash_132 hl (k := 4) rfl (nx_inc i) (by decide) rfl (fun ls hl => ?_)
            refine lv_goto (tgt := 14) hx hb de_M_crash_135 (by decide) ?_
            have hm_6451 : md_at G w_6433 h D (((((ν.kf' (va_up ν.kf m9 (ν.kf i))).nf' (va_up ν.nf m9 (ν.nf i))).vf' (va_up ν.vf m9 (ν.vf i))).df' (va_up ν.df m9 (ν.df i))).rf' (va_up ν.rf m9 (ν.rf i))) := ⟨h_6436, h_6437, h_6438, h_6435, h_6439, h_6440, h_6441, h_6442, h_6443, h_6444, h_6445, h_6446, h_6447, h_6448, h_6449⟩
            have hcr2 : cr_f (μ.er' 0) (i + 1) = (md_cp ν m9 i, m9 + 1, c9, o9) := by rw [cr_r hcr e7, show max o9 (ν.nf i) = o9 by omega]
            exact ih (i + 1) (md_cp ν m9 i) (m9 + 1) c9 o9 (by omega) (by omega) hcr2 (⟨by omega, by omega, by omega, q4, q5⟩) (md_cp_ok hok m9 i) _ _ _ hm_6451 (hg.tr ((((((dk_fr.rf).tr ((dk_fr.up (T := md_T) hmv.kf (by unfold md_T; omega)).eq hw_6366)).tr ((dk_fr.up (T := md_T) h_6369 (by unfold md_T; omega)).eq hw_6383)).tr ((dk_fr.up (T := md_T) h_6392 (by unfold md_T; omega)).eq hw_6400)).tr ((dk_fr.up (T := md_T) h_6411 (by unfold md_T; omega)).eq hw_6417)).tr ((dk_fr.up (T := md_T) h_6422 (by unfold md_T; omega)).eq hw_6434))) hP hS _ (lv_sub hl [2, 1, 3, 4, 0] rfl)
          · refine lv_aload_n hx hb de_M_crash_122 rfl (lv_at hl 0 rfl) ?_
            refine dk_get (a := h) (v := .ref D.nf) (C := kn_M) (T := kt_M) (N := 22) hx hb hts ki_M hown hK hP h_6436 rfl 9 (by decide) (hts _ wi_723) (fun _ h9 => h9) rfl de_M_crash_123 ?_
            refine lv_iload_n hx hb de_M_crash_126 rfl (lv_at hl 1 rfl) ?_
            refine dk_iald (a := D.nf) hx hb hK hP h_6438 m9 rfl (by omega) (by omega) de_M_crash_127 ?_
            rw [dk_us (w := ν.nf) (a := m9) (v := ν.nf i)]
            refine lv_istore_n (lv' := [(3, .int (nI (ν.nf i))), (0, .ref h), (1, .int (nI m9)), (2, .int (nI c9)), (4, .int (nI i))]) hx hb de_M_crash_128 rfl hl (by decide) rfl (fun ls hl => ?_)
            refine lv_iinc (v := nI (m9 + 1)) (lv' := [(1, .int (nI (m9 + 1))), (3, .int (nI (ν.nf i))), (0, .ref h), (2, .int (nI c9)), (4, .int (nI i))]) hx hb de_M_crash_129 hl (k := 2) rfl (nx_inc m9) (by decide) rfl (fun ls hl => ?_)
            refine lv_iinc (v := nI (i + 1)) (lv' := [(4, .int (nI (i + 1))), (1, .int (nI (m9 + 1))), (3, .int (nI (ν.nf i))), (0, .ref h), (2, .int (nI c9))]) hx hb de_M_crash_132 hl (k := 4) rfl (nx_inc i) (by decide) rfl (fun ls hl => ?_)
            refine lv_goto (tgt := 14) hx hb de_M_crash_135 (by decide) ?_
            have hm_6452 : md_at G w_6433 h D (((((ν.kf' (va_up ν.kf m9 (ν.kf i))).nf' (va_up ν.nf m9 (ν.nf i))).vf' (va_up ν.vf m9 (ν.vf i))).df' (va_up ν.df m9 (ν.df i))).rf' (va_up ν.rf m9 (ν.rf i))) := ⟨h_6436, h_6437, h_6438, h_6435, h_6439, h_6440, h_6441, h_6442, h_6443, h_6444, h_6445, h_6446, h_6447, h_6448, h_6449⟩
            have hcr2 : cr_f (μ.er' 0) (i + 1) = (md_cp ν m9 i, m9 + 1, c9, ν.nf i) := by rw [cr_r hcr e7, show max o9 (ν.nf i) = ν.nf i by omega]
            exact ih (i + 1) (md_cp ν m9 i) (m9 + 1) c9 (ν.nf i) (by omega) (by omega) hcr2 (⟨by omega, by omega, by omega, q4, q5⟩) (md_cp_ok hok m9 i) _ _ _ hm_6452 (hg.tr ((((((dk_fr.rf).tr ((dk_fr.up (T := md_T) hmv.kf (by unfold md_T; omega)).eq hw_6366)).tr ((dk_fr.up (T := md_T) h_6369 (by unfold md_T; omega)).eq hw_6383)).tr ((dk_fr.up (T := md_T) h_6392 (by unfold md_T; omega)).eq hw_6400)).tr ((dk_fr.up (T := md_T) h_6411 (by unfold md_T; omega)).eq hw_6417)).tr ((dk_fr.up (T := md_T) h_6422 (by unfold md_T; omega)).eq hw_6434))) hP hS _ (lv_sub hl [3, 1, 4, 2, 0] rfl)
        · have e7 : ν.rf i = none := hneg.mp (by simpa using c_6364)
          have hsl : ν.sf < 2 ^ 31 := by rw [hs9]; exact hsf
          refine lv_iload_n hx hb de_M_crash_33 rfl (lv_at hl 2 rfl) ?_
          refine lv_iinc (v := nI (c9 + 1)) (lv' := [(2, .int (nI (c9 + 1))), (0, .ref h), (1, .int (nI m9)), (3, .int (nI o9)), (4, .int (nI i))]) hx hb de_M_crash_34 hl (k := 2) rfl (nx_inc c9) (by decide) rfl (fun ls hl => ?_)
          refine lv_aload_n hx hb de_M_crash_37 rfl (lv_at hl 1 rfl) ?_
          refine dk_get (a := h) (v := .int (nI ν.sf)) (C := kn_M) (T := kt_M) (N := 22) hx hb hts ki_M hown hK hP hh_6362 rfl 3 (by decide) (hts _ wi_717) (fun _ h9 => h9) rfl de_M_crash_38 ?_
          refine nx_icmp_lt (a := c9) (b := ν.sf) (tgt := 47) hx hb (by omega) (by omega) de_M_crash_41 (by decide) (fun c_6453 => ?_) (fun c_6453 => ?_)
          · refine lv_aload_n hx hb de_M_crash_47 rfl (lv_at hl 1 rfl) ?_
            refine dk_get (a := h) (v := .ref D.kf) (C := kn_M) (T := kt_M) (N := 22) hx hb hts ki_M hown hK hP hh_6362 rfl 8 (by decide) (hts _ wi_722) (fun _ h9 => h9) rfl de_M_crash_48 ?_
            refine lv_iload_n hx hb de_M_crash_51 rfl (lv_at hl 2 rfl) ?_
            refine lv_aload_n hx hb de_M_crash_52 rfl (lv_at hl 1 rfl) ?_
            refine dk_get (a := h) (v := .ref D.kf) (C := kn_M) (T := kt_M) (N := 22) hx hb hts ki_M hown hK hP hh_6362 rfl 8 (by decide) (hts _ wi_722) (fun _ h9 => h9) rfl de_M_crash_53 ?_
            refine lv_iload hx hb de_M_crash_56 (lv_at hl 4 rfl) ?_
            refine dk_iald (a := D.kf) hx hb hK hP hmv.kf i rfl (by omega) (by omega) de_M_crash_58 ?_
            refine dk_iast (a := D.kf) (x := (nI (ν.kf i))) hx hb hK hP hS hmv.kf m9 rfl (by omega) (by omega) de_M_crash_59 (fun H locs w_6454 hw_6455 hP hS => ?_)
            rw [up_nI] at hw_6455
            have h_6456 : w_6454 D.kf = some (101, dk_ci G 700 (fun i9 => nI ((va_up ν.kf m9 (ν.kf i)) i9))) := dk_here hw_6455
            have h_6457 : w_6454 h = some (100, .inr (cx_M, [.int (nI ν.er), .int (nI ν.n), .int (nI ν.sq), .int (nI ν.sf), .int (nI ν.rs), .int (rI ν.ba), .int (nI ν.pr), .int (nI ν.mi), .ref D.kf, .ref D.nf, .ref D.rf, .ref D.lf, .ref D.sv, .ref D.bk, .ref D.od, .ref D.vf, .ref D.bv, .ref D.df, .ref D.ss, .ref D.bd, .ref D.ks, .ref D.bt])) := dk_keep hw_6455 hmv.kf hh_6362 (by decide)
            have h_6458 : w_6454 D.nf = some (102, dk_ci G 700 (fun i9 => nI (ν.nf i9))) := dk_keep hw_6455 hmv.kf hmv.nf (by decide)
            have h_6459 : w_6454 D.rf = some (103, dk_ci G 700 (fun i9 => rI (ν.rf i9))) := dk_keep hw_6455 hmv.kf hmv.rf (by decide)
            have h_6460 : w_6454 D.lf = some (104, dk_ci G 5000 (fun i9 => rI (ν.lf i9))) := dk_keep hw_6455 hmv.kf hmv.lf (by decide)
            have h_6461 : w_6454 D.sv = some (105, dk_ci G 6 (fun i9 => nI (ν.sv i9))) := dk_keep hw_6455 hmv.kf hmv.sv (by decide)
            have h_6462 : w_6454 D.bk = some (106, dk_ci G 16 (fun i9 => nI (ν.bk i9))) := dk_keep hw_6455 hmv.kf hmv.bk (by decide)
            have h_6463 : w_6454 D.od = some (107, dk_ci G 700 (fun i9 => nI (ν.od i9))) := dk_keep hw_6455 hmv.kf hmv.od (by decide)
            have h_6464 : w_6454 D.vf = some (108, dk_cl G 700 (fun i9 => ν.vf i9)) := dk_keep hw_6455 hmv.kf hmv.vf (by decide)
            have h_6465 : w_6454 D.bv = some (109, dk_cl G 16 (fun i9 => ν.bv i9)) := dk_keep hw_6455 hmv.kf hmv.bv (by decide)
            have h_6466 : w_6454 D.df = some (110, dk_cz G 700 (fun i9 => bo_i (ν.df i9))) := dk_keep hw_6455 hmv.kf hmv.df (by decide)
            have h_6467 : w_6454 D.ss = some (111, dk_cz G 6 (fun i9 => bo_i (ν.ss i9))) := dk_keep hw_6455 hmv.kf hmv.ss (by decide)
            have h_6468 : w_6454 D.bd = some (112, dk_cz G 16 (fun i9 => bo_i (ν.bd i9))) := dk_keep hw_6455 hmv.kf hmv.bd (by decide)
            have h_6469 : w_6454 D.ks = some (113, dk_cz G 700 (fun i9 => bo_i (ν.ks i9))) := dk_keep hw_6455 hmv.kf hmv.ks (by decide)
            have h_6470 : w_6454 D.bt = some (114, dk_cz G 6000 (fun i9 => bo_i (ν.bt i9))) := dk_keep hw_6455 hmv.kf hmv.bt (by decide)
            refine lv_aload_n hx hb de_M_crash_60 rfl (lv_at hl 1 rfl) ?_
            refine dk_get (a := h) (v := .ref D.nf) (C := kn_M) (T := kt_M) (N := 22) hx hb hts ki_M hown hK hP h_6457 rfl 9 (by decide) (hts _ wi_723) (fun _ h9 => h9) rfl de_M_crash_61 ?_
            refine lv_iload_n hx hb de_M_crash_64 rfl (lv_at hl 2 rfl) ?_
            refine lv_aload_n hx hb de_M_crash_65 rfl (lv_at hl 1 rfl) ?_
            refine dk_get (a := h) (v := .ref D.nf) (C := kn_M) (T := kt_M) (N := 22) hx hb hts ki_M hown hK hP h_6457 rfl 9 (by decide) (hts _ wi_723) (fun _ h9 => h9) rfl de_M_crash_66 ?_
            refine lv_iload hx hb de_M_crash_69 (lv_at hl 4 rfl) ?_
            refine dk_iald (a := D.nf) hx hb hK hP h_6458 i rfl (by omega) (by omega) de_M_crash_71 ?_
            refine dk_iast (a := D.nf) (x := (nI (ν.nf i))) hx hb hK hP hS h_6458 m9 rfl (by omega) (by omega) de_M_crash_72 (fun H locs w_6471 hw_6472 hP hS => ?_)
            rw [up_nI] at hw_6472
            have h_6473 : w_6471 D.nf = some (102, dk_ci G 700 (fun i9 => nI ((va_up ν.nf m9 (ν.nf i)) i9))) := dk_here hw_6472
            have h_6474 : w_6471 h = some (100, .inr (cx_M, [.int (nI ν.er), .int (nI ν.n), .int (nI ν.sq), .int (nI ν.sf), .int (nI ν.rs), .int (rI ν.ba), .int (nI ν.pr), .int (nI ν.mi), .ref D.kf, .ref D.nf, .ref D.rf, .ref D.lf, .ref D.sv, .ref D.bk, .ref D.od, .ref D.vf, .ref D.bv, .ref D.df, .ref D.ss, .ref D.bd, .ref D.ks, .ref D.bt])) := dk_keep hw_6472 h_6458 h_6457 (by decide)
            have h_6475 : w_6471 D.kf = some (101, dk_ci G 700 (fun i9 => nI ((va_up ν.kf m9 (ν.kf i)) i9))) := dk_keep hw_6472 h_6458 h_6456 (by decide)
            have h_6476 : w_6471 D.rf = some (103, dk_ci G 700 (fun i9 => rI (ν.rf i9))) := dk_keep hw_6472 h_6458 h_6459 (by decide)
            have h_6477 : w_6471 D.lf = some (104, dk_ci G 5000 (fun i9 => rI (ν.lf i9))) := dk_keep hw_6472 h_6458 h_6460 (by decide)
            have h_6478 : w_6471 D.sv = some (105, dk_ci G 6 (fun i9 => nI (ν.sv i9))) := dk_keep hw_6472 h_6458 h_6461 (by decide)
            have h_6479 : w_6471 D.bk = some (106, dk_ci G 16 (fun i9 => nI (ν.bk i9))) := dk_keep hw_6472 h_6458 h_6462 (by decide)
            have h_6480 : w_6471 D.od = some (107, dk_ci G 700 (fun i9 => nI (ν.od i9))) := dk_keep hw_6472 h_6458 h_6463 (by decide)
            have h_6481 : w_6471 D.vf = some (108, dk_cl G 700 (fun i9 => ν.vf i9)) := dk_keep hw_6472 h_6458 h_6464 (by decide)
            have h_6482 : w_6471 D.bv = some (109, dk_cl G 16 (fun i9 => ν.bv i9)) := dk_keep hw_6472 h_6458 h_6465 (by decide)
            have h_6483 : w_6471 D.df = some (110, dk_cz G 700 (fun i9 => bo_i (ν.df i9))) := dk_keep hw_6472 h_6458 h_6466 (by decide)
            have h_6484 : w_6471 D.ss = some (111, dk_cz G 6 (fun i9 => bo_i (ν.ss i9))) := dk_keep hw_6472 h_6458 h_6467 (by decide)
            have h_6485 : w_6471 D.bd = some (112, dk_cz G 16 (fun i9 => bo_i (ν.bd i9))) := dk_keep hw_6472 h_6458 h_6468 (by decide)
            have h_6486 : w_6471 D.ks = some (113, dk_cz G 700 (fun i9 => bo_i (ν.ks i9))) := dk_keep hw_6472 h_6458 h_6469 (by decide)
            have h_6487 : w_6471 D.bt = some (114, dk_cz G 6000 (fun i9 => bo_i (ν.bt i9))) := dk_keep hw_6472 h_6458 h_6470 (by decide)
            refine lv_aload_n hx hb de_M_crash_73 rfl (lv_at hl 1 rfl) ?_
            refine dk_get (a := h) (v := .ref D.vf) (C := kn_M) (T := kt_M) (N := 22) hx hb hts ki_M hown hK hP h_6474 rfl 15 (by decide) (hts _ wi_729) (fun _ h9 => h9) rfl de_M_crash_74 ?_
            refine lv_iload_n hx hb de_M_crash_77 rfl (lv_at hl 2 rfl) ?_
            refine lv_aload_n hx hb de_M_crash_78 rfl (lv_at hl 1 rfl) ?_
            refine dk_get (a := h) (v := .ref D.vf) (C := kn_M) (T := kt_M) (N := 22) hx hb hts ki_M hown hK hP h_6474 rfl 15 (by decide) (hts _ wi_729) (fun _ h9 => h9) rfl de_M_crash_79 ?_
            refine lv_iload hx hb de_M_crash_82 (lv_at hl 4 rfl) ?_
            refine dk_lald (a := D.vf) hx hb hK hP h_6481 i rfl (by omega) (by omega) de_M_crash_84 ?_
            refine dk_last (a := D.vf) (x := (ν.vf i)) hx hb hK hP hS h_6481 m9 rfl (by omega) (by omega) de_M_crash_85 (fun H locs w_6488 hw_6489 hP hS => ?_)
            rw [up_L] at hw_6489
            have h_6490 : w_6488 D.vf = some (108, dk_cl G 700 (fun i9 => (va_up ν.vf m9 (ν.vf i)) i9)) := dk_here hw_6489
            have h_6491 : w_6488 h = some (100, .inr (cx_M, [.int (nI ν.er), .int (nI ν.n), .int (nI ν.sq), .int (nI ν.sf), .int (nI ν.rs), .int (rI ν.ba), .int (nI ν.pr), .int (nI ν.mi), .ref D.kf, .ref D.nf, .ref D.rf, .ref D.lf, .ref D.sv, .ref D.bk, .ref D.od, .ref D.vf, .ref D.bv, .ref D.df, .ref D.ss, .ref D.bd, .ref D.ks, .ref D.bt])) := dk_keep hw_6489 h_6481 h_6474 (by decide)
            have h_6492 : w_6488 D.kf = some (101, dk_ci G 700 (fun i9 => nI ((va_up ν.kf m9 (ν.kf i)) i9))) := dk_keep hw_6489 h_6481 h_6475 (by decide)
            have h_6493 : w_6488 D.nf = some (102, dk_ci G 700 (fun i9 => nI ((va_up ν.nf m9 (ν.nf i)) i9))) := dk_keep hw_6489 h_6481 h_6473 (by decide)
            have h_6494 : w_6488 D.rf = some (103, dk_ci G 700 (fun i9 => rI (ν.rf i9))) := dk_keep hw_6489 h_6481 h_6476 (by decide)
            have h_6495 : w_6488 D.lf = some (104, dk_ci G 5000 (fun i9 => rI (ν.lf i9))) := dk_keep hw_6489 h_6481 h_6477 (by decide)
            have h_6496 : w_6488 D.sv = some (105, dk_ci G 6 (fun i9 => nI (ν.sv i9))) := dk_keep hw_6489 h_6481 h_6478 (by decide)
            have h_6497 : w_6488 D.bk = some (106, dk_ci G 16 (fun i9 => nI (ν.bk i9))) := dk_keep hw_6489 h_6481 h_6479 (by decide)
            have h_6498 : w_6488 D.od = some (107, dk_ci G 700 (fun i9 => nI (ν.od i9))) := dk_keep hw_6489 h_6481 h_6480 (by decide)
            have h_6499 : w_6488 D.bv = some (109, dk_cl G 16 (fun i9 => ν.bv i9)) := dk_keep hw_6489 h_6481 h_6482 (by decide)
            have h_6500 : w_6488 D.df = some (110, dk_cz G 700 (fun i9 => bo_i (ν.df i9))) := dk_keep hw_6489 h_6481 h_6483 (by decide)
            have h_6501 : w_6488 D.ss = some (111, dk_cz G 6 (fun i9 => bo_i (ν.ss i9))) := dk_keep hw_6489 h_6481 h_6484 (by decide)
            have h_6502 : w_6488 D.bd = some (112, dk_cz G 16 (fun i9 => bo_i (ν.bd i9))) := dk_keep hw_6489 h_6481 h_6485 (by decide)
            have h_6503 : w_6488 D.ks = some (113, dk_cz G 700 (fun i9 => bo_i (ν.ks i9))) := dk_keep hw_6489 h_6481 h_6486 (by decide)
            have h_6504 : w_6488 D.bt = some (114, dk_cz G 6000 (fun i9 => bo_i (ν.bt i9))) := dk_keep hw_6489 h_6481 h_6487 (by decide)
            refine lv_aload_n hx hb de_M_crash_86 rfl (lv_at hl 1 rfl) ?_
            refine dk_get (a := h) (v := .ref D.df) (C := kn_M) (T := kt_M) (N := 22) hx hb hts ki_M hown hK hP h_6491 rfl 17 (by decide) (hts _ wi_731) (fun _ h9 => h9) rfl de_M_crash_87 ?_
            refine lv_iload_n hx hb de_M_crash_90 rfl (lv_at hl 2 rfl) ?_
            refine lv_aload_n hx hb de_M_crash_91 rfl (lv_at hl 1 rfl) ?_
            refine dk_get (a := h) (v := .ref D.df) (C := kn_M) (T := kt_M) (N := 22) hx hb hts ki_M hown hK hP h_6491 rfl 17 (by decide) (hts _ wi_731) (fun _ h9 => h9) rfl de_M_crash_92 ?_
            refine lv_iload hx hb de_M_crash_95 (lv_at hl 4 rfl) ?_
            refine dk_zald (a := D.df) hx hb hK hP h_6500 i rfl (by omega) (by omega) de_M_crash_97 ?_
            refine dk_zast (a := D.df) (x := (bo_i (ν.df i))) hx hb hK hP hS h_6500 m9 rfl (by omega) (by omega) (bo_vn (ν.df i)) de_M_crash_98 (fun H locs w_6505 hw_6506 hP hS => ?_)
            rw [up_bo] at hw_6506
            have h_6507 : w_6505 D.df = some (110, dk_cz G 700 (fun i9 => bo_i ((va_up ν.df m9 (ν.df i)) i9))) := dk_here hw_6506
            have h_6508 : w_6505 h = some (100, .inr (cx_M, [.int (nI ν.er), .int (nI ν.n), .int (nI ν.sq), .int (nI ν.sf), .int (nI ν.rs), .int (rI ν.ba), .int (nI ν.pr), .int (nI ν.mi), .ref D.kf, .ref D.nf, .ref D.rf, .ref D.lf, .ref D.sv, .ref D.bk, .ref D.od, .ref D.vf, .ref D.bv, .ref D.df, .ref D.ss, .ref D.bd, .ref D.ks, .ref D.bt])) := dk_keep hw_6506 h_6500 h_6491 (by decide)
            have h_6509 : w_6505 D.kf = some (101, dk_ci G 700 (fun i9 => nI ((va_up ν.kf m9 (ν.kf i)) i9))) := dk_keep hw_6506 h_6500 h_6492 (by decide)
            have h_6510 : w_6505 D.nf = some (102, dk_ci G 700 (fun i9 => nI ((va_up ν.nf m9 (ν.nf i)) i9))) := dk_keep hw_6506 h_6500 h_6493 (by decide)
            have h_6511 : w_6505 D.rf = some (103, dk_ci G 700 (fun i9 => rI (ν.rf i9))) := dk_keep hw_6506 h_6500 h_6494 (by decide)
            have h_6512 : w_6505 D.lf = some (104, dk_ci G 5000 (fun i9 => rI (ν.lf i9))) := dk_keep hw_6506 h_6500 h_6495 (by decide)
            have h_6513 : w_6505 D.sv = some (105, dk_ci G 6 (fun i9 => nI (ν.sv i9))) := dk_keep hw_6506 h_6500 h_6496 (by decide)
            have h_6514 : w_6505 D.bk = some (106, dk_ci G 16 (fun i9 => nI (ν.bk i9))) := dk_keep hw_6506 h_6500 h_6497 (by decide)
            have h_6515 : w_6505 D.od = some (107, dk_ci G 700 (fun i9 => nI (ν.od i9))) := dk_keep hw_6506 h_6500 h_6498 (by decide)
            have h_6516 : w_6505 D.vf = some (108, dk_cl G 700 (fun i9 => (va_up ν.vf m9 (ν.vf i)) i9)) := dk_keep hw_6506 h_6500 h_6490 (by decide)
            have h_6517 : w_6505 D.bv = some (109, dk_cl G 16 (fun i9 => ν.bv i9)) := dk_keep hw_6506 h_6500 h_6499 (by decide)
            have h_6518 : w_6505 D.ss = some (111, dk_cz G 6 (fun i9 => bo_i (ν.ss i9))) := dk_keep hw_6506 h_6500 h_6501 (by decide)
            have h_6519 : w_6505 D.bd = some (112, dk_cz G 16 (fun i9 => bo_i (ν.bd i9))) := dk_keep hw_6506 h_6500 h_6502 (by decide)
            have h_6520 : w_6505 D.ks = some (113, dk_cz G 700 (fun i9 => bo_i (ν.ks i9))) := dk_keep hw_6506 h_6500 h_6503 (by decide)
            have h_6521 : w_6505 D.bt = some (114, dk_cz G 6000 (fun i9 => bo_i (ν.bt i9))) := dk_keep hw_6506 h_6500 h_6504 (by decide)
            refine lv_aload_n hx hb de_M_crash_99 rfl (lv_at hl 1 rfl) ?_
            refine dk_get (a := h) (v := .ref D.rf) (C := kn_M) (T := kt_M) (N := 22) hx hb hts ki_M hown hK hP h_6508 rfl 10 (by decide) (hts _ wi_724) (fun _ h9 => h9) rfl de_M_crash_100 ?_
            refine lv_iload_n hx hb de_M_crash_103 rfl (lv_at hl 2 rfl) ?_
            refine lv_aload_n hx hb de_M_crash_104 rfl (lv_at hl 1 rfl) ?_
            refine dk_get (a := h) (v := .ref D.rf) (C := kn_M) (T := kt_M) (N := 22) hx hb hts ki_M hown hK hP h_6508 rfl 10 (by decide) (hts _ wi_724) (fun _ h9 => h9) rfl de_M_crash_105 ?_
            refine lv_iload hx hb de_M_crash_108 (lv_at hl 4 rfl) ?_
            refine dk_iald (a := D.rf) hx hb hK hP h_6511 i rfl (by omega) (by omega) de_M_crash_110 ?_
            refine dk_iast (a := D.rf) (x := (rI (ν.rf i))) hx hb hK hP hS h_6511 m9 rfl (by omega) (by omega) de_M_crash_111 (fun H locs w_6522 hw_6523 hP hS => ?_)
            rw [up_rI] at hw_6523
            have h_6524 : w_6522 D.rf = some (103, dk_ci G 700 (fun i9 => rI ((va_up ν.rf m9 (ν.rf i)) i9))) := dk_here hw_6523
            have h_6525 : w_6522 h = some (100, .inr (cx_M, [.int (nI ν.er), .int (nI ν.n), .int (nI ν.sq), .int (nI ν.sf), .int (nI ν.rs), .int (rI ν.ba), .int (nI ν.pr), .int (nI ν.mi), .ref D.kf, .ref D.nf, .ref D.rf, .ref D.lf, .ref D.sv, .ref D.bk, .ref D.od, .ref D.vf, .ref D.bv, .ref D.df, .ref D.ss, .ref D.bd, .ref D.ks, .ref D.bt])) := dk_keep hw_6523 h_6511 h_6508 (by decide)
            have h_6526 : w_6522 D.kf = some (101, dk_ci G 700 (fun i9 => nI ((va_up ν.kf m9 (ν.kf i)) i9))) := dk_keep hw_6523 h_6511 h_6509 (by decide)
            have h_6527 : w_6522 D.nf = some (102, dk_ci G 700 (fun i9 => nI ((va_up ν.nf m9 (ν.nf i)) i9))) := dk_keep hw_6523 h_6511 h_6510 (by decide)
            have h_6528 : w_6522 D.lf = some (104, dk_ci G 5000 (fun i9 => rI (ν.lf i9))) := dk_keep hw_6523 h_6511 h_6512 (by decide)
            have h_6529 : w_6522 D.sv = some (105, dk_ci G 6 (fun i9 => nI (ν.sv i9))) := dk_keep hw_6523 h_6511 h_6513 (by decide)
            have h_6530 : w_6522 D.bk = some (106, dk_ci G 16 (fun i9 => nI (ν.bk i9))) := dk_keep hw_6523 h_6511 h_6514 (by decide)
            have h_6531 : w_6522 D.od = some (107, dk_ci G 700 (fun i9 => nI (ν.od i9))) := dk_keep hw_6523 h_6511 h_6515 (by decide)
            have h_6532 : w_6522 D.vf = some (108, dk_cl G 700 (fun i9 => (va_up ν.vf m9 (ν.vf i)) i9)) := dk_keep hw_6523 h_6511 h_6516 (by decide)
            have h_6533 : w_6522 D.bv = some (109, dk_cl G 16 (fun i9 => ν.bv i9)) := dk_keep hw_6523 h_6511 h_6517 (by decide)
            have h_6534 : w_6522 D.df = some (110, dk_cz G 700 (fun i9 => bo_i ((va_up ν.df m9 (ν.df i)) i9))) := dk_keep hw_6523 h_6511 h_6507 (by decide)
            have h_6535 : w_6522 D.ss = some (111, dk_cz G 6 (fun i9 => bo_i (ν.ss i9))) := dk_keep hw_6523 h_6511 h_6518 (by decide)
            have h_6536 : w_6522 D.bd = some (112, dk_cz G 16 (fun i9 => bo_i (ν.bd i9))) := dk_keep hw_6523 h_6511 h_6519 (by decide)
            have h_6537 : w_6522 D.ks = some (113, dk_cz G 700 (fun i9 => bo_i (ν.ks i9))) := dk_keep hw_6523 h_6511 h_6520 (by decide)
            have h_6538 : w_6522 D.bt = some (114, dk_cz G 6000 (fun i9 => bo_i (ν.bt i9))) := dk_keep hw_6523 h_6511 h_6521 (by decide)
            refine lv_aload_n hx hb de_M_crash_112 rfl (lv_at hl 1 rfl) ?_
            refine dk_get (a := h) (v := .ref D.nf) (C := kn_M) (T := kt_M) (N := 22) hx hb hts ki_M hown hK hP h_6525 rfl 9 (by decide) (hts _ wi_723) (fun _ h9 => h9) rfl de_M_crash_113 ?_
            refine lv_iload_n hx hb de_M_crash_116 rfl (lv_at hl 2 rfl) ?_
            refine dk_iald (a := D.nf) hx hb hK hP h_6527 m9 rfl (by omega) (by omega) de_M_crash_117 ?_
            rw [dk_us (w := ν.nf) (a := m9) (v := ν.nf i)]
            refine lv_iload_n hx hb de_M_crash_118 rfl (lv_at hl 3 rfl) ?_
            refine nx_icmp_le (a := ν.nf i) (b := o9) (tgt := 129) hx hb (by omega) (by omega) de_M_crash_119 (by decide) (fun c_6539 => ?_) (fun c_6539 => ?_)
            · refine lv_iinc (v := nI (m9 + 1)) (lv' := [(1, .int (nI (m9 + 1))), (2, .int (nI (c9 + 1))), (0, .ref h), (3, .int (nI o9)), (4, .int (nI i))]) hx hb de_M_crash_129 hl (k := 2) rfl (nx_inc m9) (by decide) rfl (fun ls hl => ?_)
              refine lv_iinc (v := nI (i + 1)) (lv' := [(4, .int (nI (i + 1))), (1, .int (nI (m9 + 1))), (2, .int (nI (c9 + 1))), (0, .ref h), (3, .int (nI o9))]) hx hb de_M_crash_132 hl (k := 4) rfl (nx_inc i) (by decide) rfl (fun ls hl => ?_)
              refine lv_goto (tgt := 14) hx hb de_M_crash_135 (by decide) ?_
              have hm_6540 : md_at G w_6522 h D (((((ν.kf' (va_up ν.kf m9 (ν.kf i))).nf' (va_up ν.nf m9 (ν.nf i))).vf' (va_up ν.vf m9 (ν.vf i))).df' (va_up ν.df m9 (ν.df i))).rf' (va_up ν.rf m9 (ν.rf i))) := ⟨h_6525, h_6526, h_6527, h_6524, h_6528, h_6529, h_6530, h_6531, h_6532, h_6533, h_6534, h_6535, h_6536, h_6537, h_6538⟩
              have hcr2 : cr_f (μ.er' 0) (i + 1) = (md_cp ν m9 i, m9 + 1, c9 + 1, o9) := by rw [cr_k hcr e7 (by show c9 < μ.sf; omega), show max o9 (ν.nf i) = o9 by omega]
              exact ih (i + 1) (md_cp ν m9 i) (m9 + 1) (c9 + 1) o9 (by omega) (by omega) hcr2 (⟨by omega, by omega, by omega, q4, q5⟩) (md_cp_ok hok m9 i) _ _ _ hm_6540 (hg.tr ((((((dk_fr.rf).tr ((dk_fr.up (T := md_T) hmv.kf (by unfold md_T; omega)).eq hw_6455)).tr ((dk_fr.up (T := md_T) h_6458 (by unfold md_T; omega)).eq hw_6472)).tr ((dk_fr.up (T := md_T) h_6481 (by unfold md_T; omega)).eq hw_6489)).tr ((dk_fr.up (T := md_T) h_6500 (by unfold md_T; omega)).eq hw_6506)).tr ((dk_fr.up (T := md_T) h_6511 (by unfold md_T; omega)).eq hw_6523))) hP hS _ (lv_sub hl [3, 1, 2, 4, 0] rfl)
            · refine lv_aload_n hx hb de_M_crash_122 rfl (lv_at hl 1 rfl) ?_
              refine dk_get (a := h) (v := .ref D.nf) (C := kn_M) (T := kt_M) (N := 22) hx hb hts ki_M hown hK hP h_6525 rfl 9 (by decide) (hts _ wi_723) (fun _ h9 => h9) rfl de_M_crash_123 ?_
              refine lv_iload_n hx hb de_M_crash_126 rfl (lv_at hl 2 rfl) ?_
              refine dk_iald (a := D.nf) hx hb hK hP h_6527 m9 rfl (by omega) (by omega) de_M_crash_127 ?_
              rw [dk_us (w := ν.nf) (a := m9) (v := ν.nf i)]
              refine lv_istore_n (lv' := [(3, .int (nI (ν.nf i))), (2, .int (nI (c9 + 1))), (0, .ref h), (1, .int (nI m9)), (4, .int (nI i))]) hx hb de_M_crash_128 rfl hl (by decide) rfl (fun ls hl => ?_)
              refine lv_iinc (v := nI (m9 + 1)) (lv' := [(1, .int (nI (m9 + 1))), (3, .int (nI (ν.nf i))), (2, .int (nI (c9 + 1))), (0, .ref h), (4, .int (nI i))]) hx hb de_M_crash_129 hl (k := 3) rfl (nx_inc m9) (by decide) rfl (fun ls hl => ?_)
              refine lv_iinc (v := nI (i + 1)) (lv' := [(4, .int (nI (i + 1))), (1, .int (nI (m9 + 1))), (3, .int (nI (ν.nf i))), (2, .int (nI (c9 + 1))), (0, .ref h)]) hx hb de_M_crash_132 hl (k := 4) rfl (nx_inc i) (by decide) rfl (fun ls hl => ?_)
              refine lv_goto (tgt := 14) hx hb de_M_crash_135 (by decide) ?_
              have hm_6541 : md_at G w_6522 h D (((((ν.kf' (va_up ν.kf m9 (ν.kf i))).nf' (va_up ν.nf m9 (ν.nf i))).vf' (va_up ν.vf m9 (ν.vf i))).df' (va_up ν.df m9 (ν.df i))).rf' (va_up ν.rf m9 (ν.rf i))) := ⟨h_6525, h_6526, h_6527, h_6524, h_6528, h_6529, h_6530, h_6531, h_6532, h_6533, h_6534, h_6535, h_6536, h_6537, h_6538⟩
              have hcr2 : cr_f (μ.er' 0) (i + 1) = (md_cp ν m9 i, m9 + 1, c9 + 1, ν.nf i) := by rw [cr_k hcr e7 (by show c9 < μ.sf; omega), show max o9 (ν.nf i) = ν.nf i by omega]
              exact ih (i + 1) (md_cp ν m9 i) (m9 + 1) (c9 + 1) (ν.nf i) (by omega) (by omega) hcr2 (⟨by omega, by omega, by omega, q4, q5⟩) (md_cp_ok hok m9 i) _ _ _ hm_6541 (hg.tr ((((((dk_fr.rf).tr ((dk_fr.up (T := md_T) hmv.kf (by unfold md_T; omega)).eq hw_6455)).tr ((dk_fr.up (T := md_T) h_6458 (by unfold md_T; omega)).eq hw_6472)).tr ((dk_fr.up (T := md_T) h_6481 (by unfold md_T; omega)).eq hw_6489)).tr ((dk_fr.up (T := md_T) h_6500 (by unfold md_T; omega)).eq hw_6506)).tr ((dk_fr.up (T := md_T) h_6511 (by unfold md_T; omega)).eq hw_6523))) hP hS _ (lv_sub hl [4, 1, 3, 2, 0] rfl)
          · refine lv_goto (tgt := 132) hx hb de_M_crash_44 (by decide) ?_
            refine lv_iinc (v := nI (i + 1)) (lv' := [(4, .int (nI (i + 1))), (2, .int (nI (c9 + 1))), (0, .ref h), (1, .int (nI m9)), (3, .int (nI o9))]) hx hb de_M_crash_132 hl (k := 4) rfl (nx_inc i) (by decide) rfl (fun ls hl => ?_)
            refine lv_goto (tgt := 14) hx hb de_M_crash_135 (by decide) ?_
            exact ih (i + 1) ν m9 (c9 + 1) o9 (by omega) (by omega) (by rw [cr_d hcr e7 (by show μ.sf ≤ c9; omega)]) (⟨by omega, by omega, by omega, q4, q5⟩) hok _ _ _ hmv hg hP hS _ (lv_sub hl [2, 3, 1, 4, 0] rfl)
  exact lp (μ.n + 1) 0 (μ.er' 0) 0 0 0 (by omega) (Nat.zero_le _) rfl (⟨by omega, by omega, by omega, rfl, rfl⟩) hmo0 _ _ _ hm_6346 ((dk_fr.rf).tr ((dk_fr.up (T := md_T) hh_6328 (by unfold md_T; omega)).eq hw_6330)) hP hS _ (lv_sub hl [4, 3, 2, 1, 0] rfl)
