/-! RunKeeperLaw: the loop over the calls (printed by gen/c_law4.py) -/
theorem lw_go {L c9 : Nat} (hL : L ≤ 2560) (h : ¬ Int32.ofNat L - nI 5 < nI (5 * c9)) (hc : c9 ≤ 512) : 5 * c9 + 5 ≤ L := by
  refine Nat.not_lt.mp fun z => h (Int32.lt_iff_toInt_lt.mpr ?_)
  rw [show Int32.ofNat L - nI 5 = nI L - nI 5 from rfl, pk_sub_toInt (by omega) (by omega), nI_toInt (by omega)]
  omega
theorem lw_st {G : dk_G} {v : dk_H} {h a o c9 st : Nat} {D : kp_D} {DM : md_D} (hs : lw_S G v h a o D DM c9 st) : 3 * st ≤ c9 := by
  obtain ⟨σ, μ, f, h1, h2, h3, h4, b1, b2, b3⟩ := hs
  omega
theorem lw_same {G : dk_G} {v : dk_H} {h a o c9 st : Nat} {D : kp_D} {DM : md_D} (hs : lw_S G v h a o D DM c9 st) : lw_S G v h a o D DM (c9 + 1) st := by
  obtain ⟨σ, μ, f, h1, h2, h3, h4, h5⟩ := hs
  exact ⟨σ, μ, f, h1, h2, h3, h4, bu_same h5 rfl rfl (Nat.le_refl _)⟩
set_option maxHeartbeats 4000000 in
set_option maxRecDepth 100000 in
theorem lw_loop {p : Program} {l : Launch} {e : Env} {s : State} {m : MethodId} {args : Array Value} {below : List Frame} {meth : Method} {c : Code} {Q : State → Prop} {G : dk_G} {b L : Nat} {xs : Nat → Int32} {h a o : Nat} {D : kp_D} {DM : md_D} (hx : p.tables.exec = Jvm.exec) (hb : c.code = code) (hml : c.maxLocals = 8) (hown : s.vm.findClass "RunKeeperLaw" = some m.cls) (hts : ∀ w ∈ wd_all, w.before args s = true) (hE : dk_E G s) (hX : va_X b L xs s s.heap) (hbl : b < s.heap.size) (hbA : ¬ dk_A G b) (hL9 : L ≤ 2560) (hlt : l.stackTraces = false) (KX : ∀ (H1 : Heap) (locs1 : List Loc) (ls1 : Array Slot), dk_S G s.heap H1 locs1 → W p l e room_1 s m args below meth c H1 locs1 601024 7293034 Q (F0 m 836 ls1 [])) : ∀ (n c9 st : Nat) (H : Heap) (locs : List Loc) (ls : Array Slot) (w : dk_H), c9 + n = 513 → 5 * c9 ≤ L → lw_S G w h a o D DM c9 st → dk_P G w H → dk_S G s.heap H locs → lv_has ls 8 [(0, .ref b), (1, .ref h), (2, .ref a), (3, .ref o), (4, .int (nI (5 * c9)))] → W p l e room_1 s m args below meth c H locs (100 + 24 * c9 + 5 * st) (30000 + 1650 * c9 + 1579 * st) Q (F0 m 23 ls []) := by
  intro n
  induction n with
  | zero => intro c9 st H locs ls w hn hc; omega
  | succ n ih =>
    intro c9 st H locs ls w hn hc hst hP hS hl
    have h3 := lw_st hst
    refine lv_iload hx hb de_L_law_23 (lv_at hl 4 rfl) ?_
    refine lv_aload_n hx hb de_L_law_25 rfl (lv_at hl 0 rfl) ?_
    refine va_slen hx hb hX hbl hbA hS de_L_law_26 ?_
    refine lv_iconst (v := nI 5) hx hb de_L_law_27 (by decide) ?_
    refine lv_isub hx hb de_L_law_28 ?_
    refine lv_icmp_gt (tgt := 836) hx hb de_L_law_29 (by decide) (fun _ => W.widen (by omega) (by omega) (KX _ _ _ hS)) (fun h5 => ?_)
    have hi : 5 * c9 + 5 ≤ L := lw_go hL9 h5 (by omega)
    have hc9 : c9 < 512 := by omega
    have KK : ∀ (st1 : Nat) (v1 : dk_H) (H1 : Heap) (locs1 : List Loc) (ls1 : Array Slot), lw_S G v1 h a o D DM (c9 + 1) st1 → dk_P G v1 H1 → dk_S G s.heap H1 locs1 → lv_has ls1 8 [(0, .ref b), (1, .ref h), (2, .ref a), (3, .ref o), (4, .int (nI (5 * c9)))] → W p l e room_1 s m args below meth c H1 locs1 (100 + 24 * (c9 + 1) + 5 * st1) (30000 + 1650 * (c9 + 1) + 1579 * st1) Q (F0 m 830 ls1 []) := by
      intro st1 v1 H1 locs1 ls1 hs1 hP1 hS1 hl1
      refine lv_iinc (v := nI (5 * (c9 + 1))) (lv' := [(4, .int (nI (5 * (c9 + 1)))), (0, .ref b), (1, .ref h), (2, .ref a), (3, .ref o)]) hx hb de_L_law_830 hl1 (k := 4) rfl (nI_add (5 * c9) 5) (by decide) rfl (fun ls2 hl2 => ?_)
      refine lv_goto (tgt := 23) hx hb de_L_law_833 (by decide) ?_
      exact ih (c9 + 1) st1 H1 locs1 ls2 v1 (by omega) (by omega) hs1 hP1 hS1 (lv_sub hl2 [1, 2, 3, 4, 0] rfl)
    refine lv_aload_n hx hb de_L_law_32 rfl (lv_at hl 0 rfl) ?_
    refine lv_iload hx hb de_L_law_33 (lv_at hl 4 rfl) ?_
    refine lw_ld hx hb hX hbl hbA hS (j := 5 * c9) (by omega) (by omega) de_L_law_35 ?_
    refine lv_bipush (v := nI 15) hx hb de_L_law_36 (by decide) ?_
    refine lv_iand hx hb de_L_law_38 ?_
    obtain ⟨j, hj, ej⟩ := vp_in_of (pk_andIn (xs (5 * c9)) (m := nI 15) 4 (by decide) (by decide)) (by decide)
    rw [ej]
    match j, hj with
    | 0, _ =>
      refine lv_tableIn (off := 69) (tgt := 108) hx hb de_L_law_39 (by decide) (by decide) (by decide) (by decide) ?_
      exact lc_put hx hb hml hown hts hE hX hbl hbA hi hL9 hP hS hl hlt hc9 hst KK
    | 1, _ =>
      refine lv_tableIn (off := 169) (tgt := 208) hx hb de_L_law_39 (by decide) (by decide) (by decide) (by decide) ?_
      exact lc_delete hx hb hml hown hts hE hX hbl hbA hi hL9 hP hS hl hlt hc9 hst KK
    | 2, _ =>
      refine lv_tableIn (off := 225) (tgt := 264) hx hb de_L_law_39 (by decide) (by decide) (by decide) (by decide) ?_
      exact lc_batch hx hb hml hown hts hE hX hbl hbA hi hL9 hP hS hl hlt hc9 hst KK
    | 3, _ =>
      refine lv_tableIn (off := 249) (tgt := 288) hx hb de_L_law_39 (by decide) (by decide) (by decide) (by decide) ?_
      exact lc_end hx hb hml hown hts hE hX hbl hbA hi hL9 hP hS hl hlt hc9 hst (decide (¬ xs (5 * c9 + 1) = 0)) (by simp) KK
    | 4, _ =>
      refine lv_tableIn (off := 321) (tgt := 360) hx hb de_L_law_39 (by decide) (by decide) (by decide) (by decide) ?_
      exact lc_sync hx hb hml hown hts hE hX hbl hbA hi hL9 hP hS hl hlt hc9 hst KK
    | 5, _ =>
      refine lv_tableIn (off := 334) (tgt := 373) hx hb de_L_law_39 (by decide) (by decide) (by decide) (by decide) ?_
      exact lc_flush hx hb hml hown hts hE hX hbl hbA hi hL9 hP hS hl hlt hc9 hst KK
    | 6, _ =>
      refine lv_tableIn (off := 347) (tgt := 386) hx hb de_L_law_39 (by decide) (by decide) (by decide) (by decide) ?_
      exact lc_merge hx hb hml hown hts hE hX hbl hbA hi hL9 hP hS hl hlt hc9 hst KK
    | 7, _ =>
      refine lv_tableIn (off := 403) (tgt := 442) hx hb de_L_law_39 (by decide) (by decide) (by decide) (by decide) ?_
      exact lc_crash hx hb hml hown hts hE hX hbl hbA hi hL9 hP hS hl hlt hc9 hst KK
    | 8, _ =>
      refine lv_tableIn (off := 416) (tgt := 455) hx hb de_L_law_39 (by decide) (by decide) (by decide) (by decide) ?_
      exact lc_snapshot hx hb hml hown hts hE hX hbl hbA hi hL9 hP hS hl hlt hc9 hst KK
    | 9, _ =>
      refine lv_tableIn (off := 460) (tgt := 499) hx hb de_L_law_39 (by decide) (by decide) (by decide) (by decide) ?_
      exact lc_release hx hb hml hown hts hE hX hbl hbA hi hL9 hP hS hl hlt hc9 hst KK
    | 10, _ =>
      refine lv_tableIn (off := 496) (tgt := 535) hx hb de_L_law_39 (by decide) (by decide) (by decide) (by decide) ?_
      exact lc_get hx hb hml hown hts hE hX hbl hbA hi hL9 hP hS hl hlt hc9 hst KK
    | 11, _ =>
      refine lv_tableIn (off := 563) (tgt := 602) hx hb de_L_law_39 (by decide) (by decide) (by decide) (by decide) ?_
      exact lc_next hx hb hml hown hts hE hX hbl hbA hi hL9 hP hS hl hlt hc9 hst KK
    | 12, _ =>
      refine lv_tableIn (off := 631) (tgt := 670) hx hb de_L_law_39 (by decide) (by decide) (by decide) (by decide) ?_
      exact lc_entry hx hb hml hown hts hE hX hbl hbA hi hL9 hP hS hl hlt hc9 hst KK
    | 13, _ =>
      refine lv_tableIn (off := 723) (tgt := 762) hx hb de_L_law_39 (by decide) (by decide) (by decide) (by decide) ?_
      exact lc_count hx hb hml hown hts hE hX hbl hbA hi hL9 hP hS hl hlt hc9 hst KK
    | 14, _ =>
      refine lv_tableOut (tgt := 830) hx hb de_L_law_39 (Or.inr (by decide)) (by decide) ?_
      exact W.widen (by omega) (by omega) (KK st _ _ _ _ (lw_same hst) hP hS hl)
    | 15, _ =>
      refine lv_tableOut (tgt := 830) hx hb de_L_law_39 (Or.inr (by decide)) (by decide) ?_
      exact W.widen (by omega) (by omega) (KK st _ _ _ _ (lw_same hst) hP hS hl)
    | k + 16, h16 => exact absurd h16 (by omega)
