/-! RunKeeperLaw: what each kind of call does (printed by gen/c_law2.py) -/
abbrev lw_z (u v : Int32) : Int64 := (u.toInt64 <<< ((nI 32).toInt64 &&& 63)) ||| (v.toInt64 &&& 4294967295)
theorem lw_cmp (u : Int64) : lg_cmp u u = 0 := by simp [lg_cmp]
theorem lw_ld {p : Program} {l : Launch} {e : Env} {R : Room} {s : State} {m : MethodId} {args : Array Value} {below : List Frame} {meth : Method} {c : Code} {H : Heap} {locs : List Loc} {cells slots : Nat} {Q : State → Prop} {cc : ByteArray} {pc : Nat} {ls : Array Slot} {rest : List Value} {A : Nat → Prop} {H0 : Heap} (hx : p.tables.exec = Jvm.exec) (hb : c.code = cc) {b L : Nat} {xs : Nat → Int32} (hX : va_X b L xs s H0) (hbl : b < H0.size) (hbA : ¬ A b) (hS : va_S A H0 H locs) {j : Nat} (hj : j < L) (hL : L < 2 ^ 31) (hdg : decode cc pc = .ok (.iaload, 1))
    (kk : W p l e R s m args below meth c H locs cells slots Q (F0 m (pc + 1) ls (.int (xs j) :: rest))) : W p l e R s m args below meth c H locs cells slots Q (F0 m pc ls (.int (nI j) :: .ref b :: rest)) := by
  refine va_sld hx hb hX hbl hbA hS (i := nI j) (vp_in_nI hj hL) hdg ?_
  rw [nI_clamp (by omega)]
  exact kk
/-- both states, where they lie, behind c9 calls with st steps of merging -/
def lw_S (G : dk_G) (v : dk_H) (h a o : Nat) (D : kp_D) (DM : md_D) (c9 st : Nat) : Prop := ∃ (σ : kp_S) (μ : md_S) (f : Nat → Int64), kp_at G v h D σ ∧ md_at G v a DM μ ∧ v o = some (90, dk_cl G 1 f) ∧ rl_at σ μ ∧ bu_ok σ μ c9 st
set_option maxHeartbeats 4000000 in
set_option maxRecDepth 100000 in
theorem lw_put {p : Program} {l : Launch} {e : Env} {s : State} {m : MethodId} {args : Array Value} {below : List Frame} {meth : Method} {c : Code} {Q : State → Prop} {G : dk_G} {H : Heap} {locs : List Loc} {ls : Array Slot} {b L : Nat} {xs : Nat → Int32} {w : dk_H} {h a o c9 st : Nat} {D : kp_D} {DM : md_D} (hx : p.tables.exec = Jvm.exec) (hb : c.code = code) (hml : c.maxLocals = 8) (hown : s.vm.findClass "RunKeeperLaw" = some m.cls) (hts : ∀ w ∈ wd_all, w.before args s = true) (hE : dk_E G s) (hX : va_X b L xs s s.heap) (hbl : b < s.heap.size) (hbA : ¬ dk_A G b) (hi : 5 * c9 + 5 ≤ L) (hL9 : L ≤ 2560) (hP : dk_P G w H) (hS : dk_S G s.heap H locs) (hl : lv_has ls 8 [(0, .ref b), (1, .ref h), (2, .ref a), (3, .ref o), (4, .int (nI (5 * c9)))]) (kk : Nat) (hkk : kk < 3) (rmL : Room) (mcL msL : Nat) (post1 : dk_H → Prop) (hLc : dk_Mi l my_L_put (wd_h my_L_put mb_L_put 6 (some .int) [(0, 11, 14, 13), (0, 11, 18, 15)]) rmL G w [.ref h, .int (xs (5 * c9 + 1)), .long (lw_z (xs (5 * c9 + 2)) (xs (5 * c9 + 3))), .ref o] (fun r u => r = nI kk ∧ post1 u) mcL msL) (hrc : rmL.cells = mcL) (hrs : rmL.slots = msL) (hRf : rmL.frames + 1 ≤ 15) (hRl : 8 + (6 + 11) + rmL.locals ≤ 584) (hc1 : (100 + 24 * c9 + 5 * st) + mcL ≤ 601024) (hc2 : (30000 + 1650 * c9 + 1579 * st) + msL ≤ 7293034) (post2 : dk_H → Int32 → dk_H → Prop) (hMc : ∀ u, post1 u → (∃ fs, u a = some (100, .inr (cx_M, fs))) ∧ dk_Mi l my_M_put (wd_c my_M_put mb_M_put 4 (some .int)) rm_M_put G u [.ref a, .int (xs (5 * c9 + 1)), .long (lw_z (xs (5 * c9 + 2)) (xs (5 * c9 + 3)))] (post2 u) 0 0) (hfin : ∀ u r v, post1 u → post2 u r v → (∃ μ2, md_at G v a DM μ2 ∧ μ2.er = kk) ∧ (kk = 0 → ∃ f, v o = some (90, dk_cl G 1 f) ∧ f 0 = r.toInt64) ∧ ∃ st1, lw_S G v h a o D DM (c9 + 1) st1 ∧ (100 + 24 * c9 + 5 * st) + mcL ≤ (100 + 24 * (c9 + 1) + 5 * st1) ∧ (30000 + 1650 * c9 + 1579 * st) + msL ≤ (30000 + 1650 * (c9 + 1) + 1579 * st1)) (KK : ∀ (st1 : Nat) (v1 : dk_H) (H1 : Heap) (locs1 : List Loc) (ls1 : Array Slot), lw_S G v1 h a o D DM (c9 + 1) st1 → dk_P G v1 H1 → dk_S G s.heap H1 locs1 → lv_has ls1 8 [(0, .ref b), (1, .ref h), (2, .ref a), (3, .ref o), (4, .int (nI (5 * c9)))] → W p l e room_1 s m args below meth c H1 locs1 (100 + 24 * (c9 + 1) + 5 * st1) (30000 + 1650 * (c9 + 1) + 1579 * st1) Q (F0 m 830 ls1 [])) : W p l e room_1 s m args below meth c H locs (100 + 24 * c9 + 5 * st) (30000 + 1650 * c9 + 1579 * st) Q (F0 m 108 ls []) := by
  have hK := hE.1
  have hN := hE.2.1
  refine lv_aload_n hx hb de_L_law_108 rfl (lv_at hl 1 rfl) ?_
  refine lv_aload_n hx hb de_L_law_109 rfl (lv_at hl 0 rfl) ?_
  refine lv_iload hx hb de_L_law_110 (lv_at hl 4 rfl) ?_
  refine lv_iconst (v := nI 1) hx hb de_L_law_112 (by decide) ?_
  refine nx_iadd (a := 5 * c9) (b := 1) hx hb de_L_law_113 ?_
  refine lw_ld hx hb hX hbl hbA hS (j := 5 * c9 + 1) (by omega) (by omega) de_L_law_114 ?_
  refine lv_aload_n hx hb de_L_law_115 rfl (lv_at hl 0 rfl) ?_
  refine lv_iload hx hb de_L_law_116 (lv_at hl 4 rfl) ?_
  refine lv_iconst (v := nI 2) hx hb de_L_law_118 (by decide) ?_
  refine nx_iadd (a := 5 * c9) (b := 2) hx hb de_L_law_119 ?_
  refine lw_ld hx hb hX hbl hbA hS (j := 5 * c9 + 2) (by omega) (by omega) de_L_law_120 ?_
  refine lv_i2l (v := (xs (5 * c9 + 2)).toInt64) hx hb de_L_law_121 rfl ?_
  refine lv_bipush (v := nI 32) hx hb de_L_law_122 (by decide) ?_
  refine lv_lshl (v := ((xs (5 * c9 + 2)).toInt64) <<< ((nI 32).toInt64 &&& 63)) hx hb de_L_law_124 rfl ?_
  refine lv_aload_n hx hb de_L_law_125 rfl (lv_at hl 0 rfl) ?_
  refine lv_iload hx hb de_L_law_126 (lv_at hl 4 rfl) ?_
  refine lv_iconst (v := nI 3) hx hb de_L_law_128 (by decide) ?_
  refine nx_iadd (a := 5 * c9) (b := 3) hx hb de_L_law_129 ?_
  refine lw_ld hx hb hX hbl hbA hS (j := 5 * c9 + 3) (by omega) (by omega) de_L_law_130 ?_
  refine lv_i2l (v := (xs (5 * c9 + 3)).toInt64) hx hb de_L_law_131 rfl ?_
  refine lv_ldc2 (v := 4294967295) hx hb hown (hts _ wi_915) de_L_law_132 ?_
  refine lv_land hx hb de_L_law_135 ?_
  refine lv_lor hx hb de_L_law_136 ?_
  refine lv_aload_n hx hb de_L_law_137 rfl (lv_at hl 3 rfl) ?_
  refine dk_calli (dk_runH (n := 4) (As := [.ref h, .int (xs (5 * c9 + 1)), .long ((((xs (5 * c9 + 2)).toInt64) <<< ((nI 32).toInt64 &&& 63)) ||| (((xs (5 * c9 + 3)).toInt64) &&& 4294967295)), .ref o]) (rest := []) ⟨hx, hb, hml, hown, hts⟩ hLc cwi_put wi_326 wi_327 wi_0 hrc hrs ⟨hRf, hRl⟩ (by decide +kernel) (dk_preS hE hP hS) rfl rfl hl.1 rfl (lv_room (Nat.le_of_ble_eq_true rfl)) de_L_law_138 ⟨(by show _ ≤ 601024; omega), (by show _ ≤ 7293034; omega)⟩) hS (fun r9 u9 H locs hq9 hP hS => ?_)
  obtain ⟨hr9, hp1⟩ := hq9
  subst hr9
  obtain ⟨⟨fs9, ha9⟩, hM9⟩ := hMc _ hp1
  refine lv_istore (lv' := [(5, .int (nI kk)), (0, .ref b), (1, .ref h), (2, .ref a), (3, .ref o), (4, .int (nI (5 * c9)))]) hx hb de_L_law_141 hl (by decide) rfl (fun ls hl => ?_)
  refine lv_aload_n hx hb de_L_law_143 rfl (lv_at hl 3 rfl) ?_
  refine lv_aload_n hx hb de_L_law_144 rfl (lv_at hl 1 rfl) ?_
  refine lv_iload hx hb de_L_law_145 (lv_at hl 5 rfl) ?_
  refine lv_iconst (v := nI 1) hx hb de_L_law_147 (by decide) ?_
  refine nx_iadd (a := 5 * c9) (b := 1) hx hb de_L_law_148 ?_
  refine lw_ld hx hb hX hbl hbA hS (j := 5 * c9 + 1) (by omega) (by omega) de_L_law_149 ?_
  refine lv_aload_n hx hb de_L_law_150 rfl (lv_at hl 1 rfl) ?_
  refine lv_iload hx hb de_L_law_151 (lv_at hl 5 rfl) ?_
  refine lv_iconst (v := nI 2) hx hb de_L_law_153 (by decide) ?_
  refine nx_iadd (a := 5 * c9) (b := 2) hx hb de_L_law_154 ?_
  refine lw_ld hx hb hX hbl hbA hS (j := 5 * c9 + 2) (by omega) (by omega) de_L_law_155 ?_
  refine lv_i2l (v := (xs (5 * c9 + 2)).toInt64) hx hb de_L_law_156 rfl ?_
  refine lv_bipush (v := nI 32) hx hb de_L_law_157 (by decide) ?_
  refine lv_lshl (v := ((xs (5 * c9 + 2)).toInt64) <<< ((nI 32).toInt64 &&& 63)) hx hb de_L_law_159 rfl ?_
  refine lv_aload_n hx hb de_L_law_160 rfl (lv_at hl 1 rfl) ?_
  refine lv_iload hx hb de_L_law_161 (lv_at hl 5 rfl) ?_
  refine lv_iconst (v := nI 3) hx hb de_L_law_163 (by decide) ?_
  refine nx_iadd (a := 5 * c9) (b := 3) hx hb de_L_law_164 ?_
  refine lw_ld hx hb hX hbl hbA hS (j := 5 * c9 + 3) (by omega) (by omega) de_L_law_165 ?_
  refine lv_i2l (v := (xs (5 * c9 + 3)).toInt64) hx hb de_L_law_166 rfl ?_
  refine lv_ldc2 (v := 4294967295) hx hb hown (hts _ wi_915) de_L_law_167 ?_
  refine lv_land hx hb de_L_law_170 ?_
  refine lv_lor hx hb de_L_law_171 ?_
  refine dk_calli (va_runV (As := [.int (xs (5 * c9 + 1)), .long ((((xs (5 * c9 + 2)).toInt64) <<< ((nI 32).toInt64 &&& 63)) ||| (((xs (5 * c9 + 3)).toInt64) &&& 4294967295))]) (rest := []) ⟨hx, hb, hml, hown, hts⟩ hM9 (cwV 2 hts (wd_gV (C := "RunKeeperModel") wi_788 wi_785 wi_786 wi_787 wi_8) rfl rfl rfl (by decide +kernel) ⟨Nat.le_of_ble_eq_true rfl, Nat.le_of_ble_eq_true rfl⟩) (dk_preV (kn_M, kt_M, 22) hE hP hS ha9 rfl) rfl rfl hl.1 rfl (lv_room (Nat.le_of_ble_eq_true rfl)) de_L_law_172 ⟨(by show _ ≤ 601024; omega), (by show _ ≤ 7293034; omega)⟩) hS (fun r_8601 w_8599 H locs hq_8600 hP hS => ?_)
  obtain ⟨⟨μ2, hm2, he2⟩, ho2, st1, hs2, hc3, hc4⟩ := hfin _ _ _ hp1 hq_8600
  refine lv_istore (lv' := [(6, .int r_8601), (5, .int (nI kk)), (0, .ref b), (1, .ref h), (2, .ref a), (3, .ref o), (4, .int (nI (5 * c9)))]) hx hb de_L_law_175 hl (by decide) rfl (fun ls hl => ?_)
  refine lv_aload_n hx hb de_L_law_177 rfl (lv_at hl 4 rfl) ?_
  refine dk_calli (va_runV (As := []) (rest := []) ⟨hx, hb, hml, hown, hts⟩ (c_M_thrown l G w_8599 a DM μ2 hm2) (cwV 0 hts (wd_gV (C := "RunKeeperModel") wi_784 wi_781 wi_782 wi_783 wi_8) rfl rfl rfl (by decide +kernel) ⟨Nat.le_of_ble_eq_true rfl, Nat.le_of_ble_eq_true rfl⟩) (dk_preV (kn_M, kt_M, 22) hE hP hS hm2.o rfl) rfl rfl hl.1 rfl (lv_room (Nat.le_of_ble_eq_true rfl)) de_L_law_178 ⟨(by show _ ≤ 601024; omega), (by show _ ≤ 7293034; omega)⟩) hS (fun r_8604 w_8602 H locs hq_8603 hP hS => ?_)
  obtain ⟨hr_8605, he_8606⟩ := hq_8603
  subst hr_8605
  rw [he_8606] at hP
  rw [he2]
  refine lv_iload hx hb de_L_law_181 (lv_at hl 1 rfl) ?_
  refine nx_icmp_eq (a := kk) (b := kk) (tgt := 188) hx hb (by omega) (by omega) de_L_law_183 (by decide) (fun c_8607 => ?_) (fun c_8607 => ?_)
  · refine lv_iload hx hb de_L_law_188 (lv_at hl 1 rfl) ?_
    refine nx_if_ne (a := kk) (tgt := 205) hx hb (by omega) de_L_law_190 (by decide) (fun c_8608 => ?_) (fun c_8608 => ?_)
    · refine lv_goto (tgt := 830) hx hb de_L_law_205 (by decide) ?_
      exact W.widen (by omega) (by omega) (KK st1 _ _ _ _ hs2 hP hS (lv_sub hl [2, 3, 4, 5, 6] rfl))
    · obtain ⟨f9, ho9, hf9⟩ := ho2 c_8608
      refine lv_aload_n hx hb de_L_law_193 rfl (lv_at hl 5 rfl) ?_
      refine lv_iconst (v := nI 0) hx hb de_L_law_194 (by decide) ?_
      refine dk_lald (a := o) hx hb hK hP ho9 0 rfl (by omega) (by omega) de_L_law_195 ?_
      refine lv_iload hx hb de_L_law_196 (lv_at hl 0 rfl) ?_
      refine lv_i2l (v := r_8601.toInt64) hx hb de_L_law_198 rfl ?_
      refine W.lcmp hx hb de_L_law_199 ?_
      rw [hf9, lw_cmp]
      refine lv_if_eq (tgt := 205) hx hb de_L_law_200 (by decide) (fun c_8609 => ?_) (fun c_8609 => ?_)
      · refine lv_goto (tgt := 830) hx hb de_L_law_205 (by decide) ?_
        exact W.widen (by omega) (by omega) (KK st1 _ _ _ _ hs2 hP hS (lv_sub hl [2, 3, 4, 5, 6] rfl))
      · exact absurd rfl c_8609
  · exact absurd rfl c_8607
set_option maxHeartbeats 4000000 in
set_option maxRecDepth 100000 in
theorem lw_delete {p : Program} {l : Launch} {e : Env} {s : State} {m : MethodId} {args : Array Value} {below : List Frame} {meth : Method} {c : Code} {Q : State → Prop} {G : dk_G} {H : Heap} {locs : List Loc} {ls : Array Slot} {b L : Nat} {xs : Nat → Int32} {w : dk_H} {h a o c9 st : Nat} {D : kp_D} {DM : md_D} (hx : p.tables.exec = Jvm.exec) (hb : c.code = code) (hml : c.maxLocals = 8) (hown : s.vm.findClass "RunKeeperLaw" = some m.cls) (hts : ∀ w ∈ wd_all, w.before args s = true) (hE : dk_E G s) (hX : va_X b L xs s s.heap) (hbl : b < s.heap.size) (hbA : ¬ dk_A G b) (hi : 5 * c9 + 5 ≤ L) (hL9 : L ≤ 2560) (hP : dk_P G w H) (hS : dk_S G s.heap H locs) (hl : lv_has ls 8 [(0, .ref b), (1, .ref h), (2, .ref a), (3, .ref o), (4, .int (nI (5 * c9)))]) (kk : Nat) (hkk : kk < 3) (rmL : Room) (mcL msL : Nat) (post1 : dk_H → Prop) (hLc : dk_Mi l my_L_delete (wd_h my_L_delete mb_L_delete 4 (some .int) [(0, 9, 12, 13), (0, 9, 15, 15)]) rmL G w [.ref h, .int (xs (5 * c9 + 1)), .ref o] (fun r u => r = nI kk ∧ post1 u) mcL msL) (hrc : rmL.cells = mcL) (hrs : rmL.slots = msL) (hRf : rmL.frames + 1 ≤ 15) (hRl : 8 + (4 + 11) + rmL.locals ≤ 584) (hc1 : (100 + 24 * c9 + 5 * st) + mcL ≤ 601024) (hc2 : (30000 + 1650 * c9 + 1579 * st) + msL ≤ 7293034) (post2 : dk_H → Int32 → dk_H → Prop) (hMc : ∀ u, post1 u → (∃ fs, u a = some (100, .inr (cx_M, fs))) ∧ dk_Mi l my_M_delete (wd_c my_M_delete mb_M_delete 2 (some .int)) rm_M_delete G u [.ref a, .int (xs (5 * c9 + 1))] (post2 u) 0 0) (hfin : ∀ u r v, post1 u → post2 u r v → (∃ μ2, md_at G v a DM μ2 ∧ μ2.er = kk) ∧ (kk = 0 → ∃ f, v o = some (90, dk_cl G 1 f) ∧ f 0 = r.toInt64) ∧ ∃ st1, lw_S G v h a o D DM (c9 + 1) st1 ∧ (100 + 24 * c9 + 5 * st) + mcL ≤ (100 + 24 * (c9 + 1) + 5 * st1) ∧ (30000 + 1650 * c9 + 1579 * st) + msL ≤ (30000 + 1650 * (c9 + 1) + 1579 * st1)) (KK : ∀ (st1 : Nat) (v1 : dk_H) (H1 : Heap) (locs1 : List Loc) (ls1 : Array Slot), lw_S G v1 h a o D DM (c9 + 1) st1 → dk_P G v1 H1 → dk_S G s.heap H1 locs1 → lv_has ls1 8 [(0, .ref b), (1, .ref h), (2, .ref a), (3, .ref o), (4, .int (nI (5 * c9)))] → W p l e room_1 s m args below meth c H1 locs1 (100 + 24 * (c9 + 1) + 5 * st1) (30000 + 1650 * (c9 + 1) + 1579 * st1) Q (F0 m 830 ls1 [])) : W p l e room_1 s m args below meth c H locs (100 + 24 * c9 + 5 * st) (30000 + 1650 * c9 + 1579 * st) Q (F0 m 208 ls []) := by
  have hK := hE.1
  have hN := hE.2.1
  refine lv_aload_n hx hb de_L_law_208 rfl (lv_at hl 1 rfl) ?_
  refine lv_aload_n hx hb de_L_law_209 rfl (lv_at hl 0 rfl) ?_
  refine lv_iload hx hb de_L_law_210 (lv_at hl 4 rfl) ?_
  refine lv_iconst (v := nI 1) hx hb de_L_law_212 (by decide) ?_
  refine nx_iadd (a := 5 * c9) (b := 1) hx hb de_L_law_213 ?_
  refine lw_ld hx hb hX hbl hbA hS (j := 5 * c9 + 1) (by omega) (by omega) de_L_law_214 ?_
  refine lv_aload_n hx hb de_L_law_215 rfl (lv_at hl 3 rfl) ?_
  refine dk_calli (dk_runH (n := 3) (As := [.ref h, .int (xs (5 * c9 + 1)), .ref o]) (rest := []) ⟨hx, hb, hml, hown, hts⟩ hLc cwi_delete wi_476 wi_477 wi_0 hrc hrs ⟨hRf, hRl⟩ (by decide +kernel) (dk_preS hE hP hS) rfl rfl hl.1 rfl (lv_room (Nat.le_of_ble_eq_true rfl)) de_L_law_216 ⟨(by show _ ≤ 601024; omega), (by show _ ≤ 7293034; omega)⟩) hS (fun r9 u9 H locs hq9 hP hS => ?_)
  obtain ⟨hr9, hp1⟩ := hq9
  subst hr9
  obtain ⟨⟨fs9, ha9⟩, hM9⟩ := hMc _ hp1
  refine lv_istore (lv' := [(5, .int (nI kk)), (0, .ref b), (1, .ref h), (2, .ref a), (3, .ref o), (4, .int (nI (5 * c9)))]) hx hb de_L_law_219 hl (by decide) rfl (fun ls hl => ?_)
  refine lv_aload_n hx hb de_L_law_221 rfl (lv_at hl 3 rfl) ?_
  refine lv_aload_n hx hb de_L_law_222 rfl (lv_at hl 1 rfl) ?_
  refine lv_iload hx hb de_L_law_223 (lv_at hl 5 rfl) ?_
  refine lv_iconst (v := nI 1) hx hb de_L_law_225 (by decide) ?_
  refine nx_iadd (a := 5 * c9) (b := 1) hx hb de_L_law_226 ?_
  refine lw_ld hx hb hX hbl hbA hS (j := 5 * c9 + 1) (by omega) (by omega) de_L_law_227 ?_
  refine dk_calli (va_runV (As := [.int (xs (5 * c9 + 1))]) (rest := []) ⟨hx, hb, hml, hown, hts⟩ hM9 (cwV 1 hts (wd_gV (C := "RunKeeperModel") wi_815 wi_812 wi_813 wi_814 wi_8) rfl rfl rfl (by decide +kernel) ⟨Nat.le_of_ble_eq_true rfl, Nat.le_of_ble_eq_true rfl⟩) (dk_preV (kn_M, kt_M, 22) hE hP hS ha9 rfl) rfl rfl hl.1 rfl (lv_room (Nat.le_of_ble_eq_true rfl)) de_L_law_228 ⟨(by show _ ≤ 601024; omega), (by show _ ≤ 7293034; omega)⟩) hS (fun r_8612 w_8610 H locs hq_8611 hP hS => ?_)
  obtain ⟨⟨μ2, hm2, he2⟩, ho2, st1, hs2, hc3, hc4⟩ := hfin _ _ _ hp1 hq_8611
  refine lv_istore (lv' := [(6, .int r_8612), (5, .int (nI kk)), (0, .ref b), (1, .ref h), (2, .ref a), (3, .ref o), (4, .int (nI (5 * c9)))]) hx hb de_L_law_231 hl (by decide) rfl (fun ls hl => ?_)
  refine lv_aload_n hx hb de_L_law_233 rfl (lv_at hl 4 rfl) ?_
  refine dk_calli (va_runV (As := []) (rest := []) ⟨hx, hb, hml, hown, hts⟩ (c_M_thrown l G w_8610 a DM μ2 hm2) (cwV 0 hts (wd_gV (C := "RunKeeperModel") wi_784 wi_781 wi_782 wi_783 wi_8) rfl rfl rfl (by decide +kernel) ⟨Nat.le_of_ble_eq_true rfl, Nat.le_of_ble_eq_true rfl⟩) (dk_preV (kn_M, kt_M, 22) hE hP hS hm2.o rfl) rfl rfl hl.1 rfl (lv_room (Nat.le_of_ble_eq_true rfl)) de_L_law_234 ⟨(by show _ ≤ 601024; omega), (by show _ ≤ 7293034; omega)⟩) hS (fun r_8615 w_8613 H locs hq_8614 hP hS => ?_)
  obtain ⟨hr_8616, he_8617⟩ := hq_8614
  subst hr_8616
  rw [he_8617] at hP
  rw [he2]
  refine lv_iload hx hb de_L_law_237 (lv_at hl 1 rfl) ?_
  refine nx_icmp_eq (a := kk) (b := kk) (tgt := 244) hx hb (by omega) (by omega) de_L_law_239 (by decide) (fun c_8618 => ?_) (fun c_8618 => ?_)
  · refine lv_iload hx hb de_L_law_244 (lv_at hl 1 rfl) ?_
    refine nx_if_ne (a := kk) (tgt := 261) hx hb (by omega) de_L_law_246 (by decide) (fun c_8619 => ?_) (fun c_8619 => ?_)
    · refine lv_goto (tgt := 830) hx hb de_L_law_261 (by decide) ?_
      exact W.widen (by omega) (by omega) (KK st1 _ _ _ _ hs2 hP hS (lv_sub hl [2, 3, 4, 5, 6] rfl))
    · obtain ⟨f9, ho9, hf9⟩ := ho2 c_8619
      refine lv_aload_n hx hb de_L_law_249 rfl (lv_at hl 5 rfl) ?_
      refine lv_iconst (v := nI 0) hx hb de_L_law_250 (by decide) ?_
      refine dk_lald (a := o) hx hb hK hP ho9 0 rfl (by omega) (by omega) de_L_law_251 ?_
      refine lv_iload hx hb de_L_law_252 (lv_at hl 0 rfl) ?_
      refine lv_i2l (v := r_8612.toInt64) hx hb de_L_law_254 rfl ?_
      refine W.lcmp hx hb de_L_law_255 ?_
      rw [hf9, lw_cmp]
      refine lv_if_eq (tgt := 261) hx hb de_L_law_256 (by decide) (fun c_8620 => ?_) (fun c_8620 => ?_)
      · refine lv_goto (tgt := 830) hx hb de_L_law_261 (by decide) ?_
        exact W.widen (by omega) (by omega) (KK st1 _ _ _ _ hs2 hP hS (lv_sub hl [2, 3, 4, 5, 6] rfl))
      · exact absurd rfl c_8620
  · exact absurd rfl c_8618
set_option maxHeartbeats 4000000 in
set_option maxRecDepth 100000 in
theorem lw_batch {p : Program} {l : Launch} {e : Env} {s : State} {m : MethodId} {args : Array Value} {below : List Frame} {meth : Method} {c : Code} {Q : State → Prop} {G : dk_G} {H : Heap} {locs : List Loc} {ls : Array Slot} {b L : Nat} {xs : Nat → Int32} {w : dk_H} {h a o c9 st : Nat} {D : kp_D} {DM : md_D} (hx : p.tables.exec = Jvm.exec) (hb : c.code = code) (hml : c.maxLocals = 8) (hown : s.vm.findClass "RunKeeperLaw" = some m.cls) (hts : ∀ w ∈ wd_all, w.before args s = true) (hE : dk_E G s) (hX : va_X b L xs s s.heap) (hbl : b < s.heap.size) (hbA : ¬ dk_A G b) (hi : 5 * c9 + 5 ≤ L) (hL9 : L ≤ 2560) (hP : dk_P G w H) (hS : dk_S G s.heap H locs) (hl : lv_has ls 8 [(0, .ref b), (1, .ref h), (2, .ref a), (3, .ref o), (4, .int (nI (5 * c9)))]) (kk : Nat) (hkk : kk < 3) (rmL : Room) (mcL msL : Nat) (post1 : dk_H → Prop) (hLc : dk_Mi l my_L_batch (wd_h my_L_batch mb_L_batch 2 (some .int) [(0, 4, 7, 24)]) rmL G w [.ref h] (fun r u => r = nI kk ∧ post1 u) mcL msL) (hrc : rmL.cells = mcL) (hrs : rmL.slots = msL) (hRf : rmL.frames + 1 ≤ 15) (hRl : 8 + (2 + 11) + rmL.locals ≤ 584) (hc1 : (100 + 24 * c9 + 5 * st) + mcL ≤ 601024) (hc2 : (30000 + 1650 * c9 + 1579 * st) + msL ≤ 7293034) (post2 : dk_H → dk_H → Prop) (hMc : ∀ u, post1 u → (∃ fs, u a = some (100, .inr (cx_M, fs))) ∧ dk_Mv l my_M_batch (wd_c my_M_batch mb_M_batch 1 none) rm_M_batch G u [.ref a] (post2 u) 0 0) (hfin : ∀ u v, post1 u → post2 u v → (∃ μ2, md_at G v a DM μ2 ∧ μ2.er = kk) ∧ ∃ st1, lw_S G v h a o D DM (c9 + 1) st1 ∧ (100 + 24 * c9 + 5 * st) + mcL ≤ (100 + 24 * (c9 + 1) + 5 * st1) ∧ (30000 + 1650 * c9 + 1579 * st) + msL ≤ (30000 + 1650 * (c9 + 1) + 1579 * st1)) (KK : ∀ (st1 : Nat) (v1 : dk_H) (H1 : Heap) (locs1 : List Loc) (ls1 : Array Slot), lw_S G v1 h a o D DM (c9 + 1) st1 → dk_P G v1 H1 → dk_S G s.heap H1 locs1 → lv_has ls1 8 [(0, .ref b), (1, .ref h), (2, .ref a), (3, .ref o), (4, .int (nI (5 * c9)))] → W p l e room_1 s m args below meth c H1 locs1 (100 + 24 * (c9 + 1) + 5 * st1) (30000 + 1650 * (c9 + 1) + 1579 * st1) Q (F0 m 830 ls1 [])) : W p l e room_1 s m args below meth c H locs (100 + 24 * c9 + 5 * st) (30000 + 1650 * c9 + 1579 * st) Q (F0 m 264 ls []) := by
  have hK := hE.1
  have hN := hE.2.1
  refine lv_aload_n hx hb de_L_law_264 rfl (lv_at hl 1 rfl) ?_
  refine dk_calli (dk_runH (n := 1) (As := [.ref h]) (rest := []) ⟨hx, hb, hml, hown, hts⟩ hLc cwi_batch wi_483 wi_484 wi_0 hrc hrs ⟨hRf, hRl⟩ (by decide +kernel) (dk_preS hE hP hS) rfl rfl hl.1 rfl (lv_room (Nat.le_of_ble_eq_true rfl)) de_L_law_265 ⟨(by show _ ≤ 601024; omega), (by show _ ≤ 7293034; omega)⟩) hS (fun r9 u9 H locs hq9 hP hS => ?_)
  obtain ⟨hr9, hp1⟩ := hq9
  subst hr9
  obtain ⟨⟨fs9, ha9⟩, hM9⟩ := hMc _ hp1
  refine lv_istore (lv' := [(5, .int (nI kk)), (0, .ref b), (1, .ref h), (2, .ref a), (3, .ref o), (4, .int (nI (5 * c9)))]) hx hb de_L_law_268 hl (by decide) rfl (fun ls hl => ?_)
  refine lv_aload_n hx hb de_L_law_270 rfl (lv_at hl 3 rfl) ?_
  refine dk_callv (va_runV (As := []) (rest := []) ⟨hx, hb, hml, hown, hts⟩ hM9 (cwV 0 hts (wd_gV (C := "RunKeeperModel") wi_819 wi_816 wi_817 wi_818 wi_8) rfl rfl rfl (by decide +kernel) ⟨Nat.le_of_ble_eq_true rfl, Nat.le_of_ble_eq_true rfl⟩) (dk_preV (kn_M, kt_M, 22) hE hP hS ha9 rfl) rfl rfl hl.1 rfl (lv_room (Nat.le_of_ble_eq_true rfl)) de_L_law_271 ⟨(by show _ ≤ 601024; omega), (by show _ ≤ 7293034; omega)⟩) hS (fun w_8621 H locs hq_8622 hP hS => ?_)
  obtain ⟨⟨μ2, hm2, he2⟩, st1, hs2, hc3, hc4⟩ := hfin _ _ hp1 hq_8622
  refine lv_aload_n hx hb de_L_law_274 rfl (lv_at hl 3 rfl) ?_
  refine dk_calli (va_runV (As := []) (rest := []) ⟨hx, hb, hml, hown, hts⟩ (c_M_thrown l G w_8621 a DM μ2 hm2) (cwV 0 hts (wd_gV (C := "RunKeeperModel") wi_784 wi_781 wi_782 wi_783 wi_8) rfl rfl rfl (by decide +kernel) ⟨Nat.le_of_ble_eq_true rfl, Nat.le_of_ble_eq_true rfl⟩) (dk_preV (kn_M, kt_M, 22) hE hP hS hm2.o rfl) rfl rfl hl.1 rfl (lv_room (Nat.le_of_ble_eq_true rfl)) de_L_law_275 ⟨(by show _ ≤ 601024; omega), (by show _ ≤ 7293034; omega)⟩) hS (fun r_8626 w_8624 H locs hq_8625 hP hS => ?_)
  obtain ⟨hr_8627, he_8628⟩ := hq_8625
  subst hr_8627
  rw [he_8628] at hP
  rw [he2]
  refine lv_iload hx hb de_L_law_278 (lv_at hl 0 rfl) ?_
  refine nx_icmp_eq (a := kk) (b := kk) (tgt := 285) hx hb (by omega) (by omega) de_L_law_280 (by decide) (fun c_8629 => ?_) (fun c_8629 => ?_)
  · refine lv_goto (tgt := 830) hx hb de_L_law_285 (by decide) ?_
    exact W.widen (by omega) (by omega) (KK st1 _ _ _ _ hs2 hP hS (lv_sub hl [1, 2, 3, 4, 5] rfl))
  · exact absurd rfl c_8629
set_option maxHeartbeats 4000000 in
set_option maxRecDepth 100000 in
theorem lw_end {p : Program} {l : Launch} {e : Env} {s : State} {m : MethodId} {args : Array Value} {below : List Frame} {meth : Method} {c : Code} {Q : State → Prop} {G : dk_G} {H : Heap} {locs : List Loc} {ls : Array Slot} {b L : Nat} {xs : Nat → Int32} {w : dk_H} {h a o c9 st : Nat} {D : kp_D} {DM : md_D} (hx : p.tables.exec = Jvm.exec) (hb : c.code = code) (hml : c.maxLocals = 8) (hown : s.vm.findClass "RunKeeperLaw" = some m.cls) (hts : ∀ w ∈ wd_all, w.before args s = true) (hE : dk_E G s) (hX : va_X b L xs s s.heap) (hbl : b < s.heap.size) (hbA : ¬ dk_A G b) (hi : 5 * c9 + 5 ≤ L) (hL9 : L ≤ 2560) (hP : dk_P G w H) (hS : dk_S G s.heap H locs) (hl : lv_has ls 8 [(0, .ref b), (1, .ref h), (2, .ref a), (3, .ref o), (4, .int (nI (5 * c9)))]) (b9 : Bool) (hz : xs (5 * c9 + 1) = 0 ↔ b9 = false) (kk : Nat) (hkk : kk < 3) (rmL : Room) (mcL msL : Nat) (post1 : dk_H → Prop) (hLc : dk_Mi l my_L_end (wd_h my_L_end mb_L_end 4 (some .int) [(0, 9, 12, 24), (0, 9, 15, 15)]) rmL G w [.ref h, .int (bo_i b9), .ref o] (fun r u => r = nI kk ∧ post1 u) mcL msL) (hrc : rmL.cells = mcL) (hrs : rmL.slots = msL) (hRf : rmL.frames + 1 ≤ 15) (hRl : 8 + (4 + 11) + rmL.locals ≤ 584) (hc1 : (100 + 24 * c9 + 5 * st) + mcL ≤ 601024) (hc2 : (30000 + 1650 * c9 + 1579 * st) + msL ≤ 7293034) (post2 : dk_H → Int32 → dk_H → Prop) (hMc : ∀ u, post1 u → (∃ fs, u a = some (100, .inr (cx_M, fs))) ∧ dk_Mi l my_M_end (wd_c my_M_end mb_M_end 4 (some .int)) rm_M_end G u [.ref a, .int (bo_i b9)] (post2 u) 0 0) (hfin : ∀ u r v, post1 u → post2 u r v → (∃ μ2, md_at G v a DM μ2 ∧ μ2.er = kk) ∧ (kk = 0 → ∃ f, v o = some (90, dk_cl G 1 f) ∧ f 0 = r.toInt64) ∧ ∃ st1, lw_S G v h a o D DM (c9 + 1) st1 ∧ (100 + 24 * c9 + 5 * st) + mcL ≤ (100 + 24 * (c9 + 1) + 5 * st1) ∧ (30000 + 1650 * c9 + 1579 * st) + msL ≤ (30000 + 1650 * (c9 + 1) + 1579 * st1)) (KK : ∀ (st1 : Nat) (v1 : dk_H) (H1 : Heap) (locs1 : List Loc) (ls1 : Array Slot), lw_S G v1 h a o D DM (c9 + 1) st1 → dk_P G v1 H1 → dk_S G s.heap H1 locs1 → lv_has ls1 8 [(0, .ref b), (1, .ref h), (2, .ref a), (3, .ref o), (4, .int (nI (5 * c9)))] → W p l e room_1 s m args below meth c H1 locs1 (100 + 24 * (c9 + 1) + 5 * st1) (30000 + 1650 * (c9 + 1) + 1579 * st1) Q (F0 m 830 ls1 [])) : W p l e room_1 s m args below meth c H locs (100 + 24 * c9 + 5 * st) (30000 + 1650 * c9 + 1579 * st) Q (F0 m 288 ls []) := by
  have hK := hE.1
  have hN := hE.2.1
  refine lv_aload_n hx hb de_L_law_288 rfl (lv_at hl 1 rfl) ?_
  refine lv_aload_n hx hb de_L_law_289 rfl (lv_at hl 0 rfl) ?_
  refine lv_iload hx hb de_L_law_290 (lv_at hl 4 rfl) ?_
  refine lv_iconst (v := nI 1) hx hb de_L_law_292 (by decide) ?_
  refine nx_iadd (a := 5 * c9) (b := 1) hx hb de_L_law_293 ?_
  refine lw_ld hx hb hX hbl hbA hS (j := 5 * c9 + 1) (by omega) (by omega) de_L_law_294 ?_
  refine lv_if_eq (tgt := 302) hx hb de_L_law_295 (by decide) (fun c_8630 => ?_) (fun c_8630 => ?_)
  · have hb9 : b9 = false := hz.mp c_8630
    subst hb9
    refine lv_iconst (v := nI 0) hx hb de_L_law_302 (by decide) ?_
    rw [show nI 0 = bo_i false by decide]
    refine lv_aload_n hx hb de_L_law_303 rfl (lv_at hl 3 rfl) ?_
    refine dk_calli (dk_runH (n := 3) (As := [.ref h, .int (bo_i false), .ref o]) (rest := []) ⟨hx, hb, hml, hown, hts⟩ hLc cwi_end wi_507 wi_508 wi_0 hrc hrs ⟨hRf, hRl⟩ (by decide +kernel) (dk_preS hE hP hS) rfl rfl hl.1 rfl (lv_room (Nat.le_of_ble_eq_true rfl)) de_L_law_304 ⟨(by show _ ≤ 601024; omega), (by show _ ≤ 7293034; omega)⟩) hS (fun r9 u9 H locs hq9 hP hS => ?_)
    obtain ⟨hr9, hp1⟩ := hq9
    subst hr9
    obtain ⟨⟨fs9, ha9⟩, hM9⟩ := hMc _ hp1
    refine lv_istore (lv' := [(5, .int (nI kk)), (0, .ref b), (1, .ref h), (2, .ref a), (3, .ref o), (4, .int (nI (5 * c9)))]) hx hb de_L_law_307 hl (by decide) rfl (fun ls hl => ?_)
    refine lv_aload_n hx hb de_L_law_309 rfl (lv_at hl 3 rfl) ?_
    refine lv_aload_n hx hb de_L_law_310 rfl (lv_at hl 1 rfl) ?_
    refine lv_iload hx hb de_L_law_311 (lv_at hl 5 rfl) ?_
    refine lv_iconst (v := nI 1) hx hb de_L_law_313 (by decide) ?_
    refine nx_iadd (a := 5 * c9) (b := 1) hx hb de_L_law_314 ?_
    refine lw_ld hx hb hX hbl hbA hS (j := 5 * c9 + 1) (by omega) (by omega) de_L_law_315 ?_
    refine lv_if_eq (tgt := 323) hx hb de_L_law_316 (by decide) (fun c_8631 => ?_) (fun c_8631 => ?_)
    · refine lv_iconst (v := nI 0) hx hb de_L_law_323 (by decide) ?_
      rw [show nI 0 = bo_i false by decide]
      refine dk_calli (va_runV (As := [.int (bo_i false)]) (rest := []) ⟨hx, hb, hml, hown, hts⟩ hM9 (cwV 1 hts (wd_gV (C := "RunKeeperModel") wi_823 wi_820 wi_821 wi_822 wi_8) rfl rfl rfl (by decide +kernel) ⟨Nat.le_of_ble_eq_true rfl, Nat.le_of_ble_eq_true rfl⟩) (dk_preV (kn_M, kt_M, 22) hE hP hS ha9 rfl) rfl rfl hl.1 rfl (lv_room (Nat.le_of_ble_eq_true rfl)) de_L_law_324 ⟨(by show _ ≤ 601024; omega), (by show _ ≤ 7293034; omega)⟩) hS (fun r_8634 w_8632 H locs hq_8633 hP hS => ?_)
      obtain ⟨⟨μ2, hm2, he2⟩, ho2, st1, hs2, hc3, hc4⟩ := hfin _ _ _ hp1 hq_8633
      refine lv_istore (lv' := [(6, .int r_8634), (5, .int (nI kk)), (0, .ref b), (1, .ref h), (2, .ref a), (3, .ref o), (4, .int (nI (5 * c9)))]) hx hb de_L_law_327 hl (by decide) rfl (fun ls hl => ?_)
      refine lv_aload_n hx hb de_L_law_329 rfl (lv_at hl 4 rfl) ?_
      refine dk_calli (va_runV (As := []) (rest := []) ⟨hx, hb, hml, hown, hts⟩ (c_M_thrown l G w_8632 a DM μ2 hm2) (cwV 0 hts (wd_gV (C := "RunKeeperModel") wi_784 wi_781 wi_782 wi_783 wi_8) rfl rfl rfl (by decide +kernel) ⟨Nat.le_of_ble_eq_true rfl, Nat.le_of_ble_eq_true rfl⟩) (dk_preV (kn_M, kt_M, 22) hE hP hS hm2.o rfl) rfl rfl hl.1 rfl (lv_room (Nat.le_of_ble_eq_true rfl)) de_L_law_330 ⟨(by show _ ≤ 601024; omega), (by show _ ≤ 7293034; omega)⟩) hS (fun r_8637 w_8635 H locs hq_8636 hP hS => ?_)
      obtain ⟨hr_8638, he_8639⟩ := hq_8636
      subst hr_8638
      rw [he_8639] at hP
      rw [he2]
      refine lv_iload hx hb de_L_law_333 (lv_at hl 1 rfl) ?_
      refine nx_icmp_eq (a := kk) (b := kk) (tgt := 340) hx hb (by omega) (by omega) de_L_law_335 (by decide) (fun c_8640 => ?_) (fun c_8640 => ?_)
      · refine lv_iload hx hb de_L_law_340 (lv_at hl 1 rfl) ?_
        refine nx_if_ne (a := kk) (tgt := 357) hx hb (by omega) de_L_law_342 (by decide) (fun c_8641 => ?_) (fun c_8641 => ?_)
        · refine lv_goto (tgt := 830) hx hb de_L_law_357 (by decide) ?_
          exact W.widen (by omega) (by omega) (KK st1 _ _ _ _ hs2 hP hS (lv_sub hl [2, 3, 4, 5, 6] rfl))
        · obtain ⟨f9, ho9, hf9⟩ := ho2 c_8641
          refine lv_aload_n hx hb de_L_law_345 rfl (lv_at hl 5 rfl) ?_
          refine lv_iconst (v := nI 0) hx hb de_L_law_346 (by decide) ?_
          refine dk_lald (a := o) hx hb hK hP ho9 0 rfl (by omega) (by omega) de_L_law_347 ?_
          refine lv_iload hx hb de_L_law_348 (lv_at hl 0 rfl) ?_
          refine lv_i2l (v := r_8634.toInt64) hx hb de_L_law_350 rfl ?_
          refine W.lcmp hx hb de_L_law_351 ?_
          rw [hf9, lw_cmp]
          refine lv_if_eq (tgt := 357) hx hb de_L_law_352 (by decide) (fun c_8642 => ?_) (fun c_8642 => ?_)
          · refine lv_goto (tgt := 830) hx hb de_L_law_357 (by decide) ?_
            exact W.widen (by omega) (by omega) (KK st1 _ _ _ _ hs2 hP hS (lv_sub hl [2, 3, 4, 5, 6] rfl))
          · exact absurd rfl c_8642
      · exact absurd rfl c_8640
    · exact absurd (hz.mpr rfl) c_8631
  · have hb9 : b9 = true := (by cases hq : b9 with | true => rfl | false => exact absurd (hz.mpr hq) c_8630)
    subst hb9
    refine lv_iconst (v := nI 1) hx hb de_L_law_298 (by decide) ?_
    refine lv_goto (tgt := 303) hx hb de_L_law_299 (by decide) ?_
    rw [show nI 1 = bo_i true by decide]
    refine lv_aload_n hx hb de_L_law_303 rfl (lv_at hl 3 rfl) ?_
    refine dk_calli (dk_runH (n := 3) (As := [.ref h, .int (bo_i true), .ref o]) (rest := []) ⟨hx, hb, hml, hown, hts⟩ hLc cwi_end wi_507 wi_508 wi_0 hrc hrs ⟨hRf, hRl⟩ (by decide +kernel) (dk_preS hE hP hS) rfl rfl hl.1 rfl (lv_room (Nat.le_of_ble_eq_true rfl)) de_L_law_304 ⟨(by show _ ≤ 601024; omega), (by show _ ≤ 7293034; omega)⟩) hS (fun r9 u9 H locs hq9 hP hS => ?_)
    obtain ⟨hr9, hp1⟩ := hq9
    subst hr9
    obtain ⟨⟨fs9, ha9⟩, hM9⟩ := hMc _ hp1
    refine lv_istore (lv' := [(5, .int (nI kk)), (0, .ref b), (1, .ref h), (2, .ref a), (3, .ref o), (4, .int (nI (5 * c9)))]) hx hb de_L_law_307 hl (by decide) rfl (fun ls hl => ?_)
    refine lv_aload_n hx hb de_L_law_309 rfl (lv_at hl 3 rfl) ?_
    refine lv_aload_n hx hb de_L_law_310 rfl (lv_at hl 1 rfl) ?_
    refine lv_iload hx hb de_L_law_311 (lv_at hl 5 rfl) ?_
    refine lv_iconst (v := nI 1) hx hb de_L_law_313 (by decide) ?_
    refine nx_iadd (a := 5 * c9) (b := 1) hx hb de_L_law_314 ?_
    refine lw_ld hx hb hX hbl hbA hS (j := 5 * c9 + 1) (by omega) (by omega) de_L_law_315 ?_
    refine lv_if_eq (tgt := 323) hx hb de_L_law_316 (by decide) (fun c_8643 => ?_) (fun c_8643 => ?_)
    · exact absurd (hz.mp c_8643) (by decide)
    · refine lv_iconst (v := nI 1) hx hb de_L_law_319 (by decide) ?_
      refine lv_goto (tgt := 324) hx hb de_L_law_320 (by decide) ?_
      rw [show nI 1 = bo_i true by decide]
      refine dk_calli (va_runV (As := [.int (bo_i true)]) (rest := []) ⟨hx, hb, hml, hown, hts⟩ hM9 (cwV 1 hts (wd_gV (C := "RunKeeperModel") wi_823 wi_820 wi_821 wi_822 wi_8) rfl rfl rfl (by decide +kernel) ⟨Nat.le_of_ble_eq_true rfl, Nat.le_of_ble_eq_true rfl⟩) (dk_preV (kn_M, kt_M, 22) hE hP hS ha9 rfl) rfl rfl hl.1 rfl (lv_room (Nat.le_of_ble_eq_true rfl)) de_L_law_324 ⟨(by show _ ≤ 601024; omega), (by show _ ≤ 7293034; omega)⟩) hS (fun r_8646 w_8644 H locs hq_8645 hP hS => ?_)
      obtain ⟨⟨μ2, hm2, he2⟩, ho2, st1, hs2, hc3, hc4⟩ := hfin _ _ _ hp1 hq_8645
      refine lv_istore (lv' := [(6, .int r_8646), (5, .int (nI kk)), (0, .ref b), (1, .ref h), (2, .ref a), (3, .ref o), (4, .int (nI (5 * c9)))]) hx hb de_L_law_327 hl (by decide) rfl (fun ls hl => ?_)
      refine lv_aload_n hx hb de_L_law_329 rfl (lv_at hl 4 rfl) ?_
      refine dk_calli (va_runV (As := []) (rest := []) ⟨hx, hb, hml, hown, hts⟩ (c_M_thrown l G w_8644 a DM μ2 hm2) (cwV 0 hts (wd_gV (C := "RunKeeperModel") wi_784 wi_781 wi_782 wi_783 wi_8) rfl rfl rfl (by decide +kernel) ⟨Nat.le_of_ble_eq_true rfl, Nat.le_of_ble_eq_true rfl⟩) (dk_preV (kn_M, kt_M, 22) hE hP hS hm2.o rfl) rfl rfl hl.1 rfl (lv_room (Nat.le_of_ble_eq_true rfl)) de_L_law_330 ⟨(by show _ ≤ 601024; omega), (by show _ ≤ 7293034; omega)⟩) hS (fun r_8649 w_8647 H locs hq_8648 hP hS => ?_)
      obtain ⟨hr_8650, he_8651⟩ := hq_8648
      subst hr_8650
      rw [he_8651] at hP
      rw [he2]
      refine lv_iload hx hb de_L_law_333 (lv_at hl 1 rfl) ?_
      refine nx_icmp_eq (a := kk) (b := kk) (tgt := 340) hx hb (by omega) (by omega) de_L_law_335 (by decide) (fun c_8652 => ?_) (fun c_8652 => ?_)
      · refine lv_iload hx hb de_L_law_340 (lv_at hl 1 rfl) ?_
        refine nx_if_ne (a := kk) (tgt := 357) hx hb (by omega) de_L_law_342 (by decide) (fun c_8653 => ?_) (fun c_8653 => ?_)
        · refine lv_goto (tgt := 830) hx hb de_L_law_357 (by decide) ?_
          exact W.widen (by omega) (by omega) (KK st1 _ _ _ _ hs2 hP hS (lv_sub hl [2, 3, 4, 5, 6] rfl))
        · obtain ⟨f9, ho9, hf9⟩ := ho2 c_8653
          refine lv_aload_n hx hb de_L_law_345 rfl (lv_at hl 5 rfl) ?_
          refine lv_iconst (v := nI 0) hx hb de_L_law_346 (by decide) ?_
          refine dk_lald (a := o) hx hb hK hP ho9 0 rfl (by omega) (by omega) de_L_law_347 ?_
          refine lv_iload hx hb de_L_law_348 (lv_at hl 0 rfl) ?_
          refine lv_i2l (v := r_8646.toInt64) hx hb de_L_law_350 rfl ?_
          refine W.lcmp hx hb de_L_law_351 ?_
          rw [hf9, lw_cmp]
          refine lv_if_eq (tgt := 357) hx hb de_L_law_352 (by decide) (fun c_8654 => ?_) (fun c_8654 => ?_)
          · refine lv_goto (tgt := 830) hx hb de_L_law_357 (by decide) ?_
            exact W.widen (by omega) (by omega) (KK st1 _ _ _ _ hs2 hP hS (lv_sub hl [2, 3, 4, 5, 6] rfl))
          · exact absurd rfl c_8654
      · exact absurd rfl c_8652
set_option maxHeartbeats 4000000 in
set_option maxRecDepth 100000 in
theorem lw_merge {p : Program} {l : Launch} {e : Env} {s : State} {m : MethodId} {args : Array Value} {below : List Frame} {meth : Method} {c : Code} {Q : State → Prop} {G : dk_G} {H : Heap} {locs : List Loc} {ls : Array Slot} {b L : Nat} {xs : Nat → Int32} {w : dk_H} {h a o c9 st : Nat} {D : kp_D} {DM : md_D} (hx : p.tables.exec = Jvm.exec) (hb : c.code = code) (hml : c.maxLocals = 8) (hown : s.vm.findClass "RunKeeperLaw" = some m.cls) (hts : ∀ w ∈ wd_all, w.before args s = true) (hE : dk_E G s) (hX : va_X b L xs s s.heap) (hbl : b < s.heap.size) (hbA : ¬ dk_A G b) (hi : 5 * c9 + 5 ≤ L) (hL9 : L ≤ 2560) (hP : dk_P G w H) (hS : dk_S G s.heap H locs) (hl : lv_has ls 8 [(0, .ref b), (1, .ref h), (2, .ref a), (3, .ref o), (4, .int (nI (5 * c9)))]) (kk : Nat) (hkk : kk < 3) (rmL : Room) (mcL msL : Nat) (post1 : dk_H → Prop) (hLc : dk_Mi l my_L_merge (wd_h my_L_merge mb_L_merge 4 (some .int) [(0, 9, 12, 13)]) rmL G w [.ref h, .int (xs (5 * c9 + 1)), .ref o] (fun r u => r = nI kk ∧ post1 u) mcL msL) (hrc : rmL.cells = mcL) (hrs : rmL.slots = msL) (hRf : rmL.frames + 1 ≤ 15) (hRl : 8 + (4 + 11) + rmL.locals ≤ 584) (hc1 : (100 + 24 * c9 + 5 * st) + mcL ≤ 601024) (hc2 : (30000 + 1650 * c9 + 1579 * st) + msL ≤ 7293034) (post2 : dk_H → Int32 → dk_H → Prop) (hMc : ∀ u, post1 u → (∃ fs, u a = some (100, .inr (cx_M, fs))) ∧ dk_Mi l my_M_merge (wd_c my_M_merge mb_M_merge 3 (some .int)) rm_M_merge G u [.ref a, .int (xs (5 * c9 + 1))] (post2 u) 0 0) (hfin : ∀ u r v, post1 u → post2 u r v → (∃ μ2, md_at G v a DM μ2 ∧ μ2.er = kk) ∧ (kk = 0 → ∃ f, v o = some (90, dk_cl G 1 f) ∧ f 0 = r.toInt64) ∧ ∃ st1, lw_S G v h a o D DM (c9 + 1) st1 ∧ (100 + 24 * c9 + 5 * st) + mcL ≤ (100 + 24 * (c9 + 1) + 5 * st1) ∧ (30000 + 1650 * c9 + 1579 * st) + msL ≤ (30000 + 1650 * (c9 + 1) + 1579 * st1)) (KK : ∀ (st1 : Nat) (v1 : dk_H) (H1 : Heap) (locs1 : List Loc) (ls1 : Array Slot), lw_S G v1 h a o D DM (c9 + 1) st1 → dk_P G v1 H1 → dk_S G s.heap H1 locs1 → lv_has ls1 8 [(0, .ref b), (1, .ref h), (2, .ref a), (3, .ref o), (4, .int (nI (5 * c9)))] → W p l e room_1 s m args below meth c H1 locs1 (100 + 24 * (c9 + 1) + 5 * st1) (30000 + 1650 * (c9 + 1) + 1579 * st1) Q (F0 m 830 ls1 [])) : W p l e room_1 s m args below meth c H locs (100 + 24 * c9 + 5 * st) (30000 + 1650 * c9 + 1579 * st) Q (F0 m 386 ls []) := by
  have hK := hE.1
  have hN := hE.2.1
  refine lv_aload_n hx hb de_L_law_386 rfl (lv_at hl 1 rfl) ?_
  refine lv_aload_n hx hb de_L_law_387 rfl (lv_at hl 0 rfl) ?_
  refine lv_iload hx hb de_L_law_388 (lv_at hl 4 rfl) ?_
  refine lv_iconst (v := nI 1) hx hb de_L_law_390 (by decide) ?_
  refine nx_iadd (a := 5 * c9) (b := 1) hx hb de_L_law_391 ?_
  refine lw_ld hx hb hX hbl hbA hS (j := 5 * c9 + 1) (by omega) (by omega) de_L_law_392 ?_
  refine lv_aload_n hx hb de_L_law_393 rfl (lv_at hl 3 rfl) ?_
  refine dk_calli (dk_runH (n := 3) (As := [.ref h, .int (xs (5 * c9 + 1)), .ref o]) (rest := []) ⟨hx, hb, hml, hown, hts⟩ hLc cwi_merge wi_517 wi_518 wi_0 hrc hrs ⟨hRf, hRl⟩ (by decide +kernel) (dk_preS hE hP hS) rfl rfl hl.1 rfl (lv_room (Nat.le_of_ble_eq_true rfl)) de_L_law_394 ⟨(by show _ ≤ 601024; omega), (by show _ ≤ 7293034; omega)⟩) hS (fun r9 u9 H locs hq9 hP hS => ?_)
  obtain ⟨hr9, hp1⟩ := hq9
  subst hr9
  obtain ⟨⟨fs9, ha9⟩, hM9⟩ := hMc _ hp1
  refine lv_istore (lv' := [(5, .int (nI kk)), (0, .ref b), (1, .ref h), (2, .ref a), (3, .ref o), (4, .int (nI (5 * c9)))]) hx hb de_L_law_397 hl (by decide) rfl (fun ls hl => ?_)
  refine lv_aload_n hx hb de_L_law_399 rfl (lv_at hl 3 rfl) ?_
  refine lv_aload_n hx hb de_L_law_400 rfl (lv_at hl 1 rfl) ?_
  refine lv_iload hx hb de_L_law_401 (lv_at hl 5 rfl) ?_
  refine lv_iconst (v := nI 1) hx hb de_L_law_403 (by decide) ?_
  refine nx_iadd (a := 5 * c9) (b := 1) hx hb de_L_law_404 ?_
  refine lw_ld hx hb hX hbl hbA hS (j := 5 * c9 + 1) (by omega) (by omega) de_L_law_405 ?_
  refine dk_calli (va_runV (As := [.int (xs (5 * c9 + 1))]) (rest := []) ⟨hx, hb, hml, hown, hts⟩ hM9 (cwV 1 hts (wd_gV (C := "RunKeeperModel") wi_835 wi_832 wi_833 wi_834 wi_8) rfl rfl rfl (by decide +kernel) ⟨Nat.le_of_ble_eq_true rfl, Nat.le_of_ble_eq_true rfl⟩) (dk_preV (kn_M, kt_M, 22) hE hP hS ha9 rfl) rfl rfl hl.1 rfl (lv_room (Nat.le_of_ble_eq_true rfl)) de_L_law_406 ⟨(by show _ ≤ 601024; omega), (by show _ ≤ 7293034; omega)⟩) hS (fun r_8657 w_8655 H locs hq_8656 hP hS => ?_)
  obtain ⟨⟨μ2, hm2, he2⟩, ho2, st1, hs2, hc3, hc4⟩ := hfin _ _ _ hp1 hq_8656
  refine lv_istore (lv' := [(6, .int r_8657), (5, .int (nI kk)), (0, .ref b), (1, .ref h), (2, .ref a), (3, .ref o), (4, .int (nI (5 * c9)))]) hx hb de_L_law_409 hl (by decide) rfl (fun ls hl => ?_)
  refine lv_aload_n hx hb de_L_law_411 rfl (lv_at hl 4 rfl) ?_
  refine dk_calli (va_runV (As := []) (rest := []) ⟨hx, hb, hml, hown, hts⟩ (c_M_thrown l G w_8655 a DM μ2 hm2) (cwV 0 hts (wd_gV (C := "RunKeeperModel") wi_784 wi_781 wi_782 wi_783 wi_8) rfl rfl rfl (by decide +kernel) ⟨Nat.le_of_ble_eq_true rfl, Nat.le_of_ble_eq_true rfl⟩) (dk_preV (kn_M, kt_M, 22) hE hP hS hm2.o rfl) rfl rfl hl.1 rfl (lv_room (Nat.le_of_ble_eq_true rfl)) de_L_law_412 ⟨(by show _ ≤ 601024; omega), (by show _ ≤ 7293034; omega)⟩) hS (fun r_8660 w_8658 H locs hq_8659 hP hS => ?_)
  obtain ⟨hr_8661, he_8662⟩ := hq_8659
  subst hr_8661
  rw [he_8662] at hP
  rw [he2]
  refine lv_iload hx hb de_L_law_415 (lv_at hl 1 rfl) ?_
  refine nx_icmp_eq (a := kk) (b := kk) (tgt := 422) hx hb (by omega) (by omega) de_L_law_417 (by decide) (fun c_8663 => ?_) (fun c_8663 => ?_)
  · refine lv_iload hx hb de_L_law_422 (lv_at hl 1 rfl) ?_
    refine nx_if_ne (a := kk) (tgt := 439) hx hb (by omega) de_L_law_424 (by decide) (fun c_8664 => ?_) (fun c_8664 => ?_)
    · refine lv_goto (tgt := 830) hx hb de_L_law_439 (by decide) ?_
      exact W.widen (by omega) (by omega) (KK st1 _ _ _ _ hs2 hP hS (lv_sub hl [2, 3, 4, 5, 6] rfl))
    · obtain ⟨f9, ho9, hf9⟩ := ho2 c_8664
      refine lv_aload_n hx hb de_L_law_427 rfl (lv_at hl 5 rfl) ?_
      refine lv_iconst (v := nI 0) hx hb de_L_law_428 (by decide) ?_
      refine dk_lald (a := o) hx hb hK hP ho9 0 rfl (by omega) (by omega) de_L_law_429 ?_
      refine lv_iload hx hb de_L_law_430 (lv_at hl 0 rfl) ?_
      refine lv_i2l (v := r_8657.toInt64) hx hb de_L_law_432 rfl ?_
      refine W.lcmp hx hb de_L_law_433 ?_
      rw [hf9, lw_cmp]
      refine lv_if_eq (tgt := 439) hx hb de_L_law_434 (by decide) (fun c_8665 => ?_) (fun c_8665 => ?_)
      · refine lv_goto (tgt := 830) hx hb de_L_law_439 (by decide) ?_
        exact W.widen (by omega) (by omega) (KK st1 _ _ _ _ hs2 hP hS (lv_sub hl [2, 3, 4, 5, 6] rfl))
      · exact absurd rfl c_8665
  · exact absurd rfl c_8663
set_option maxHeartbeats 4000000 in
set_option maxRecDepth 100000 in
theorem lw_snapshot {p : Program} {l : Launch} {e : Env} {s : State} {m : MethodId} {args : Array Value} {below : List Frame} {meth : Method} {c : Code} {Q : State → Prop} {G : dk_G} {H : Heap} {locs : List Loc} {ls : Array Slot} {b L : Nat} {xs : Nat → Int32} {w : dk_H} {h a o c9 st : Nat} {D : kp_D} {DM : md_D} (hx : p.tables.exec = Jvm.exec) (hb : c.code = code) (hml : c.maxLocals = 8) (hown : s.vm.findClass "RunKeeperLaw" = some m.cls) (hts : ∀ w ∈ wd_all, w.before args s = true) (hE : dk_E G s) (hX : va_X b L xs s s.heap) (hbl : b < s.heap.size) (hbA : ¬ dk_A G b) (hi : 5 * c9 + 5 ≤ L) (hL9 : L ≤ 2560) (hP : dk_P G w H) (hS : dk_S G s.heap H locs) (hl : lv_has ls 8 [(0, .ref b), (1, .ref h), (2, .ref a), (3, .ref o), (4, .int (nI (5 * c9)))]) (kk : Nat) (hkk : kk < 3) (rmL : Room) (mcL msL : Nat) (post1 : dk_H → Prop) (hLc : dk_Mi l my_L_snapshot (wd_h my_L_snapshot mb_L_snapshot 3 (some .int) [(0, 8, 11, 15)]) rmL G w [.ref h, .ref o] (fun r u => r = nI kk ∧ post1 u) mcL msL) (hrc : rmL.cells = mcL) (hrs : rmL.slots = msL) (hRf : rmL.frames + 1 ≤ 15) (hRl : 8 + (3 + 11) + rmL.locals ≤ 584) (hc1 : (100 + 24 * c9 + 5 * st) + mcL ≤ 601024) (hc2 : (30000 + 1650 * c9 + 1579 * st) + msL ≤ 7293034) (post2 : dk_H → Int32 → dk_H → Prop) (hMc : ∀ u, post1 u → (∃ fs, u a = some (100, .inr (cx_M, fs))) ∧ dk_Mi l my_M_snapshot (wd_c my_M_snapshot mb_M_snapshot 2 (some .int)) rm_M_snapshot G u [.ref a] (post2 u) 0 0) (hfin : ∀ u r v, post1 u → post2 u r v → (∃ μ2, md_at G v a DM μ2 ∧ μ2.er = kk) ∧ (kk = 0 → ∃ f, v o = some (90, dk_cl G 1 f) ∧ f 0 = r.toInt64) ∧ ∃ st1, lw_S G v h a o D DM (c9 + 1) st1 ∧ (100 + 24 * c9 + 5 * st) + mcL ≤ (100 + 24 * (c9 + 1) + 5 * st1) ∧ (30000 + 1650 * c9 + 1579 * st) + msL ≤ (30000 + 1650 * (c9 + 1) + 1579 * st1)) (KK : ∀ (st1 : Nat) (v1 : dk_H) (H1 : Heap) (locs1 : List Loc) (ls1 : Array Slot), lw_S G v1 h a o D DM (c9 + 1) st1 → dk_P G v1 H1 → dk_S G s.heap H1 locs1 → lv_has ls1 8 [(0, .ref b), (1, .ref h), (2, .ref a), (3, .ref o), (4, .int (nI (5 * c9)))] → W p l e room_1 s m args below meth c H1 locs1 (100 + 24 * (c9 + 1) + 5 * st1) (30000 + 1650 * (c9 + 1) + 1579 * st1) Q (F0 m 830 ls1 [])) : W p l e room_1 s m args below meth c H locs (100 + 24 * c9 + 5 * st) (30000 + 1650 * c9 + 1579 * st) Q (F0 m 455 ls []) := by
  have hK := hE.1
  have hN := hE.2.1
  refine lv_aload_n hx hb de_L_law_455 rfl (lv_at hl 1 rfl) ?_
  refine lv_aload_n hx hb de_L_law_456 rfl (lv_at hl 3 rfl) ?_
  refine dk_calli (dk_runH (n := 2) (As := [.ref h, .ref o]) (rest := []) ⟨hx, hb, hml, hown, hts⟩ hLc cwi_snapshot wi_569 wi_570 wi_0 hrc hrs ⟨hRf, hRl⟩ (by decide +kernel) (dk_preS hE hP hS) rfl rfl hl.1 rfl (lv_room (Nat.le_of_ble_eq_true rfl)) de_L_law_457 ⟨(by show _ ≤ 601024; omega), (by show _ ≤ 7293034; omega)⟩) hS (fun r9 u9 H locs hq9 hP hS => ?_)
  obtain ⟨hr9, hp1⟩ := hq9
  subst hr9
  obtain ⟨⟨fs9, ha9⟩, hM9⟩ := hMc _ hp1
  refine lv_istore (lv' := [(5, .int (nI kk)), (0, .ref b), (1, .ref h), (2, .ref a), (3, .ref o), (4, .int (nI (5 * c9)))]) hx hb de_L_law_460 hl (by decide) rfl (fun ls hl => ?_)
  refine lv_aload_n hx hb de_L_law_462 rfl (lv_at hl 3 rfl) ?_
  refine dk_calli (va_runV (As := []) (rest := []) ⟨hx, hb, hml, hown, hts⟩ hM9 (cwV 0 hts (wd_gV (C := "RunKeeperModel") wi_864 wi_861 wi_862 wi_863 wi_8) rfl rfl rfl (by decide +kernel) ⟨Nat.le_of_ble_eq_true rfl, Nat.le_of_ble_eq_true rfl⟩) (dk_preV (kn_M, kt_M, 22) hE hP hS ha9 rfl) rfl rfl hl.1 rfl (lv_room (Nat.le_of_ble_eq_true rfl)) de_L_law_463 ⟨(by show _ ≤ 601024; omega), (by show _ ≤ 7293034; omega)⟩) hS (fun r_8668 w_8666 H locs hq_8667 hP hS => ?_)
  obtain ⟨⟨μ2, hm2, he2⟩, ho2, st1, hs2, hc3, hc4⟩ := hfin _ _ _ hp1 hq_8667
  refine lv_istore (lv' := [(6, .int r_8668), (5, .int (nI kk)), (0, .ref b), (1, .ref h), (2, .ref a), (3, .ref o), (4, .int (nI (5 * c9)))]) hx hb de_L_law_466 hl (by decide) rfl (fun ls hl => ?_)
  refine lv_aload_n hx hb de_L_law_468 rfl (lv_at hl 4 rfl) ?_
  refine dk_calli (va_runV (As := []) (rest := []) ⟨hx, hb, hml, hown, hts⟩ (c_M_thrown l G w_8666 a DM μ2 hm2) (cwV 0 hts (wd_gV (C := "RunKeeperModel") wi_784 wi_781 wi_782 wi_783 wi_8) rfl rfl rfl (by decide +kernel) ⟨Nat.le_of_ble_eq_true rfl, Nat.le_of_ble_eq_true rfl⟩) (dk_preV (kn_M, kt_M, 22) hE hP hS hm2.o rfl) rfl rfl hl.1 rfl (lv_room (Nat.le_of_ble_eq_true rfl)) de_L_law_469 ⟨(by show _ ≤ 601024; omega), (by show _ ≤ 7293034; omega)⟩) hS (fun r_8671 w_8669 H locs hq_8670 hP hS => ?_)
  obtain ⟨hr_8672, he_8673⟩ := hq_8670
  subst hr_8672
  rw [he_8673] at hP
  rw [he2]
  refine lv_iload hx hb de_L_law_472 (lv_at hl 1 rfl) ?_
  refine nx_icmp_eq (a := kk) (b := kk) (tgt := 479) hx hb (by omega) (by omega) de_L_law_474 (by decide) (fun c_8674 => ?_) (fun c_8674 => ?_)
  · refine lv_iload hx hb de_L_law_479 (lv_at hl 1 rfl) ?_
    refine nx_if_ne (a := kk) (tgt := 496) hx hb (by omega) de_L_law_481 (by decide) (fun c_8675 => ?_) (fun c_8675 => ?_)
    · refine lv_goto (tgt := 830) hx hb de_L_law_496 (by decide) ?_
      exact W.widen (by omega) (by omega) (KK st1 _ _ _ _ hs2 hP hS (lv_sub hl [2, 3, 4, 5, 6] rfl))
    · obtain ⟨f9, ho9, hf9⟩ := ho2 c_8675
      refine lv_aload_n hx hb de_L_law_484 rfl (lv_at hl 5 rfl) ?_
      refine lv_iconst (v := nI 0) hx hb de_L_law_485 (by decide) ?_
      refine dk_lald (a := o) hx hb hK hP ho9 0 rfl (by omega) (by omega) de_L_law_486 ?_
      refine lv_iload hx hb de_L_law_487 (lv_at hl 0 rfl) ?_
      refine lv_i2l (v := r_8668.toInt64) hx hb de_L_law_489 rfl ?_
      refine W.lcmp hx hb de_L_law_490 ?_
      rw [hf9, lw_cmp]
      refine lv_if_eq (tgt := 496) hx hb de_L_law_491 (by decide) (fun c_8676 => ?_) (fun c_8676 => ?_)
      · refine lv_goto (tgt := 830) hx hb de_L_law_496 (by decide) ?_
        exact W.widen (by omega) (by omega) (KK st1 _ _ _ _ hs2 hP hS (lv_sub hl [2, 3, 4, 5, 6] rfl))
      · exact absurd rfl c_8676
  · exact absurd rfl c_8674
set_option maxHeartbeats 4000000 in
set_option maxRecDepth 100000 in
theorem lw_release {p : Program} {l : Launch} {e : Env} {s : State} {m : MethodId} {args : Array Value} {below : List Frame} {meth : Method} {c : Code} {Q : State → Prop} {G : dk_G} {H : Heap} {locs : List Loc} {ls : Array Slot} {b L : Nat} {xs : Nat → Int32} {w : dk_H} {h a o c9 st : Nat} {D : kp_D} {DM : md_D} (hx : p.tables.exec = Jvm.exec) (hb : c.code = code) (hml : c.maxLocals = 8) (hown : s.vm.findClass "RunKeeperLaw" = some m.cls) (hts : ∀ w ∈ wd_all, w.before args s = true) (hE : dk_E G s) (hX : va_X b L xs s s.heap) (hbl : b < s.heap.size) (hbA : ¬ dk_A G b) (hi : 5 * c9 + 5 ≤ L) (hL9 : L ≤ 2560) (hP : dk_P G w H) (hS : dk_S G s.heap H locs) (hl : lv_has ls 8 [(0, .ref b), (1, .ref h), (2, .ref a), (3, .ref o), (4, .int (nI (5 * c9)))]) (kk : Nat) (hkk : kk < 3) (rmL : Room) (mcL msL : Nat) (post1 : dk_H → Prop) (hLc : dk_Mi l my_L_release (wd_h my_L_release mb_L_release 3 (some .int) [(0, 5, 8, 13)]) rmL G w [.ref h, .int (xs (5 * c9 + 1))] (fun r u => r = nI kk ∧ post1 u) mcL msL) (hrc : rmL.cells = mcL) (hrs : rmL.slots = msL) (hRf : rmL.frames + 1 ≤ 15) (hRl : 8 + (3 + 11) + rmL.locals ≤ 584) (hc1 : (100 + 24 * c9 + 5 * st) + mcL ≤ 601024) (hc2 : (30000 + 1650 * c9 + 1579 * st) + msL ≤ 7293034) (post2 : dk_H → dk_H → Prop) (hMc : ∀ u, post1 u → (∃ fs, u a = some (100, .inr (cx_M, fs))) ∧ dk_Mv l my_M_release (wd_c my_M_release mb_M_release 2 none) rm_M_release G u [.ref a, .int (xs (5 * c9 + 1))] (post2 u) 0 0) (hfin : ∀ u v, post1 u → post2 u v → (∃ μ2, md_at G v a DM μ2 ∧ μ2.er = kk) ∧ ∃ st1, lw_S G v h a o D DM (c9 + 1) st1 ∧ (100 + 24 * c9 + 5 * st) + mcL ≤ (100 + 24 * (c9 + 1) + 5 * st1) ∧ (30000 + 1650 * c9 + 1579 * st) + msL ≤ (30000 + 1650 * (c9 + 1) + 1579 * st1)) (KK : ∀ (st1 : Nat) (v1 : dk_H) (H1 : Heap) (locs1 : List Loc) (ls1 : Array Slot), lw_S G v1 h a o D DM (c9 + 1) st1 → dk_P G v1 H1 → dk_S G s.heap H1 locs1 → lv_has ls1 8 [(0, .ref b), (1, .ref h), (2, .ref a), (3, .ref o), (4, .int (nI (5 * c9)))] → W p l e room_1 s m args below meth c H1 locs1 (100 + 24 * (c9 + 1) + 5 * st1) (30000 + 1650 * (c9 + 1) + 1579 * st1) Q (F0 m 830 ls1 [])) : W p l e room_1 s m args below meth c H locs (100 + 24 * c9 + 5 * st) (30000 + 1650 * c9 + 1579 * st) Q (F0 m 499 ls []) := by
  have hK := hE.1
  have hN := hE.2.1
  refine lv_aload_n hx hb de_L_law_499 rfl (lv_at hl 1 rfl) ?_
  refine lv_aload_n hx hb de_L_law_500 rfl (lv_at hl 0 rfl) ?_
  refine lv_iload hx hb de_L_law_501 (lv_at hl 4 rfl) ?_
  refine lv_iconst (v := nI 1) hx hb de_L_law_503 (by decide) ?_
  refine nx_iadd (a := 5 * c9) (b := 1) hx hb de_L_law_504 ?_
  refine lw_ld hx hb hX hbl hbA hS (j := 5 * c9 + 1) (by omega) (by omega) de_L_law_505 ?_
  refine dk_calli (dk_runH (n := 2) (As := [.ref h, .int (xs (5 * c9 + 1))]) (rest := []) ⟨hx, hb, hml, hown, hts⟩ hLc cwi_release wi_585 wi_586 wi_0 hrc hrs ⟨hRf, hRl⟩ (by decide +kernel) (dk_preS hE hP hS) rfl rfl hl.1 rfl (lv_room (Nat.le_of_ble_eq_true rfl)) de_L_law_506 ⟨(by show _ ≤ 601024; omega), (by show _ ≤ 7293034; omega)⟩) hS (fun r9 u9 H locs hq9 hP hS => ?_)
  obtain ⟨hr9, hp1⟩ := hq9
  subst hr9
  obtain ⟨⟨fs9, ha9⟩, hM9⟩ := hMc _ hp1
  refine lv_istore (lv' := [(5, .int (nI kk)), (0, .ref b), (1, .ref h), (2, .ref a), (3, .ref o), (4, .int (nI (5 * c9)))]) hx hb de_L_law_509 hl (by decide) rfl (fun ls hl => ?_)
  refine lv_aload_n hx hb de_L_law_511 rfl (lv_at hl 3 rfl) ?_
  refine lv_aload_n hx hb de_L_law_512 rfl (lv_at hl 1 rfl) ?_
  refine lv_iload hx hb de_L_law_513 (lv_at hl 5 rfl) ?_
  refine lv_iconst (v := nI 1) hx hb de_L_law_515 (by decide) ?_
  refine nx_iadd (a := 5 * c9) (b := 1) hx hb de_L_law_516 ?_
  refine lw_ld hx hb hX hbl hbA hS (j := 5 * c9 + 1) (by omega) (by omega) de_L_law_517 ?_
  refine dk_callv (va_runV (As := [.int (xs (5 * c9 + 1))]) (rest := []) ⟨hx, hb, hml, hown, hts⟩ hM9 (cwV 1 hts (wd_gV (C := "RunKeeperModel") wi_868 wi_865 wi_866 wi_867 wi_8) rfl rfl rfl (by decide +kernel) ⟨Nat.le_of_ble_eq_true rfl, Nat.le_of_ble_eq_true rfl⟩) (dk_preV (kn_M, kt_M, 22) hE hP hS ha9 rfl) rfl rfl hl.1 rfl (lv_room (Nat.le_of_ble_eq_true rfl)) de_L_law_518 ⟨(by show _ ≤ 601024; omega), (by show _ ≤ 7293034; omega)⟩) hS (fun w_8677 H locs hq_8678 hP hS => ?_)
  obtain ⟨⟨μ2, hm2, he2⟩, st1, hs2, hc3, hc4⟩ := hfin _ _ hp1 hq_8678
  refine lv_aload_n hx hb de_L_law_521 rfl (lv_at hl 3 rfl) ?_
  refine dk_calli (va_runV (As := []) (rest := []) ⟨hx, hb, hml, hown, hts⟩ (c_M_thrown l G w_8677 a DM μ2 hm2) (cwV 0 hts (wd_gV (C := "RunKeeperModel") wi_784 wi_781 wi_782 wi_783 wi_8) rfl rfl rfl (by decide +kernel) ⟨Nat.le_of_ble_eq_true rfl, Nat.le_of_ble_eq_true rfl⟩) (dk_preV (kn_M, kt_M, 22) hE hP hS hm2.o rfl) rfl rfl hl.1 rfl (lv_room (Nat.le_of_ble_eq_true rfl)) de_L_law_522 ⟨(by show _ ≤ 601024; omega), (by show _ ≤ 7293034; omega)⟩) hS (fun r_8682 w_8680 H locs hq_8681 hP hS => ?_)
  obtain ⟨hr_8683, he_8684⟩ := hq_8681
  subst hr_8683
  rw [he_8684] at hP
  rw [he2]
  refine lv_iload hx hb de_L_law_525 (lv_at hl 0 rfl) ?_
  refine nx_icmp_eq (a := kk) (b := kk) (tgt := 532) hx hb (by omega) (by omega) de_L_law_527 (by decide) (fun c_8685 => ?_) (fun c_8685 => ?_)
  · refine lv_goto (tgt := 830) hx hb de_L_law_532 (by decide) ?_
    exact W.widen (by omega) (by omega) (KK st1 _ _ _ _ hs2 hP hS (lv_sub hl [1, 2, 3, 4, 5] rfl))
  · exact absurd rfl c_8685
set_option maxHeartbeats 4000000 in
set_option maxRecDepth 100000 in
theorem lw_get {p : Program} {l : Launch} {e : Env} {s : State} {m : MethodId} {args : Array Value} {below : List Frame} {meth : Method} {c : Code} {Q : State → Prop} {G : dk_G} {H : Heap} {locs : List Loc} {ls : Array Slot} {b L : Nat} {xs : Nat → Int32} {w : dk_H} {h a o c9 st : Nat} {D : kp_D} {DM : md_D} (hx : p.tables.exec = Jvm.exec) (hb : c.code = code) (hml : c.maxLocals = 8) (hown : s.vm.findClass "RunKeeperLaw" = some m.cls) (hts : ∀ w ∈ wd_all, w.before args s = true) (hE : dk_E G s) (hX : va_X b L xs s s.heap) (hbl : b < s.heap.size) (hbA : ¬ dk_A G b) (hi : 5 * c9 + 5 ≤ L) (hL9 : L ≤ 2560) (hP : dk_P G w H) (hS : dk_S G s.heap H locs) (hl : lv_has ls 8 [(0, .ref b), (1, .ref h), (2, .ref a), (3, .ref o), (4, .int (nI (5 * c9)))]) (kk : Nat) (hkk : kk < 3) (rmL : Room) (mcL msL : Nat) (post1 : dk_H → Prop) (hLc : dk_Mi l my_L_get (wd_h my_L_get mb_L_get 5 (some .int) [(0, 9, 12, 13), (0, 9, 16, 45)]) rmL G w [.ref h, .int (xs (5 * c9 + 1)), .int (xs (5 * c9 + 2)), .ref o] (fun r u => r = nI kk ∧ post1 u) mcL msL) (hrc : rmL.cells = mcL) (hrs : rmL.slots = msL) (hRf : rmL.frames + 1 ≤ 15) (hRl : 8 + (5 + 11) + rmL.locals ≤ 584) (hc1 : (100 + 24 * c9 + 5 * st) + mcL ≤ 601024) (hc2 : (30000 + 1650 * c9 + 1579 * st) + msL ≤ 7293034) (post2 : dk_H → Int64 → dk_H → Prop) (hMc : ∀ u, post1 u → (∃ fs, u a = some (100, .inr (cx_M, fs))) ∧ dk_Ml l my_M_get (wd_c my_M_get mb_M_get 4 (some .long)) rm_M_get G u [.ref a, .int (xs (5 * c9 + 1)), .int (xs (5 * c9 + 2))] (post2 u) 0 0) (hfin : ∀ u r v, post1 u → post2 u r v → (∃ μ2, md_at G v a DM μ2 ∧ μ2.er = kk) ∧ (kk = 0 → ∃ f, v o = some (90, dk_cl G 1 f) ∧ f 0 = r) ∧ ∃ st1, lw_S G v h a o D DM (c9 + 1) st1 ∧ (100 + 24 * c9 + 5 * st) + mcL ≤ (100 + 24 * (c9 + 1) + 5 * st1) ∧ (30000 + 1650 * c9 + 1579 * st) + msL ≤ (30000 + 1650 * (c9 + 1) + 1579 * st1)) (KK : ∀ (st1 : Nat) (v1 : dk_H) (H1 : Heap) (locs1 : List Loc) (ls1 : Array Slot), lw_S G v1 h a o D DM (c9 + 1) st1 → dk_P G v1 H1 → dk_S G s.heap H1 locs1 → lv_has ls1 8 [(0, .ref b), (1, .ref h), (2, .ref a), (3, .ref o), (4, .int (nI (5 * c9)))] → W p l e room_1 s m args below meth c H1 locs1 (100 + 24 * (c9 + 1) + 5 * st1) (30000 + 1650 * (c9 + 1) + 1579 * st1) Q (F0 m 830 ls1 [])) : W p l e room_1 s m args below meth c H locs (100 + 24 * c9 + 5 * st) (30000 + 1650 * c9 + 1579 * st) Q (F0 m 535 ls []) := by
  have hK := hE.1
  have hN := hE.2.1
  refine lv_aload_n hx hb de_L_law_535 rfl (lv_at hl 1 rfl) ?_
  refine lv_aload_n hx hb de_L_law_536 rfl (lv_at hl 0 rfl) ?_
  refine lv_iload hx hb de_L_law_537 (lv_at hl 4 rfl) ?_
  refine lv_iconst (v := nI 1) hx hb de_L_law_539 (by decide) ?_
  refine nx_iadd (a := 5 * c9) (b := 1) hx hb de_L_law_540 ?_
  refine lw_ld hx hb hX hbl hbA hS (j := 5 * c9 + 1) (by omega) (by omega) de_L_law_541 ?_
  refine lv_aload_n hx hb de_L_law_542 rfl (lv_at hl 0 rfl) ?_
  refine lv_iload hx hb de_L_law_543 (lv_at hl 4 rfl) ?_
  refine lv_iconst (v := nI 2) hx hb de_L_law_545 (by decide) ?_
  refine nx_iadd (a := 5 * c9) (b := 2) hx hb de_L_law_546 ?_
  refine lw_ld hx hb hX hbl hbA hS (j := 5 * c9 + 2) (by omega) (by omega) de_L_law_547 ?_
  refine lv_aload_n hx hb de_L_law_548 rfl (lv_at hl 3 rfl) ?_
  refine dk_calli (dk_runH (n := 4) (As := [.ref h, .int (xs (5 * c9 + 1)), .int (xs (5 * c9 + 2)), .ref o]) (rest := []) ⟨hx, hb, hml, hown, hts⟩ hLc cwi_get wi_602 wi_603 wi_0 hrc hrs ⟨hRf, hRl⟩ (by decide +kernel) (dk_preS hE hP hS) rfl rfl hl.1 rfl (lv_room (Nat.le_of_ble_eq_true rfl)) de_L_law_549 ⟨(by show _ ≤ 601024; omega), (by show _ ≤ 7293034; omega)⟩) hS (fun r9 u9 H locs hq9 hP hS => ?_)
  obtain ⟨hr9, hp1⟩ := hq9
  subst hr9
  obtain ⟨⟨fs9, ha9⟩, hM9⟩ := hMc _ hp1
  refine lv_istore (lv' := [(5, .int (nI kk)), (0, .ref b), (1, .ref h), (2, .ref a), (3, .ref o), (4, .int (nI (5 * c9)))]) hx hb de_L_law_552 hl (by decide) rfl (fun ls hl => ?_)
  refine lv_aload_n hx hb de_L_law_554 rfl (lv_at hl 3 rfl) ?_
  refine lv_aload_n hx hb de_L_law_555 rfl (lv_at hl 1 rfl) ?_
  refine lv_iload hx hb de_L_law_556 (lv_at hl 5 rfl) ?_
  refine lv_iconst (v := nI 1) hx hb de_L_law_558 (by decide) ?_
  refine nx_iadd (a := 5 * c9) (b := 1) hx hb de_L_law_559 ?_
  refine lw_ld hx hb hX hbl hbA hS (j := 5 * c9 + 1) (by omega) (by omega) de_L_law_560 ?_
  refine lv_aload_n hx hb de_L_law_561 rfl (lv_at hl 1 rfl) ?_
  refine lv_iload hx hb de_L_law_562 (lv_at hl 5 rfl) ?_
  refine lv_iconst (v := nI 2) hx hb de_L_law_564 (by decide) ?_
  refine nx_iadd (a := 5 * c9) (b := 2) hx hb de_L_law_565 ?_
  refine lw_ld hx hb hX hbl hbA hS (j := 5 * c9 + 2) (by omega) (by omega) de_L_law_566 ?_
  refine dk_calll (va_runV (As := [.int (xs (5 * c9 + 1)), .int (xs (5 * c9 + 2))]) (rest := []) ⟨hx, hb, hml, hown, hts⟩ hM9 (cwV 2 hts (wd_gV (C := "RunKeeperModel") wi_876 wi_873 wi_874 wi_875 wi_8) rfl rfl rfl (by decide +kernel) ⟨Nat.le_of_ble_eq_true rfl, Nat.le_of_ble_eq_true rfl⟩) (dk_preV (kn_M, kt_M, 22) hE hP hS ha9 rfl) rfl rfl hl.1 rfl (lv_room (Nat.le_of_ble_eq_true rfl)) de_L_law_567 ⟨(by show _ ≤ 601024; omega), (by show _ ≤ 7293034; omega)⟩) hS (fun r_8688 w_8686 H locs hq_8687 hP hS => ?_)
  obtain ⟨⟨μ2, hm2, he2⟩, ho2, st1, hs2, hc3, hc4⟩ := hfin _ _ _ hp1 hq_8687
  refine lv_lstore (lv' := [(6, .long r_8688), (5, .int (nI kk)), (0, .ref b), (1, .ref h), (2, .ref a), (3, .ref o), (4, .int (nI (5 * c9)))]) hx hb de_L_law_570 hl (by decide) rfl (fun ls hl => ?_)
  refine lv_aload_n hx hb de_L_law_572 rfl (lv_at hl 4 rfl) ?_
  refine dk_calli (va_runV (As := []) (rest := []) ⟨hx, hb, hml, hown, hts⟩ (c_M_thrown l G w_8686 a DM μ2 hm2) (cwV 0 hts (wd_gV (C := "RunKeeperModel") wi_784 wi_781 wi_782 wi_783 wi_8) rfl rfl rfl (by decide +kernel) ⟨Nat.le_of_ble_eq_true rfl, Nat.le_of_ble_eq_true rfl⟩) (dk_preV (kn_M, kt_M, 22) hE hP hS hm2.o rfl) rfl rfl hl.1 rfl (lv_room (Nat.le_of_ble_eq_true rfl)) de_L_law_573 ⟨(by show _ ≤ 601024; omega), (by show _ ≤ 7293034; omega)⟩) hS (fun r_8691 w_8689 H locs hq_8690 hP hS => ?_)
  obtain ⟨hr_8692, he_8693⟩ := hq_8690
  subst hr_8692
  rw [he_8693] at hP
  rw [he2]
  refine lv_iload hx hb de_L_law_576 (lv_at hl 1 rfl) ?_
  refine nx_icmp_eq (a := kk) (b := kk) (tgt := 583) hx hb (by omega) (by omega) de_L_law_578 (by decide) (fun c_8694 => ?_) (fun c_8694 => ?_)
  · refine lv_iload hx hb de_L_law_583 (lv_at hl 1 rfl) ?_
    refine nx_if_ne (a := kk) (tgt := 599) hx hb (by omega) de_L_law_585 (by decide) (fun c_8695 => ?_) (fun c_8695 => ?_)
    · refine lv_goto (tgt := 830) hx hb de_L_law_599 (by decide) ?_
      exact W.widen (by omega) (by omega) (KK st1 _ _ _ _ hs2 hP hS (lv_sub hl [2, 3, 4, 5, 6] rfl))
    · obtain ⟨f9, ho9, hf9⟩ := ho2 c_8695
      refine lv_aload_n hx hb de_L_law_588 rfl (lv_at hl 5 rfl) ?_
      refine lv_iconst (v := nI 0) hx hb de_L_law_589 (by decide) ?_
      refine dk_lald (a := o) hx hb hK hP ho9 0 rfl (by omega) (by omega) de_L_law_590 ?_
      refine lv_lload hx hb de_L_law_591 (lv_at hl 0 rfl) ?_
      refine W.lcmp hx hb de_L_law_593 ?_
      rw [hf9, lw_cmp]
      refine lv_if_eq (tgt := 599) hx hb de_L_law_594 (by decide) (fun c_8696 => ?_) (fun c_8696 => ?_)
      · refine lv_goto (tgt := 830) hx hb de_L_law_599 (by decide) ?_
        exact W.widen (by omega) (by omega) (KK st1 _ _ _ _ hs2 hP hS (lv_sub hl [2, 3, 4, 5, 6] rfl))
      · exact absurd rfl c_8696
  · exact absurd rfl c_8694
set_option maxHeartbeats 4000000 in
set_option maxRecDepth 100000 in
theorem lw_next {p : Program} {l : Launch} {e : Env} {s : State} {m : MethodId} {args : Array Value} {below : List Frame} {meth : Method} {c : Code} {Q : State → Prop} {G : dk_G} {H : Heap} {locs : List Loc} {ls : Array Slot} {b L : Nat} {xs : Nat → Int32} {w : dk_H} {h a o c9 st : Nat} {D : kp_D} {DM : md_D} (hx : p.tables.exec = Jvm.exec) (hb : c.code = code) (hml : c.maxLocals = 8) (hown : s.vm.findClass "RunKeeperLaw" = some m.cls) (hts : ∀ w ∈ wd_all, w.before args s = true) (hE : dk_E G s) (hX : va_X b L xs s s.heap) (hbl : b < s.heap.size) (hbA : ¬ dk_A G b) (hi : 5 * c9 + 5 ≤ L) (hL9 : L ≤ 2560) (hP : dk_P G w H) (hS : dk_S G s.heap H locs) (hl : lv_has ls 8 [(0, .ref b), (1, .ref h), (2, .ref a), (3, .ref o), (4, .int (nI (5 * c9)))]) (kk : Nat) (hkk : kk < 3) (rmL : Room) (mcL msL : Nat) (post1 : dk_H → Prop) (hLc : dk_Mi l my_L_next (wd_h my_L_next mb_L_next 5 (some .int) [(0, 10, 13, 13)]) rmL G w [.ref h, .int (xs (5 * c9 + 1)), .int (xs (5 * c9 + 2)), .ref o] (fun r u => r = nI kk ∧ post1 u) mcL msL) (hrc : rmL.cells = mcL) (hrs : rmL.slots = msL) (hRf : rmL.frames + 1 ≤ 15) (hRl : 8 + (5 + 11) + rmL.locals ≤ 584) (hc1 : (100 + 24 * c9 + 5 * st) + mcL ≤ 601024) (hc2 : (30000 + 1650 * c9 + 1579 * st) + msL ≤ 7293034) (post2 : dk_H → Int32 → dk_H → Prop) (hMc : ∀ u, post1 u → (∃ fs, u a = some (100, .inr (cx_M, fs))) ∧ dk_Mi l my_M_next (wd_c my_M_next mb_M_next 5 (some .int)) rm_M_next G u [.ref a, .int (xs (5 * c9 + 1)), .int (xs (5 * c9 + 2))] (post2 u) 0 0) (hfin : ∀ u r v, post1 u → post2 u r v → (∃ μ2, md_at G v a DM μ2 ∧ μ2.er = kk) ∧ (kk = 0 → ∃ f, v o = some (90, dk_cl G 1 f) ∧ f 0 = r.toInt64) ∧ ∃ st1, lw_S G v h a o D DM (c9 + 1) st1 ∧ (100 + 24 * c9 + 5 * st) + mcL ≤ (100 + 24 * (c9 + 1) + 5 * st1) ∧ (30000 + 1650 * c9 + 1579 * st) + msL ≤ (30000 + 1650 * (c9 + 1) + 1579 * st1)) (KK : ∀ (st1 : Nat) (v1 : dk_H) (H1 : Heap) (locs1 : List Loc) (ls1 : Array Slot), lw_S G v1 h a o D DM (c9 + 1) st1 → dk_P G v1 H1 → dk_S G s.heap H1 locs1 → lv_has ls1 8 [(0, .ref b), (1, .ref h), (2, .ref a), (3, .ref o), (4, .int (nI (5 * c9)))] → W p l e room_1 s m args below meth c H1 locs1 (100 + 24 * (c9 + 1) + 5 * st1) (30000 + 1650 * (c9 + 1) + 1579 * st1) Q (F0 m 830 ls1 [])) : W p l e room_1 s m args below meth c H locs (100 + 24 * c9 + 5 * st) (30000 + 1650 * c9 + 1579 * st) Q (F0 m 602 ls []) := by
  have hK := hE.1
  have hN := hE.2.1
  refine lv_aload_n hx hb de_L_law_602 rfl (lv_at hl 1 rfl) ?_
  refine lv_aload_n hx hb de_L_law_603 rfl (lv_at hl 0 rfl) ?_
  refine lv_iload hx hb de_L_law_604 (lv_at hl 4 rfl) ?_
  refine lv_iconst (v := nI 1) hx hb de_L_law_606 (by decide) ?_
  refine nx_iadd (a := 5 * c9) (b := 1) hx hb de_L_law_607 ?_
  refine lw_ld hx hb hX hbl hbA hS (j := 5 * c9 + 1) (by omega) (by omega) de_L_law_608 ?_
  refine lv_aload_n hx hb de_L_law_609 rfl (lv_at hl 0 rfl) ?_
  refine lv_iload hx hb de_L_law_610 (lv_at hl 4 rfl) ?_
  refine lv_iconst (v := nI 2) hx hb de_L_law_612 (by decide) ?_
  refine nx_iadd (a := 5 * c9) (b := 2) hx hb de_L_law_613 ?_
  refine lw_ld hx hb hX hbl hbA hS (j := 5 * c9 + 2) (by omega) (by omega) de_L_law_614 ?_
  refine lv_aload_n hx hb de_L_law_615 rfl (lv_at hl 3 rfl) ?_
  refine dk_calli (dk_runH (n := 4) (As := [.ref h, .int (xs (5 * c9 + 1)), .int (xs (5 * c9 + 2)), .ref o]) (rest := []) ⟨hx, hb, hml, hown, hts⟩ hLc cwi_next wi_672 wi_673 wi_0 hrc hrs ⟨hRf, hRl⟩ (by decide +kernel) (dk_preS hE hP hS) rfl rfl hl.1 rfl (lv_room (Nat.le_of_ble_eq_true rfl)) de_L_law_616 ⟨(by show _ ≤ 601024; omega), (by show _ ≤ 7293034; omega)⟩) hS (fun r9 u9 H locs hq9 hP hS => ?_)
  obtain ⟨hr9, hp1⟩ := hq9
  subst hr9
  obtain ⟨⟨fs9, ha9⟩, hM9⟩ := hMc _ hp1
  refine lv_istore (lv' := [(5, .int (nI kk)), (0, .ref b), (1, .ref h), (2, .ref a), (3, .ref o), (4, .int (nI (5 * c9)))]) hx hb de_L_law_619 hl (by decide) rfl (fun ls hl => ?_)
  refine lv_aload_n hx hb de_L_law_621 rfl (lv_at hl 3 rfl) ?_
  refine lv_aload_n hx hb de_L_law_622 rfl (lv_at hl 1 rfl) ?_
  refine lv_iload hx hb de_L_law_623 (lv_at hl 5 rfl) ?_
  refine lv_iconst (v := nI 1) hx hb de_L_law_625 (by decide) ?_
  refine nx_iadd (a := 5 * c9) (b := 1) hx hb de_L_law_626 ?_
  refine lw_ld hx hb hX hbl hbA hS (j := 5 * c9 + 1) (by omega) (by omega) de_L_law_627 ?_
  refine lv_aload_n hx hb de_L_law_628 rfl (lv_at hl 1 rfl) ?_
  refine lv_iload hx hb de_L_law_629 (lv_at hl 5 rfl) ?_
  refine lv_iconst (v := nI 2) hx hb de_L_law_631 (by decide) ?_
  refine nx_iadd (a := 5 * c9) (b := 2) hx hb de_L_law_632 ?_
  refine lw_ld hx hb hX hbl hbA hS (j := 5 * c9 + 2) (by omega) (by omega) de_L_law_633 ?_
  refine dk_calli (va_runV (As := [.int (xs (5 * c9 + 1)), .int (xs (5 * c9 + 2))]) (rest := []) ⟨hx, hb, hml, hown, hts⟩ hM9 (cwV 2 hts (wd_gV (C := "RunKeeperModel") wi_902 wi_899 wi_900 wi_901 wi_8) rfl rfl rfl (by decide +kernel) ⟨Nat.le_of_ble_eq_true rfl, Nat.le_of_ble_eq_true rfl⟩) (dk_preV (kn_M, kt_M, 22) hE hP hS ha9 rfl) rfl rfl hl.1 rfl (lv_room (Nat.le_of_ble_eq_true rfl)) de_L_law_634 ⟨(by show _ ≤ 601024; omega), (by show _ ≤ 7293034; omega)⟩) hS (fun r_8699 w_8697 H locs hq_8698 hP hS => ?_)
  obtain ⟨⟨μ2, hm2, he2⟩, ho2, st1, hs2, hc3, hc4⟩ := hfin _ _ _ hp1 hq_8698
  refine lv_istore (lv' := [(6, .int r_8699), (5, .int (nI kk)), (0, .ref b), (1, .ref h), (2, .ref a), (3, .ref o), (4, .int (nI (5 * c9)))]) hx hb de_L_law_637 hl (by decide) rfl (fun ls hl => ?_)
  refine lv_aload_n hx hb de_L_law_639 rfl (lv_at hl 4 rfl) ?_
  refine dk_calli (va_runV (As := []) (rest := []) ⟨hx, hb, hml, hown, hts⟩ (c_M_thrown l G w_8697 a DM μ2 hm2) (cwV 0 hts (wd_gV (C := "RunKeeperModel") wi_784 wi_781 wi_782 wi_783 wi_8) rfl rfl rfl (by decide +kernel) ⟨Nat.le_of_ble_eq_true rfl, Nat.le_of_ble_eq_true rfl⟩) (dk_preV (kn_M, kt_M, 22) hE hP hS hm2.o rfl) rfl rfl hl.1 rfl (lv_room (Nat.le_of_ble_eq_true rfl)) de_L_law_640 ⟨(by show _ ≤ 601024; omega), (by show _ ≤ 7293034; omega)⟩) hS (fun r_8702 w_8700 H locs hq_8701 hP hS => ?_)
  obtain ⟨hr_8703, he_8704⟩ := hq_8701
  subst hr_8703
  rw [he_8704] at hP
  rw [he2]
  refine lv_iload hx hb de_L_law_643 (lv_at hl 1 rfl) ?_
  refine nx_icmp_eq (a := kk) (b := kk) (tgt := 650) hx hb (by omega) (by omega) de_L_law_645 (by decide) (fun c_8705 => ?_) (fun c_8705 => ?_)
  · refine lv_iload hx hb de_L_law_650 (lv_at hl 1 rfl) ?_
    refine nx_if_ne (a := kk) (tgt := 667) hx hb (by omega) de_L_law_652 (by decide) (fun c_8706 => ?_) (fun c_8706 => ?_)
    · refine lv_goto (tgt := 830) hx hb de_L_law_667 (by decide) ?_
      exact W.widen (by omega) (by omega) (KK st1 _ _ _ _ hs2 hP hS (lv_sub hl [2, 3, 4, 5, 6] rfl))
    · obtain ⟨f9, ho9, hf9⟩ := ho2 c_8706
      refine lv_aload_n hx hb de_L_law_655 rfl (lv_at hl 5 rfl) ?_
      refine lv_iconst (v := nI 0) hx hb de_L_law_656 (by decide) ?_
      refine dk_lald (a := o) hx hb hK hP ho9 0 rfl (by omega) (by omega) de_L_law_657 ?_
      refine lv_iload hx hb de_L_law_658 (lv_at hl 0 rfl) ?_
      refine lv_i2l (v := r_8699.toInt64) hx hb de_L_law_660 rfl ?_
      refine W.lcmp hx hb de_L_law_661 ?_
      rw [hf9, lw_cmp]
      refine lv_if_eq (tgt := 667) hx hb de_L_law_662 (by decide) (fun c_8707 => ?_) (fun c_8707 => ?_)
      · refine lv_goto (tgt := 830) hx hb de_L_law_667 (by decide) ?_
        exact W.widen (by omega) (by omega) (KK st1 _ _ _ _ hs2 hP hS (lv_sub hl [2, 3, 4, 5, 6] rfl))
      · exact absurd rfl c_8707
  · exact absurd rfl c_8705
set_option maxHeartbeats 4000000 in
set_option maxRecDepth 100000 in
theorem lw_entry {p : Program} {l : Launch} {e : Env} {s : State} {m : MethodId} {args : Array Value} {below : List Frame} {meth : Method} {c : Code} {Q : State → Prop} {G : dk_G} {H : Heap} {locs : List Loc} {ls : Array Slot} {b L : Nat} {xs : Nat → Int32} {w : dk_H} {h a o c9 st : Nat} {D : kp_D} {DM : md_D} (hx : p.tables.exec = Jvm.exec) (hb : c.code = code) (hml : c.maxLocals = 8) (hown : s.vm.findClass "RunKeeperLaw" = some m.cls) (hts : ∀ w ∈ wd_all, w.before args s = true) (hE : dk_E G s) (hX : va_X b L xs s s.heap) (hbl : b < s.heap.size) (hbA : ¬ dk_A G b) (hi : 5 * c9 + 5 ≤ L) (hL9 : L ≤ 2560) (hP : dk_P G w H) (hS : dk_S G s.heap H locs) (hl : lv_has ls 8 [(0, .ref b), (1, .ref h), (2, .ref a), (3, .ref o), (4, .int (nI (5 * c9)))]) (kk : Nat) (hkk : kk < 3) (rmL : Room) (mcL msL : Nat) (post1 : dk_H → Prop) (hLc : dk_Mi l my_L_entry (wd_h my_L_entry mb_L_entry 7 (some .int) [(0, 14, 17, 13), (0, 14, 21, 15)]) rmL G w [.ref h, .int (xs (5 * c9 + 1)), .int (xs (5 * c9 + 2)), .int (xs (5 * c9 + 3)), .int (xs (5 * c9 + 4)), .ref o] (fun r u => r = nI kk ∧ post1 u) mcL msL) (hrc : rmL.cells = mcL) (hrs : rmL.slots = msL) (hRf : rmL.frames + 1 ≤ 15) (hRl : 8 + (7 + 11) + rmL.locals ≤ 584) (hc1 : (100 + 24 * c9 + 5 * st) + mcL ≤ 601024) (hc2 : (30000 + 1650 * c9 + 1579 * st) + msL ≤ 7293034) (post2 : dk_H → Int32 → dk_H → Prop) (hMc : ∀ u, post1 u → (∃ fs, u a = some (100, .inr (cx_M, fs))) ∧ dk_Mi l my_M_entry (wd_c my_M_entry mb_M_entry 9 (some .int)) rm_M_entry G u [.ref a, .int (xs (5 * c9 + 1)), .int (xs (5 * c9 + 2)), .int (xs (5 * c9 + 3)), .int (xs (5 * c9 + 4))] (post2 u) 0 0) (hfin : ∀ u r v, post1 u → post2 u r v → (∃ μ2, md_at G v a DM μ2 ∧ μ2.er = kk) ∧ (kk = 0 → ∃ f, v o = some (90, dk_cl G 1 f) ∧ f 0 = r.toInt64) ∧ ∃ st1, lw_S G v h a o D DM (c9 + 1) st1 ∧ (100 + 24 * c9 + 5 * st) + mcL ≤ (100 + 24 * (c9 + 1) + 5 * st1) ∧ (30000 + 1650 * c9 + 1579 * st) + msL ≤ (30000 + 1650 * (c9 + 1) + 1579 * st1)) (KK : ∀ (st1 : Nat) (v1 : dk_H) (H1 : Heap) (locs1 : List Loc) (ls1 : Array Slot), lw_S G v1 h a o D DM (c9 + 1) st1 → dk_P G v1 H1 → dk_S G s.heap H1 locs1 → lv_has ls1 8 [(0, .ref b), (1, .ref h), (2, .ref a), (3, .ref o), (4, .int (nI (5 * c9)))] → W p l e room_1 s m args below meth c H1 locs1 (100 + 24 * (c9 + 1) + 5 * st1) (30000 + 1650 * (c9 + 1) + 1579 * st1) Q (F0 m 830 ls1 [])) : W p l e room_1 s m args below meth c H locs (100 + 24 * c9 + 5 * st) (30000 + 1650 * c9 + 1579 * st) Q (F0 m 670 ls []) := by
  have hK := hE.1
  have hN := hE.2.1
  refine lv_aload_n hx hb de_L_law_670 rfl (lv_at hl 1 rfl) ?_
  refine lv_aload_n hx hb de_L_law_671 rfl (lv_at hl 0 rfl) ?_
  refine lv_iload hx hb de_L_law_672 (lv_at hl 4 rfl) ?_
  refine lv_iconst (v := nI 1) hx hb de_L_law_674 (by decide) ?_
  refine nx_iadd (a := 5 * c9) (b := 1) hx hb de_L_law_675 ?_
  refine lw_ld hx hb hX hbl hbA hS (j := 5 * c9 + 1) (by omega) (by omega) de_L_law_676 ?_
  refine lv_aload_n hx hb de_L_law_677 rfl (lv_at hl 0 rfl) ?_
  refine lv_iload hx hb de_L_law_678 (lv_at hl 4 rfl) ?_
  refine lv_iconst (v := nI 2) hx hb de_L_law_680 (by decide) ?_
  refine nx_iadd (a := 5 * c9) (b := 2) hx hb de_L_law_681 ?_
  refine lw_ld hx hb hX hbl hbA hS (j := 5 * c9 + 2) (by omega) (by omega) de_L_law_682 ?_
  refine lv_aload_n hx hb de_L_law_683 rfl (lv_at hl 0 rfl) ?_
  refine lv_iload hx hb de_L_law_684 (lv_at hl 4 rfl) ?_
  refine lv_iconst (v := nI 3) hx hb de_L_law_686 (by decide) ?_
  refine nx_iadd (a := 5 * c9) (b := 3) hx hb de_L_law_687 ?_
  refine lw_ld hx hb hX hbl hbA hS (j := 5 * c9 + 3) (by omega) (by omega) de_L_law_688 ?_
  refine lv_aload_n hx hb de_L_law_689 rfl (lv_at hl 0 rfl) ?_
  refine lv_iload hx hb de_L_law_690 (lv_at hl 4 rfl) ?_
  refine lv_iconst (v := nI 4) hx hb de_L_law_692 (by decide) ?_
  refine nx_iadd (a := 5 * c9) (b := 4) hx hb de_L_law_693 ?_
  refine lw_ld hx hb hX hbl hbA hS (j := 5 * c9 + 4) (by omega) (by omega) de_L_law_694 ?_
  refine lv_aload_n hx hb de_L_law_695 rfl (lv_at hl 3 rfl) ?_
  refine dk_calli (dk_runH (n := 6) (As := [.ref h, .int (xs (5 * c9 + 1)), .int (xs (5 * c9 + 2)), .int (xs (5 * c9 + 3)), .int (xs (5 * c9 + 4)), .ref o]) (rest := []) ⟨hx, hb, hml, hown, hts⟩ hLc cwi_entry wi_687 wi_688 wi_0 hrc hrs ⟨hRf, hRl⟩ (by decide +kernel) (dk_preS hE hP hS) rfl rfl hl.1 rfl (lv_room (Nat.le_of_ble_eq_true rfl)) de_L_law_696 ⟨(by show _ ≤ 601024; omega), (by show _ ≤ 7293034; omega)⟩) hS (fun r9 u9 H locs hq9 hP hS => ?_)
  obtain ⟨hr9, hp1⟩ := hq9
  subst hr9
  obtain ⟨⟨fs9, ha9⟩, hM9⟩ := hMc _ hp1
  refine lv_istore (lv' := [(5, .int (nI kk)), (0, .ref b), (1, .ref h), (2, .ref a), (3, .ref o), (4, .int (nI (5 * c9)))]) hx hb de_L_law_699 hl (by decide) rfl (fun ls hl => ?_)
  refine lv_aload_n hx hb de_L_law_701 rfl (lv_at hl 3 rfl) ?_
  refine lv_aload_n hx hb de_L_law_702 rfl (lv_at hl 1 rfl) ?_
  refine lv_iload hx hb de_L_law_703 (lv_at hl 5 rfl) ?_
  refine lv_iconst (v := nI 1) hx hb de_L_law_705 (by decide) ?_
  refine nx_iadd (a := 5 * c9) (b := 1) hx hb de_L_law_706 ?_
  refine lw_ld hx hb hX hbl hbA hS (j := 5 * c9 + 1) (by omega) (by omega) de_L_law_707 ?_
  refine lv_aload_n hx hb de_L_law_708 rfl (lv_at hl 1 rfl) ?_
  refine lv_iload hx hb de_L_law_709 (lv_at hl 5 rfl) ?_
  refine lv_iconst (v := nI 2) hx hb de_L_law_711 (by decide) ?_
  refine nx_iadd (a := 5 * c9) (b := 2) hx hb de_L_law_712 ?_
  refine lw_ld hx hb hX hbl hbA hS (j := 5 * c9 + 2) (by omega) (by omega) de_L_law_713 ?_
  refine lv_aload_n hx hb de_L_law_714 rfl (lv_at hl 1 rfl) ?_
  refine lv_iload hx hb de_L_law_715 (lv_at hl 5 rfl) ?_
  refine lv_iconst (v := nI 3) hx hb de_L_law_717 (by decide) ?_
  refine nx_iadd (a := 5 * c9) (b := 3) hx hb de_L_law_718 ?_
  refine lw_ld hx hb hX hbl hbA hS (j := 5 * c9 + 3) (by omega) (by omega) de_L_law_719 ?_
  refine lv_aload_n hx hb de_L_law_720 rfl (lv_at hl 1 rfl) ?_
  refine lv_iload hx hb de_L_law_721 (lv_at hl 5 rfl) ?_
  refine lv_iconst (v := nI 4) hx hb de_L_law_723 (by decide) ?_
  refine nx_iadd (a := 5 * c9) (b := 4) hx hb de_L_law_724 ?_
  refine lw_ld hx hb hX hbl hbA hS (j := 5 * c9 + 4) (by omega) (by omega) de_L_law_725 ?_
  refine dk_calli (va_runV (As := [.int (xs (5 * c9 + 1)), .int (xs (5 * c9 + 2)), .int (xs (5 * c9 + 3)), .int (xs (5 * c9 + 4))]) (rest := []) ⟨hx, hb, hml, hown, hts⟩ hM9 (cwV 4 hts (wd_gV (C := "RunKeeperModel") wi_906 wi_903 wi_904 wi_905 wi_8) rfl rfl rfl (by decide +kernel) ⟨Nat.le_of_ble_eq_true rfl, Nat.le_of_ble_eq_true rfl⟩) (dk_preV (kn_M, kt_M, 22) hE hP hS ha9 rfl) rfl rfl hl.1 rfl (lv_room (Nat.le_of_ble_eq_true rfl)) de_L_law_726 ⟨(by show _ ≤ 601024; omega), (by show _ ≤ 7293034; omega)⟩) hS (fun r_8710 w_8708 H locs hq_8709 hP hS => ?_)
  obtain ⟨⟨μ2, hm2, he2⟩, ho2, st1, hs2, hc3, hc4⟩ := hfin _ _ _ hp1 hq_8709
  refine lv_istore (lv' := [(6, .int r_8710), (5, .int (nI kk)), (0, .ref b), (1, .ref h), (2, .ref a), (3, .ref o), (4, .int (nI (5 * c9)))]) hx hb de_L_law_729 hl (by decide) rfl (fun ls hl => ?_)
  refine lv_aload_n hx hb de_L_law_731 rfl (lv_at hl 4 rfl) ?_
  refine dk_calli (va_runV (As := []) (rest := []) ⟨hx, hb, hml, hown, hts⟩ (c_M_thrown l G w_8708 a DM μ2 hm2) (cwV 0 hts (wd_gV (C := "RunKeeperModel") wi_784 wi_781 wi_782 wi_783 wi_8) rfl rfl rfl (by decide +kernel) ⟨Nat.le_of_ble_eq_true rfl, Nat.le_of_ble_eq_true rfl⟩) (dk_preV (kn_M, kt_M, 22) hE hP hS hm2.o rfl) rfl rfl hl.1 rfl (lv_room (Nat.le_of_ble_eq_true rfl)) de_L_law_732 ⟨(by show _ ≤ 601024; omega), (by show _ ≤ 7293034; omega)⟩) hS (fun r_8713 w_8711 H locs hq_8712 hP hS => ?_)
  obtain ⟨hr_8714, he_8715⟩ := hq_8712
  subst hr_8714
  rw [he_8715] at hP
  rw [he2]
  refine lv_iload hx hb de_L_law_735 (lv_at hl 1 rfl) ?_
  refine nx_icmp_eq (a := kk) (b := kk) (tgt := 742) hx hb (by omega) (by omega) de_L_law_737 (by decide) (fun c_8716 => ?_) (fun c_8716 => ?_)
  · refine lv_iload hx hb de_L_law_742 (lv_at hl 1 rfl) ?_
    refine nx_if_ne (a := kk) (tgt := 759) hx hb (by omega) de_L_law_744 (by decide) (fun c_8717 => ?_) (fun c_8717 => ?_)
    · refine lv_goto (tgt := 830) hx hb de_L_law_759 (by decide) ?_
      exact W.widen (by omega) (by omega) (KK st1 _ _ _ _ hs2 hP hS (lv_sub hl [2, 3, 4, 5, 6] rfl))
    · obtain ⟨f9, ho9, hf9⟩ := ho2 c_8717
      refine lv_aload_n hx hb de_L_law_747 rfl (lv_at hl 5 rfl) ?_
      refine lv_iconst (v := nI 0) hx hb de_L_law_748 (by decide) ?_
      refine dk_lald (a := o) hx hb hK hP ho9 0 rfl (by omega) (by omega) de_L_law_749 ?_
      refine lv_iload hx hb de_L_law_750 (lv_at hl 0 rfl) ?_
      refine lv_i2l (v := r_8710.toInt64) hx hb de_L_law_752 rfl ?_
      refine W.lcmp hx hb de_L_law_753 ?_
      rw [hf9, lw_cmp]
      refine lv_if_eq (tgt := 759) hx hb de_L_law_754 (by decide) (fun c_8718 => ?_) (fun c_8718 => ?_)
      · refine lv_goto (tgt := 830) hx hb de_L_law_759 (by decide) ?_
        exact W.widen (by omega) (by omega) (KK st1 _ _ _ _ hs2 hP hS (lv_sub hl [2, 3, 4, 5, 6] rfl))
      · exact absurd rfl c_8718
  · exact absurd rfl c_8716
set_option maxHeartbeats 4000000 in
set_option maxRecDepth 100000 in
theorem lw_count {p : Program} {l : Launch} {e : Env} {s : State} {m : MethodId} {args : Array Value} {below : List Frame} {meth : Method} {c : Code} {Q : State → Prop} {G : dk_G} {H : Heap} {locs : List Loc} {ls : Array Slot} {b L : Nat} {xs : Nat → Int32} {w : dk_H} {h a o c9 st : Nat} {D : kp_D} {DM : md_D} (hx : p.tables.exec = Jvm.exec) (hb : c.code = code) (hml : c.maxLocals = 8) (hown : s.vm.findClass "RunKeeperLaw" = some m.cls) (hts : ∀ w ∈ wd_all, w.before args s = true) (hE : dk_E G s) (hX : va_X b L xs s s.heap) (hbl : b < s.heap.size) (hbA : ¬ dk_A G b) (hi : 5 * c9 + 5 ≤ L) (hL9 : L ≤ 2560) (hP : dk_P G w H) (hS : dk_S G s.heap H locs) (hl : lv_has ls 8 [(0, .ref b), (1, .ref h), (2, .ref a), (3, .ref o), (4, .int (nI (5 * c9)))]) (kk : Nat) (hkk : kk < 3) (rmL : Room) (mcL msL : Nat) (post1 : dk_H → Prop) (hLc : dk_Mi l my_L_count (wd_h my_L_count mb_L_count 5 (some .int) [(0, 10, 13, 13)]) rmL G w [.ref h, .int (xs (5 * c9 + 1)), .int (xs (5 * c9 + 2)), .ref o] (fun r u => r = nI kk ∧ post1 u) mcL msL) (hrc : rmL.cells = mcL) (hrs : rmL.slots = msL) (hRf : rmL.frames + 1 ≤ 15) (hRl : 8 + (5 + 11) + rmL.locals ≤ 584) (hc1 : (100 + 24 * c9 + 5 * st) + mcL ≤ 601024) (hc2 : (30000 + 1650 * c9 + 1579 * st) + msL ≤ 7293034) (post2 : dk_H → Int32 → dk_H → Prop) (hMc : ∀ u, post1 u → (∃ fs, u a = some (100, .inr (cx_M, fs))) ∧ dk_Mi l my_M_count (wd_c my_M_count mb_M_count 5 (some .int)) rm_M_count G u [.ref a, .int (xs (5 * c9 + 1)), .int (xs (5 * c9 + 2))] (post2 u) 0 0) (hfin : ∀ u r v, post1 u → post2 u r v → (∃ μ2, md_at G v a DM μ2 ∧ μ2.er = kk) ∧ (kk = 0 → ∃ f, v o = some (90, dk_cl G 1 f) ∧ f 0 = r.toInt64) ∧ ∃ st1, lw_S G v h a o D DM (c9 + 1) st1 ∧ (100 + 24 * c9 + 5 * st) + mcL ≤ (100 + 24 * (c9 + 1) + 5 * st1) ∧ (30000 + 1650 * c9 + 1579 * st) + msL ≤ (30000 + 1650 * (c9 + 1) + 1579 * st1)) (KK : ∀ (st1 : Nat) (v1 : dk_H) (H1 : Heap) (locs1 : List Loc) (ls1 : Array Slot), lw_S G v1 h a o D DM (c9 + 1) st1 → dk_P G v1 H1 → dk_S G s.heap H1 locs1 → lv_has ls1 8 [(0, .ref b), (1, .ref h), (2, .ref a), (3, .ref o), (4, .int (nI (5 * c9)))] → W p l e room_1 s m args below meth c H1 locs1 (100 + 24 * (c9 + 1) + 5 * st1) (30000 + 1650 * (c9 + 1) + 1579 * st1) Q (F0 m 830 ls1 [])) : W p l e room_1 s m args below meth c H locs (100 + 24 * c9 + 5 * st) (30000 + 1650 * c9 + 1579 * st) Q (F0 m 762 ls []) := by
  have hK := hE.1
  have hN := hE.2.1
  refine lv_aload_n hx hb de_L_law_762 rfl (lv_at hl 1 rfl) ?_
  refine lv_aload_n hx hb de_L_law_763 rfl (lv_at hl 0 rfl) ?_
  refine lv_iload hx hb de_L_law_764 (lv_at hl 4 rfl) ?_
  refine lv_iconst (v := nI 1) hx hb de_L_law_766 (by decide) ?_
  refine nx_iadd (a := 5 * c9) (b := 1) hx hb de_L_law_767 ?_
  refine lw_ld hx hb hX hbl hbA hS (j := 5 * c9 + 1) (by omega) (by omega) de_L_law_768 ?_
  refine lv_aload_n hx hb de_L_law_769 rfl (lv_at hl 0 rfl) ?_
  refine lv_iload hx hb de_L_law_770 (lv_at hl 4 rfl) ?_
  refine lv_iconst (v := nI 2) hx hb de_L_law_772 (by decide) ?_
  refine nx_iadd (a := 5 * c9) (b := 2) hx hb de_L_law_773 ?_
  refine lw_ld hx hb hX hbl hbA hS (j := 5 * c9 + 2) (by omega) (by omega) de_L_law_774 ?_
  refine lv_aload_n hx hb de_L_law_775 rfl (lv_at hl 3 rfl) ?_
  refine dk_calli (dk_runH (n := 4) (As := [.ref h, .int (xs (5 * c9 + 1)), .int (xs (5 * c9 + 2)), .ref o]) (rest := []) ⟨hx, hb, hml, hown, hts⟩ hLc cwi_count wi_696 wi_697 wi_0 hrc hrs ⟨hRf, hRl⟩ (by decide +kernel) (dk_preS hE hP hS) rfl rfl hl.1 rfl (lv_room (Nat.le_of_ble_eq_true rfl)) de_L_law_776 ⟨(by show _ ≤ 601024; omega), (by show _ ≤ 7293034; omega)⟩) hS (fun r9 u9 H locs hq9 hP hS => ?_)
  obtain ⟨hr9, hp1⟩ := hq9
  subst hr9
  obtain ⟨⟨fs9, ha9⟩, hM9⟩ := hMc _ hp1
  refine lv_istore (lv' := [(5, .int (nI kk)), (0, .ref b), (1, .ref h), (2, .ref a), (3, .ref o), (4, .int (nI (5 * c9)))]) hx hb de_L_law_779 hl (by decide) rfl (fun ls hl => ?_)
  refine lv_aload_n hx hb de_L_law_781 rfl (lv_at hl 3 rfl) ?_
  refine lv_aload_n hx hb de_L_law_782 rfl (lv_at hl 1 rfl) ?_
  refine lv_iload hx hb de_L_law_783 (lv_at hl 5 rfl) ?_
  refine lv_iconst (v := nI 1) hx hb de_L_law_785 (by decide) ?_
  refine nx_iadd (a := 5 * c9) (b := 1) hx hb de_L_law_786 ?_
  refine lw_ld hx hb hX hbl hbA hS (j := 5 * c9 + 1) (by omega) (by omega) de_L_law_787 ?_
  refine lv_aload_n hx hb de_L_law_788 rfl (lv_at hl 1 rfl) ?_
  refine lv_iload hx hb de_L_law_789 (lv_at hl 5 rfl) ?_
  refine lv_iconst (v := nI 2) hx hb de_L_law_791 (by decide) ?_
  refine nx_iadd (a := 5 * c9) (b := 2) hx hb de_L_law_792 ?_
  refine lw_ld hx hb hX hbl hbA hS (j := 5 * c9 + 2) (by omega) (by omega) de_L_law_793 ?_
  refine dk_calli (va_runV (As := [.int (xs (5 * c9 + 1)), .int (xs (5 * c9 + 2))]) (rest := []) ⟨hx, hb, hml, hown, hts⟩ hM9 (cwV 2 hts (wd_gV (C := "RunKeeperModel") wi_914 wi_911 wi_912 wi_913 wi_8) rfl rfl rfl (by decide +kernel) ⟨Nat.le_of_ble_eq_true rfl, Nat.le_of_ble_eq_true rfl⟩) (dk_preV (kn_M, kt_M, 22) hE hP hS ha9 rfl) rfl rfl hl.1 rfl (lv_room (Nat.le_of_ble_eq_true rfl)) de_L_law_794 ⟨(by show _ ≤ 601024; omega), (by show _ ≤ 7293034; omega)⟩) hS (fun r_8721 w_8719 H locs hq_8720 hP hS => ?_)
  obtain ⟨⟨μ2, hm2, he2⟩, ho2, st1, hs2, hc3, hc4⟩ := hfin _ _ _ hp1 hq_8720
  refine lv_istore (lv' := [(6, .int r_8721), (5, .int (nI kk)), (0, .ref b), (1, .ref h), (2, .ref a), (3, .ref o), (4, .int (nI (5 * c9)))]) hx hb de_L_law_797 hl (by decide) rfl (fun ls hl => ?_)
  refine lv_aload_n hx hb de_L_law_799 rfl (lv_at hl 4 rfl) ?_
  refine dk_calli (va_runV (As := []) (rest := []) ⟨hx, hb, hml, hown, hts⟩ (c_M_thrown l G w_8719 a DM μ2 hm2) (cwV 0 hts (wd_gV (C := "RunKeeperModel") wi_784 wi_781 wi_782 wi_783 wi_8) rfl rfl rfl (by decide +kernel) ⟨Nat.le_of_ble_eq_true rfl, Nat.le_of_ble_eq_true rfl⟩) (dk_preV (kn_M, kt_M, 22) hE hP hS hm2.o rfl) rfl rfl hl.1 rfl (lv_room (Nat.le_of_ble_eq_true rfl)) de_L_law_800 ⟨(by show _ ≤ 601024; omega), (by show _ ≤ 7293034; omega)⟩) hS (fun r_8724 w_8722 H locs hq_8723 hP hS => ?_)
  obtain ⟨hr_8725, he_8726⟩ := hq_8723
  subst hr_8725
  rw [he_8726] at hP
  rw [he2]
  refine lv_iload hx hb de_L_law_803 (lv_at hl 1 rfl) ?_
  refine nx_icmp_eq (a := kk) (b := kk) (tgt := 810) hx hb (by omega) (by omega) de_L_law_805 (by decide) (fun c_8727 => ?_) (fun c_8727 => ?_)
  · refine lv_iload hx hb de_L_law_810 (lv_at hl 1 rfl) ?_
    refine nx_if_ne (a := kk) (tgt := 827) hx hb (by omega) de_L_law_812 (by decide) (fun c_8728 => ?_) (fun c_8728 => ?_)
    · refine lv_goto (tgt := 830) hx hb de_L_law_827 (by decide) ?_
      exact W.widen (by omega) (by omega) (KK st1 _ _ _ _ hs2 hP hS (lv_sub hl [2, 3, 4, 5, 6] rfl))
    · obtain ⟨f9, ho9, hf9⟩ := ho2 c_8728
      refine lv_aload_n hx hb de_L_law_815 rfl (lv_at hl 5 rfl) ?_
      refine lv_iconst (v := nI 0) hx hb de_L_law_816 (by decide) ?_
      refine dk_lald (a := o) hx hb hK hP ho9 0 rfl (by omega) (by omega) de_L_law_817 ?_
      refine lv_iload hx hb de_L_law_818 (lv_at hl 0 rfl) ?_
      refine lv_i2l (v := r_8721.toInt64) hx hb de_L_law_820 rfl ?_
      refine W.lcmp hx hb de_L_law_821 ?_
      rw [hf9, lw_cmp]
      refine lv_if_eq (tgt := 827) hx hb de_L_law_822 (by decide) (fun c_8729 => ?_) (fun c_8729 => ?_)
      · refine lv_goto (tgt := 830) hx hb de_L_law_827 (by decide) ?_
        exact W.widen (by omega) (by omega) (KK st1 _ _ _ _ hs2 hP hS (lv_sub hl [2, 3, 4, 5, 6] rfl))
      · exact absurd rfl c_8729
  · exact absurd rfl c_8727
set_option maxHeartbeats 4000000 in
set_option maxRecDepth 100000 in
theorem lw_sync {p : Program} {l : Launch} {e : Env} {s : State} {m : MethodId} {args : Array Value} {below : List Frame} {meth : Method} {c : Code} {Q : State → Prop} {G : dk_G} {H : Heap} {locs : List Loc} {ls : Array Slot} {b L : Nat} {xs : Nat → Int32} {w : dk_H} {h a o c9 st : Nat} {D : kp_D} {DM : md_D} (hx : p.tables.exec = Jvm.exec) (hb : c.code = code) (hml : c.maxLocals = 8) (hown : s.vm.findClass "RunKeeperLaw" = some m.cls) (hts : ∀ w ∈ wd_all, w.before args s = true) (hE : dk_E G s) (hX : va_X b L xs s s.heap) (hbl : b < s.heap.size) (hbA : ¬ dk_A G b) (hi : 5 * c9 + 5 ≤ L) (hL9 : L ≤ 2560) (hP : dk_P G w H) (hS : dk_S G s.heap H locs) (hl : lv_has ls 8 [(0, .ref b), (1, .ref h), (2, .ref a), (3, .ref o), (4, .int (nI (5 * c9)))]) (hc1 : (100 + 24 * c9 + 5 * st) + 0 ≤ 601024) (hc2 : (30000 + 1650 * c9 + 1579 * st) + 0 ≤ 7293034) (fs9 : List Value) (hh : w h = some (1, .inr (cx_K, fs9))) (post1 : Int32 → dk_H → Prop) (hKc : dk_Mi l my_K_sync (wd_c my_K_sync mb_K_sync 1 (some .int)) rm_K_sync G w [.ref h] post1 0 0) (post2 : dk_H → Int32 → dk_H → Prop) (hMc : ∀ r u, post1 r u → (∃ fs, u a = some (100, .inr (cx_M, fs))) ∧ dk_Mi l my_M_sync (wd_c my_M_sync mb_M_sync 1 (some .int)) rm_M_sync G u [.ref a] (post2 u) 0 0) (hfin : ∀ r u r2 v, post1 r u → post2 u r2 v → r = r2 ∧ lw_S G v h a o D DM (c9 + 1) st) (KK : ∀ (st1 : Nat) (v1 : dk_H) (H1 : Heap) (locs1 : List Loc) (ls1 : Array Slot), lw_S G v1 h a o D DM (c9 + 1) st1 → dk_P G v1 H1 → dk_S G s.heap H1 locs1 → lv_has ls1 8 [(0, .ref b), (1, .ref h), (2, .ref a), (3, .ref o), (4, .int (nI (5 * c9)))] → W p l e room_1 s m args below meth c H1 locs1 (100 + 24 * (c9 + 1) + 5 * st1) (30000 + 1650 * (c9 + 1) + 1579 * st1) Q (F0 m 830 ls1 [])) : W p l e room_1 s m args below meth c H locs (100 + 24 * c9 + 5 * st) (30000 + 1650 * c9 + 1579 * st) Q (F0 m 360 ls []) := by
  have hK := hE.1
  have hN := hE.2.1
  refine lv_aload_n hx hb de_L_law_360 rfl (lv_at hl 1 rfl) ?_
  refine dk_calli (va_runV (As := []) (rest := []) ⟨hx, hb, hml, hown, hts⟩ hKc (cwV 0 hts (wd_gV (C := "RunKeeper") wi_143 wi_140 wi_141 wi_142 wi_1) rfl rfl rfl (by decide +kernel) ⟨Nat.le_of_ble_eq_true rfl, Nat.le_of_ble_eq_true rfl⟩) (dk_preV (kn_K, kt_K, 12) hE hP hS hh rfl) rfl rfl hl.1 rfl (lv_room (Nat.le_of_ble_eq_true rfl)) de_L_law_361 ⟨(by show _ ≤ 601024; omega), (by show _ ≤ 7293034; omega)⟩) hS (fun r_8732 w_8730 H locs hq_8731 hP hS => ?_)
  obtain ⟨⟨fs8, ha9⟩, hM9⟩ := hMc _ _ hq_8731
  refine lv_aload_n hx hb de_L_law_364 rfl (lv_at hl 2 rfl) ?_
  refine dk_calli (va_runV (As := []) (rest := [.int r_8732]) ⟨hx, hb, hml, hown, hts⟩ hM9 (cwV 0 hts (wd_gV (C := "RunKeeperModel") wi_827 wi_824 wi_825 wi_826 wi_8) rfl rfl rfl (by decide +kernel) ⟨Nat.le_of_ble_eq_true rfl, Nat.le_of_ble_eq_true rfl⟩) (dk_preV (kn_M, kt_M, 22) hE hP hS ha9 rfl) rfl rfl hl.1 rfl (lv_room (Nat.le_of_ble_eq_true rfl)) de_L_law_365 ⟨(by show _ ≤ 601024; omega), (by show _ ≤ 7293034; omega)⟩) hS (fun r_8735 w_8733 H locs hq_8734 hP hS => ?_)
  obtain ⟨he9, hs2⟩ := hfin _ _ _ _ hq_8731 hq_8734
  refine lv_icmp_eq (tgt := 830) hx hb de_L_law_368 (by decide) (fun c_8736 => ?_) (fun c_8736 => ?_)
  · exact W.widen (by omega) (by omega) (KK st _ _ _ _ hs2 hP hS (lv_sub hl [0, 1, 2, 3, 4] rfl))
  · exact absurd he9 c_8736
set_option maxHeartbeats 4000000 in
set_option maxRecDepth 100000 in
theorem lw_flush {p : Program} {l : Launch} {e : Env} {s : State} {m : MethodId} {args : Array Value} {below : List Frame} {meth : Method} {c : Code} {Q : State → Prop} {G : dk_G} {H : Heap} {locs : List Loc} {ls : Array Slot} {b L : Nat} {xs : Nat → Int32} {w : dk_H} {h a o c9 st : Nat} {D : kp_D} {DM : md_D} (hx : p.tables.exec = Jvm.exec) (hb : c.code = code) (hml : c.maxLocals = 8) (hown : s.vm.findClass "RunKeeperLaw" = some m.cls) (hts : ∀ w ∈ wd_all, w.before args s = true) (hE : dk_E G s) (hX : va_X b L xs s s.heap) (hbl : b < s.heap.size) (hbA : ¬ dk_A G b) (hi : 5 * c9 + 5 ≤ L) (hL9 : L ≤ 2560) (hP : dk_P G w H) (hS : dk_S G s.heap H locs) (hl : lv_has ls 8 [(0, .ref b), (1, .ref h), (2, .ref a), (3, .ref o), (4, .int (nI (5 * c9)))]) (hc1 : (100 + 24 * c9 + 5 * st) + 5 ≤ 601024) (hc2 : (30000 + 1650 * c9 + 1579 * st) + 1579 ≤ 7293034) (fs9 : List Value) (hh : w h = some (1, .inr (cx_K, fs9))) (post1 : Int32 → dk_H → Prop) (hKc : dk_Mi l my_K_flush (wd_c my_K_flush mb_K_flush 2 (some .int)) rm_K_flush G w [.ref h] post1 5 1579) (post2 : dk_H → Int32 → dk_H → Prop) (hMc : ∀ r u, post1 r u → (∃ fs, u a = some (100, .inr (cx_M, fs))) ∧ dk_Mi l my_M_flush (wd_c my_M_flush mb_M_flush 1 (some .int)) rm_M_flush G u [.ref a] (post2 u) 0 0) (hfin : ∀ r u r2 v, post1 r u → post2 u r2 v → r = r2 ∧ lw_S G v h a o D DM (c9 + 1) st) (KK : ∀ (st1 : Nat) (v1 : dk_H) (H1 : Heap) (locs1 : List Loc) (ls1 : Array Slot), lw_S G v1 h a o D DM (c9 + 1) st1 → dk_P G v1 H1 → dk_S G s.heap H1 locs1 → lv_has ls1 8 [(0, .ref b), (1, .ref h), (2, .ref a), (3, .ref o), (4, .int (nI (5 * c9)))] → W p l e room_1 s m args below meth c H1 locs1 (100 + 24 * (c9 + 1) + 5 * st1) (30000 + 1650 * (c9 + 1) + 1579 * st1) Q (F0 m 830 ls1 [])) : W p l e room_1 s m args below meth c H locs (100 + 24 * c9 + 5 * st) (30000 + 1650 * c9 + 1579 * st) Q (F0 m 373 ls []) := by
  have hK := hE.1
  have hN := hE.2.1
  refine lv_aload_n hx hb de_L_law_373 rfl (lv_at hl 1 rfl) ?_
  refine dk_calli (va_runV (As := []) (rest := []) ⟨hx, hb, hml, hown, hts⟩ hKc (cwV 0 hts (wd_gV (C := "RunKeeper") wi_151 wi_148 wi_149 wi_150 wi_1) rfl rfl rfl (by decide +kernel) ⟨Nat.le_of_ble_eq_true rfl, Nat.le_of_ble_eq_true rfl⟩) (dk_preV (kn_K, kt_K, 12) hE hP hS hh rfl) rfl rfl hl.1 rfl (lv_room (Nat.le_of_ble_eq_true rfl)) de_L_law_374 ⟨(by show _ ≤ 601024; omega), (by show _ ≤ 7293034; omega)⟩) hS (fun r_8739 w_8737 H locs hq_8738 hP hS => ?_)
  obtain ⟨⟨fs8, ha9⟩, hM9⟩ := hMc _ _ hq_8738
  refine lv_aload_n hx hb de_L_law_377 rfl (lv_at hl 2 rfl) ?_
  refine dk_calli (va_runV (As := []) (rest := [.int r_8739]) ⟨hx, hb, hml, hown, hts⟩ hM9 (cwV 0 hts (wd_gV (C := "RunKeeperModel") wi_831 wi_828 wi_829 wi_830 wi_8) rfl rfl rfl (by decide +kernel) ⟨Nat.le_of_ble_eq_true rfl, Nat.le_of_ble_eq_true rfl⟩) (dk_preV (kn_M, kt_M, 22) hE hP hS ha9 rfl) rfl rfl hl.1 rfl (lv_room (Nat.le_of_ble_eq_true rfl)) de_L_law_378 ⟨(by show _ ≤ 601024; omega), (by show _ ≤ 7293034; omega)⟩) hS (fun r_8742 w_8740 H locs hq_8741 hP hS => ?_)
  obtain ⟨he9, hs2⟩ := hfin _ _ _ _ hq_8738 hq_8741
  refine lv_icmp_eq (tgt := 830) hx hb de_L_law_381 (by decide) (fun c_8743 => ?_) (fun c_8743 => ?_)
  · exact W.widen (by omega) (by omega) (KK st _ _ _ _ hs2 hP hS (lv_sub hl [0, 1, 2, 3, 4] rfl))
  · exact absurd he9 c_8743
set_option maxHeartbeats 4000000 in
set_option maxRecDepth 100000 in
theorem lw_crash {p : Program} {l : Launch} {e : Env} {s : State} {m : MethodId} {args : Array Value} {below : List Frame} {meth : Method} {c : Code} {Q : State → Prop} {G : dk_G} {H : Heap} {locs : List Loc} {ls : Array Slot} {b L : Nat} {xs : Nat → Int32} {w : dk_H} {h a o c9 st : Nat} {D : kp_D} {DM : md_D} (hx : p.tables.exec = Jvm.exec) (hb : c.code = code) (hml : c.maxLocals = 8) (hown : s.vm.findClass "RunKeeperLaw" = some m.cls) (hts : ∀ w ∈ wd_all, w.before args s = true) (hE : dk_E G s) (hX : va_X b L xs s s.heap) (hbl : b < s.heap.size) (hbA : ¬ dk_A G b) (hi : 5 * c9 + 5 ≤ L) (hL9 : L ≤ 2560) (hP : dk_P G w H) (hS : dk_S G s.heap H locs) (hl : lv_has ls 8 [(0, .ref b), (1, .ref h), (2, .ref a), (3, .ref o), (4, .int (nI (5 * c9)))]) (hc1 : (100 + 24 * c9 + 5 * st) + 0 ≤ 601024) (hc2 : (30000 + 1650 * c9 + 1579 * st) + 0 ≤ 7293034) (fs9 : List Value) (hh : w h = some (1, .inr (cx_K, fs9))) (post1 : Int32 → dk_H → Prop) (hKc : dk_Mi l my_K_crash (wd_c my_K_crash mb_K_crash 1 (some .int)) rm_K_crash G w [.ref h] post1 0 0) (post2 : dk_H → Int32 → dk_H → Prop) (hMc : ∀ r u, post1 r u → (∃ fs, u a = some (100, .inr (cx_M, fs))) ∧ dk_Mi l my_M_crash (wd_c my_M_crash mb_M_crash 5 (some .int)) rm_M_crash G u [.ref a] (post2 u) 0 0) (hfin : ∀ r u r2 v, post1 r u → post2 u r2 v → r = r2 ∧ lw_S G v h a o D DM (c9 + 1) st) (KK : ∀ (st1 : Nat) (v1 : dk_H) (H1 : Heap) (locs1 : List Loc) (ls1 : Array Slot), lw_S G v1 h a o D DM (c9 + 1) st1 → dk_P G v1 H1 → dk_S G s.heap H1 locs1 → lv_has ls1 8 [(0, .ref b), (1, .ref h), (2, .ref a), (3, .ref o), (4, .int (nI (5 * c9)))] → W p l e room_1 s m args below meth c H1 locs1 (100 + 24 * (c9 + 1) + 5 * st1) (30000 + 1650 * (c9 + 1) + 1579 * st1) Q (F0 m 830 ls1 [])) : W p l e room_1 s m args below meth c H locs (100 + 24 * c9 + 5 * st) (30000 + 1650 * c9 + 1579 * st) Q (F0 m 442 ls []) := by
  have hK := hE.1
  have hN := hE.2.1
  refine lv_aload_n hx hb de_L_law_442 rfl (lv_at hl 1 rfl) ?_
  refine dk_calli (va_runV (As := []) (rest := []) ⟨hx, hb, hml, hown, hts⟩ hKc (cwV 0 hts (wd_gV (C := "RunKeeper") wi_283 wi_280 wi_281 wi_282 wi_1) rfl rfl rfl (by decide +kernel) ⟨Nat.le_of_ble_eq_true rfl, Nat.le_of_ble_eq_true rfl⟩) (dk_preV (kn_K, kt_K, 12) hE hP hS hh rfl) rfl rfl hl.1 rfl (lv_room (Nat.le_of_ble_eq_true rfl)) de_L_law_443 ⟨(by show _ ≤ 601024; omega), (by show _ ≤ 7293034; omega)⟩) hS (fun r_8746 w_8744 H locs hq_8745 hP hS => ?_)
  obtain ⟨⟨fs8, ha9⟩, hM9⟩ := hMc _ _ hq_8745
  refine lv_aload_n hx hb de_L_law_446 rfl (lv_at hl 2 rfl) ?_
  refine dk_calli (va_runV (As := []) (rest := [.int r_8746]) ⟨hx, hb, hml, hown, hts⟩ hM9 (cwV 0 hts (wd_gV (C := "RunKeeperModel") wi_860 wi_857 wi_858 wi_859 wi_8) rfl rfl rfl (by decide +kernel) ⟨Nat.le_of_ble_eq_true rfl, Nat.le_of_ble_eq_true rfl⟩) (dk_preV (kn_M, kt_M, 22) hE hP hS ha9 rfl) rfl rfl hl.1 rfl (lv_room (Nat.le_of_ble_eq_true rfl)) de_L_law_447 ⟨(by show _ ≤ 601024; omega), (by show _ ≤ 7293034; omega)⟩) hS (fun r_8749 w_8747 H locs hq_8748 hP hS => ?_)
  obtain ⟨he9, hs2⟩ := hfin _ _ _ _ hq_8745 hq_8748
  refine lv_icmp_eq (tgt := 830) hx hb de_L_law_450 (by decide) (fun c_8750 => ?_) (fun c_8750 => ?_)
  · exact W.widen (by omega) (by omega) (KK st _ _ _ _ hs2 hP hS (lv_sub hl [0, 1, 2, 3, 4] rfl))
  · exact absurd he9 c_8750
