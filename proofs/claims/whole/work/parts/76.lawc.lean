/-! RunKeeperLaw: each kind of call keeps the relation (printed by gen/c_law3.py) -/
theorem kp_at.fr {G : dk_G} {T : Nat → Prop} {w w1 : dk_H} {h : Nat} {D : kp_D} {σ : kp_S} (H : kp_at G w h D σ) (hf : dk_fr T w w1) (hT : ∀ t, t < 64 → ¬ T t) : kp_at G w1 h D σ :=
  ⟨hf _ _ _ H.o (hT _ (by decide)), H.t.fr hf (hT _ (by decide)) (hT _ (by decide)) (hT _ (by decide)), H.a.fr hf (hT _ (by decide)) (hT _ (by decide)) (hT _ (by decide)), hf _ _ _ H.l (hT _ (by decide)), fun i hi => ⟨(H.v i hi).1, (H.v i hi).2.fr hf (hT _ (by decide)) (hT _ (by omega)) (hT _ (by omega)) (hT _ (by omega))⟩, H.s.fr hf (hT _ (by decide)) (hT _ (by decide)) (hT _ (by decide)), H.g.fr hf (hT _ (by decide)) (hT _ (by decide)) (hT _ (by decide)), H.k.fr hf (hT _ (by decide)) (hT _ (by decide)) (hT _ (by decide)), H.n.fr hf (hT _ (by decide)) (hT _ (by decide)), H.tk⟩
theorem lw_v {G : dk_G} {w u : dk_H} {h a o : Nat} {D : kp_D} {DM : md_D} {σ1 : kp_S} {μ : md_S} {f : Nat → Int64} (hk : kp_at G u h D σ1) (hf : dk_fr kp_T w u) (hm : md_at G w a DM μ) (ho : w o = some (90, dk_cl G 1 f)) : kp_at G u h D σ1 ∧ md_at G u a DM μ ∧ u o = some (90, dk_cl G 1 f) :=
  ⟨hk, hm.fr hf (fun t h1 => by unfold kp_T; omega), hf _ _ _ ho (by unfold kp_T; omega)⟩
theorem lw_up {G : dk_G} {w u0 u : dk_H} {h a o : Nat} {D : kp_D} {DM : md_D} {σ1 : kp_S} {μ : md_S} {f g : Nat → Int64} (hk : kp_at G u0 h D σ1) (hf : dk_fr kp_T w u0) (hm : md_at G w a DM μ) (ho : w o = some (90, dk_cl G 1 f)) (hu : u = va_up u0 o (some (90, dk_cl G 1 g))) : kp_at G u h D σ1 ∧ md_at G u a DM μ ∧ u o = some (90, dk_cl G 1 g) := by
  obtain ⟨h1, h2, h3⟩ := lw_v hk hf hm ho
  have hf2 : dk_fr (fun t => t = 90) u0 u := (dk_fr.up (T := fun t => t = 90) h3 rfl).eq hu
  exact ⟨h1.fr hf2 (fun t ht => by omega), h2.fr hf2 (fun t ht => by omega), by rw [hu, dk_us]⟩
theorem lw_mk {G : dk_G} {u v : dk_H} {h a o c9 st : Nat} {D : kp_D} {DM : md_D} {σ1 : kp_S} {μ1 : md_S} {f : Nat → Int64} (hk : kp_at G u h D σ1) (hm : md_at G v a DM μ1) (ho : u o = some (90, dk_cl G 1 f)) (hf : dk_fr md_T u v) (hr : rl_at σ1 μ1) (hb : bu_ok σ1 μ1 c9 st) : lw_S G v h a o D DM c9 st :=
  ⟨σ1, μ1, f, hk.fr hf (fun t ht => by unfold md_T; omega), hm, hf _ _ _ ho (by unfold md_T; omega), hr, hb⟩
theorem md_fl_er (μ : md_S) : (md_fl μ).er = μ.er := by
  unfold md_fl
  split <;> rfl
theorem md_ff_er (μ : md_S) : (md_ff μ).er = μ.er := by
  unfold md_ff
  split
  · exact md_fl_er μ
  · rfl
theorem lw_er9 (μ : md_S) (i : Nat) : (md_ff ((md_wl (μ.er' 0) i).ba' none)).er = 0 := by
  rw [md_ff_er]
  show (md_wl (μ.er' 0) i).er = 0
  induction i with
  | zero => rfl
  | succ i ih => exact ih
theorem md_mk_er : ∀ {k : Nat} {μ ν : md_S}, md_mk μ k ν → ν.er = μ.er
  | 0, μ, ν, h => by
    have h : ν = μ := h
    rw [h]
  | k + 1, μ, ν, ⟨τ, h1, h2⟩ => by
    obtain ⟨l, f, -, -, -, -, rfl⟩ := h2
    rw [← md_mk_er h1]
    have : ∀ j, (sc_f ((τ.ks' f).rs' (τ.rs + 1)) l τ.rs j).1.er = τ.er := by
      intro j
      induction j with
      | zero => rfl
      | succ j ih =>
        rw [sc_f]
        split
        · split
          · exact ih
          · exact ih
        · exact ih
    exact this τ.n
theorem lw_sq {k : Nat} {μ ν : md_S} (h : md_mk (μ.er' 0) k ν) : ν.sq = μ.sq := (md_mk_sq (k := k) (μ := μ.er' 0) (ν := ν) h).trans rfl
theorem mg_n_le : ∀ (n : Nat) (σ : kp_S), (mg_n n σ).1 ≤ n
  | 0, σ => Nat.le_refl _
  | n + 1, σ => by
    cases h : mg_1 σ with
    | none => rw [mg_n0 h]; exact Nat.zero_le _
    | some τ => rw [mg_ns h]; exact Nat.succ_le_succ (mg_n_le n τ)
theorem lw_free (f : Nat → Bool) : ∀ n, (∀ i, i < n → f i = true) ∨ ∃ j, j < n ∧ f j = false ∧ ∀ i, i < j → f i = true
  | 0 => Or.inl (fun i h => absurd h (by omega))
  | n + 1 => by
    rcases lw_free f n with h | ⟨j, h1, h2⟩
    · cases hq : f n with
      | true => exact Or.inl (fun i hi => by
          by_cases e : i = n
          · rw [e]; exact hq
          · exact h i (by omega))
      | false => exact Or.inr ⟨n, by omega, hq, h⟩
    · exact Or.inr ⟨j, by omega, h2⟩
set_option maxHeartbeats 4000000 in
set_option maxRecDepth 100000 in
theorem lc_put {p : Program} {l : Launch} {e : Env} {s : State} {m : MethodId} {args : Array Value} {below : List Frame} {meth : Method} {c : Code} {Q : State → Prop} {G : dk_G} {H : Heap} {locs : List Loc} {ls : Array Slot} {b L : Nat} {xs : Nat → Int32} {w : dk_H} {h a o c9 st : Nat} {D : kp_D} {DM : md_D} (hx : p.tables.exec = Jvm.exec) (hb : c.code = code) (hml : c.maxLocals = 8) (hown : s.vm.findClass "RunKeeperLaw" = some m.cls) (hts : ∀ w ∈ wd_all, w.before args s = true) (hE : dk_E G s) (hX : va_X b L xs s s.heap) (hbl : b < s.heap.size) (hbA : ¬ dk_A G b) (hi : 5 * c9 + 5 ≤ L) (hL9 : L ≤ 2560) (hP : dk_P G w H) (hS : dk_S G s.heap H locs) (hl : lv_has ls 8 [(0, .ref b), (1, .ref h), (2, .ref a), (3, .ref o), (4, .int (nI (5 * c9)))]) (hlt : l.stackTraces = false) (hc9 : c9 < 512) (hst : lw_S G w h a o D DM c9 st) (KK : ∀ (st1 : Nat) (v1 : dk_H) (H1 : Heap) (locs1 : List Loc) (ls1 : Array Slot), lw_S G v1 h a o D DM (c9 + 1) st1 → dk_P G v1 H1 → dk_S G s.heap H1 locs1 → lv_has ls1 8 [(0, .ref b), (1, .ref h), (2, .ref a), (3, .ref o), (4, .int (nI (5 * c9)))] → W p l e room_1 s m args below meth c H1 locs1 (100 + 24 * (c9 + 1) + 5 * st1) (30000 + 1650 * (c9 + 1) + 1579 * st1) Q (F0 m 830 ls1 [])) : W p l e room_1 s m args below meth c H locs (100 + 24 * c9 + 5 * st) (30000 + 1650 * c9 + 1579 * st) Q (F0 m 108 ls []) := by
  obtain ⟨σ, μ, f, hk, hm, ho, hrl, hbu⟩ := hst
  have hmo := hrl.2.1
  have hnn := rl_n hrl.1 hmo
  have h600 := hrl.2.2.1
  have h24 := hrl.2.2.2
  have hsq := hrl.1.1.1
  obtain ⟨bu1, bu2, bu3⟩ := id hbu
  cases hkey : in_r 1024 (xs (5 * c9 + 1)) with
  | false =>
    refine lw_put hx hb hml hown hts hE hX hbl hbA hi hL9 hP hS hl 1 (by decide) rx_L_put 1 6 (fun u0 => u0 = w) (l_put_1 l G w h _ o (xs (5 * c9 + 1)) (lw_z (xs (5 * c9 + 2)) (xs (5 * c9 + 3))) _ (t_K_putK l hlt G w h D σ hk (xs (5 * c9 + 1)) (lw_z (xs (5 * c9 + 2)) (xs (5 * c9 + 3))) hkey) hk.o) rfl rfl (Nat.le_of_ble_eq_true rfl) (Nat.le_of_ble_eq_true rfl) (by omega) (by omega) (fun u r v => r = nI 0 ∧ md_at G v a DM (μ.er' 1) ∧ dk_fr md_T u v) (fun u hu => ?_) (fun u r v hu hv => ?_) KK
    · have h3 := lw_v (hu.symm ▸ hk) (hu.symm ▸ dk_fr.rf) hm ho
      exact ⟨⟨_, h3.2.1.o⟩, c_M_putK l G u a DM μ h3.2.1 hmo (xs (5 * c9 + 1)) (by rw [← in_im (n := 1023) (by decide)]; exact hkey) (lw_z (xs (5 * c9 + 2)) (xs (5 * c9 + 3)))⟩
    · have h3 := lw_v (hu.symm ▸ hk) (hu.symm ▸ dk_fr.rf) hm ho

      exact ⟨⟨_, hv.2.1, rfl⟩, fun h0 => absurd h0 (by decide), st, lw_mk h3.1 hv.2.1 h3.2.2 hv.2.2 (hrl.er (by decide)) (bu_same hbu rfl rfl (Nat.le_refl _)), by omega, by omega⟩
  | true =>
    obtain ⟨j, hj, ej⟩ := in_some (by decide) hkey
    cases hba : μ.ba with
    | none =>
      obtain ⟨hib, hnil⟩ := rl_bn hrl hba
      by_cases hn6 : μ.n < 600
      · refine lw_put hx hb hml hown hts hE hX hbl hbA hi hL9 hP hS hl 0 (by decide) (rw_L_put 1) 7 1587 (fun u => ∃ (r0 : Int32) (u0 : dk_H), (r0 = nI (σ.sq + 1) ∧ kp_at G u0 h D (kp_fl (kp_ap σ (j, 0, (lw_z (xs (5 * c9 + 2)) (xs (5 * c9 + 3))), false)) 24) ∧ dk_fr kp_T w u0) ∧ u = va_up u0 o (some (90, dk_cl G 1 (vp_updL f 0 (r0.toInt64))))) (l_put l G w h _ o f 1 (xs (5 * c9 + 1)) (lw_z (xs (5 * c9 + 2)) (xs (5 * c9 + 3))) _ (by rw [ej]; exact c_K_putN l G w h D σ hk j (lw_z (xs (5 * c9 + 2)) (xs (5 * c9 + 3))) hj hib (by omega) (by omega) (by omega)) hk.o ho (fun _ _ h9 => h9.2.2)) rfl rfl (Nat.le_of_ble_eq_true rfl) (Nat.le_of_ble_eq_true rfl) (by omega) (by omega) (fun u r v => r = nI (μ.sq + 1) ∧ md_at G v a DM (md_ff (md_w (μ.er' 0) j (lw_z (xs (5 * c9 + 2)) (xs (5 * c9 + 3))) false)) ∧ dk_fr md_T u v) (fun u hu => ?_) (fun u r v hu hv => ?_) KK
        · obtain ⟨r0, u0, hq, hu0⟩ := hu
          have h3 := lw_up hq.2.1 hq.2.2 hm ho hu0

          exact ⟨⟨_, h3.2.1.o⟩, by rw [ej]; exact c_M_putW l G u a DM μ h3.2.1 hmo j hj hba hn6 (by omega) (lw_z (xs (5 * c9 + 2)) (xs (5 * c9 + 3)))⟩
        · obtain ⟨r0, u0, hq, hu0⟩ := hu
          have h3 := lw_up hq.2.1 hq.2.2 hm ho hu0

          exact ⟨⟨_, hv.2.1, md_ff_er _⟩, fun _ => ⟨_, hv.2.2 _ _ _ h3.2.2 (by unfold md_T; omega), by rw [pk_uLs, hq.1, hv.1, hsq]⟩, st, lw_mk h3.1 hv.2.1 h3.2.2 hv.2.2 (rl_put hrl hj hn6 (by omega) (by omega)) (bu_put hbu), by omega, by omega⟩
      · refine lw_put hx hb hml hown hts hE hX hbl hbA hi hL9 hP hS hl 2 (by decide) rx_L_put 1 6 (fun u0 => u0 = w) (l_put_2 l G w h _ o (xs (5 * c9 + 1)) (lw_z (xs (5 * c9 + 2)) (xs (5 * c9 + 3))) _ (by rw [ej]; exact t_K_putG l hlt G w h D σ hk j (lw_z (xs (5 * c9 + 2)) (xs (5 * c9 + 3))) hj hib (by omega) (by omega)) hk.o) rfl rfl (Nat.le_of_ble_eq_true rfl) (Nat.le_of_ble_eq_true rfl) (by omega) (by omega) (fun u r v => r = nI 0 ∧ md_at G v a DM (μ.er' 2) ∧ dk_fr md_T u v) (fun u hu => ?_) (fun u r v hu hv => ?_) KK
        · have h3 := lw_v (hu.symm ▸ hk) (hu.symm ▸ dk_fr.rf) hm ho
          exact ⟨⟨_, h3.2.1.o⟩, by rw [ej]; exact c_M_putN l G u a DM μ h3.2.1 hmo j hj hba (by omega) (lw_z (xs (5 * c9 + 2)) (xs (5 * c9 + 3)))⟩
        · have h3 := lw_v (hu.symm ▸ hk) (hu.symm ▸ dk_fr.rf) hm ho

          exact ⟨⟨_, hv.2.1, rfl⟩, fun h0 => absurd h0 (by decide), st, lw_mk h3.1 hv.2.1 h3.2.2 hv.2.2 (hrl.er (by decide)) (bu_same hbu rfl rfl (Nat.le_refl _)), by omega, by omega⟩
    | some b9 =>
      obtain ⟨hib, had, -⟩ := rl_by hrl hba
      have hb17 := hmo.2.2.2.2.2.2.2.2.1 b9 hba
      by_cases hb16 : b9 < 16
      · refine lw_put hx hb hml hown hts hE hX hbl hbA hi hL9 hP hS hl 0 (by decide) (rw_L_put 0) 2 8 (fun u => ∃ (r0 : Int32) (u0 : dk_H), (r0 = nI (σ.ad.length + 1) ∧ kp_at G u0 h D (σ.ad' (σ.ad ++ [(j, 0, (lw_z (xs (5 * c9 + 2)) (xs (5 * c9 + 3))), false)])) ∧ dk_fr kp_T w u0) ∧ u = va_up u0 o (some (90, dk_cl G 1 (vp_updL f 0 (r0.toInt64))))) (l_put l G w h _ o f 0 (xs (5 * c9 + 1)) (lw_z (xs (5 * c9 + 2)) (xs (5 * c9 + 3))) _ (by rw [ej]; exact c_K_putB l G w h D σ hk j (lw_z (xs (5 * c9 + 2)) (xs (5 * c9 + 3))) hj hib (by omega)) hk.o ho (fun _ _ h9 => h9.2.2)) rfl rfl (Nat.le_of_ble_eq_true rfl) (Nat.le_of_ble_eq_true rfl) (by omega) (by omega) (fun u r v => r = nI (b9 + 1) ∧ md_at G v a DM (md_b μ j (lw_z (xs (5 * c9 + 2)) (xs (5 * c9 + 3))) false b9) ∧ dk_fr md_T u v) (fun u hu => ?_) (fun u r v hu hv => ?_) KK
        · obtain ⟨r0, u0, hq, hu0⟩ := hu
          have h3 := lw_up hq.2.1 hq.2.2 hm ho hu0

          exact ⟨⟨_, h3.2.1.o⟩, by rw [ej]; exact c_M_putC l G u a DM μ h3.2.1 hmo j hj b9 hba hb16 (lw_z (xs (5 * c9 + 2)) (xs (5 * c9 + 3)))⟩
        · obtain ⟨r0, u0, hq, hu0⟩ := hu
          have h3 := lw_up hq.2.1 hq.2.2 hm ho hu0

          exact ⟨⟨_, hv.2.1, rfl⟩, fun _ => ⟨_, hv.2.2 _ _ _ h3.2.2 (by unfold md_T; omega), by rw [pk_uLs, hq.1, hv.1, had]⟩, st, lw_mk h3.1 hv.2.1 h3.2.2 hv.2.2 ((rl_putB hrl hj hba hb16).2.2) (bu_same hbu rfl rfl (Nat.le_refl _)), by omega, by omega⟩
      · refine lw_put hx hb hml hown hts hE hX hbl hbA hi hL9 hP hS hl 2 (by decide) rx_L_put 1 6 (fun u0 => u0 = w) (l_put_2 l G w h _ o (xs (5 * c9 + 1)) (lw_z (xs (5 * c9 + 2)) (xs (5 * c9 + 3))) _ (by rw [ej]; exact t_K_putF l hlt G w h D σ hk j (lw_z (xs (5 * c9 + 2)) (xs (5 * c9 + 3))) hj hib (by omega)) hk.o) rfl rfl (Nat.le_of_ble_eq_true rfl) (Nat.le_of_ble_eq_true rfl) (by omega) (by omega) (fun u r v => r = nI 0 ∧ md_at G v a DM (μ.er' 2) ∧ dk_fr md_T u v) (fun u hu => ?_) (fun u r v hu hv => ?_) KK
        · have h3 := lw_v (hu.symm ▸ hk) (hu.symm ▸ dk_fr.rf) hm ho
          exact ⟨⟨_, h3.2.1.o⟩, by rw [ej]; exact c_M_putB l G u a DM μ h3.2.1 hmo j hj b9 hba (by omega) (lw_z (xs (5 * c9 + 2)) (xs (5 * c9 + 3)))⟩
        · have h3 := lw_v (hu.symm ▸ hk) (hu.symm ▸ dk_fr.rf) hm ho

          exact ⟨⟨_, hv.2.1, rfl⟩, fun h0 => absurd h0 (by decide), st, lw_mk h3.1 hv.2.1 h3.2.2 hv.2.2 (hrl.er (by decide)) (bu_same hbu rfl rfl (Nat.le_refl _)), by omega, by omega⟩
set_option maxHeartbeats 4000000 in
set_option maxRecDepth 100000 in
theorem lc_delete {p : Program} {l : Launch} {e : Env} {s : State} {m : MethodId} {args : Array Value} {below : List Frame} {meth : Method} {c : Code} {Q : State → Prop} {G : dk_G} {H : Heap} {locs : List Loc} {ls : Array Slot} {b L : Nat} {xs : Nat → Int32} {w : dk_H} {h a o c9 st : Nat} {D : kp_D} {DM : md_D} (hx : p.tables.exec = Jvm.exec) (hb : c.code = code) (hml : c.maxLocals = 8) (hown : s.vm.findClass "RunKeeperLaw" = some m.cls) (hts : ∀ w ∈ wd_all, w.before args s = true) (hE : dk_E G s) (hX : va_X b L xs s s.heap) (hbl : b < s.heap.size) (hbA : ¬ dk_A G b) (hi : 5 * c9 + 5 ≤ L) (hL9 : L ≤ 2560) (hP : dk_P G w H) (hS : dk_S G s.heap H locs) (hl : lv_has ls 8 [(0, .ref b), (1, .ref h), (2, .ref a), (3, .ref o), (4, .int (nI (5 * c9)))]) (hlt : l.stackTraces = false) (hc9 : c9 < 512) (hst : lw_S G w h a o D DM c9 st) (KK : ∀ (st1 : Nat) (v1 : dk_H) (H1 : Heap) (locs1 : List Loc) (ls1 : Array Slot), lw_S G v1 h a o D DM (c9 + 1) st1 → dk_P G v1 H1 → dk_S G s.heap H1 locs1 → lv_has ls1 8 [(0, .ref b), (1, .ref h), (2, .ref a), (3, .ref o), (4, .int (nI (5 * c9)))] → W p l e room_1 s m args below meth c H1 locs1 (100 + 24 * (c9 + 1) + 5 * st1) (30000 + 1650 * (c9 + 1) + 1579 * st1) Q (F0 m 830 ls1 [])) : W p l e room_1 s m args below meth c H locs (100 + 24 * c9 + 5 * st) (30000 + 1650 * c9 + 1579 * st) Q (F0 m 208 ls []) := by
  obtain ⟨σ, μ, f, hk, hm, ho, hrl, hbu⟩ := hst
  have hmo := hrl.2.1
  have hnn := rl_n hrl.1 hmo
  have h600 := hrl.2.2.1
  have h24 := hrl.2.2.2
  have hsq := hrl.1.1.1
  obtain ⟨bu1, bu2, bu3⟩ := id hbu
  cases hkey : in_r 1024 (xs (5 * c9 + 1)) with
  | false =>
    refine lw_delete hx hb hml hown hts hE hX hbl hbA hi hL9 hP hS hl 1 (by decide) rx_L_delete 1 6 (fun u0 => u0 = w) (l_delete_1 l G w h _ o (xs (5 * c9 + 1)) _ (t_K_deleteK l hlt G w h D σ hk (xs (5 * c9 + 1)) hkey) hk.o) rfl rfl (Nat.le_of_ble_eq_true rfl) (Nat.le_of_ble_eq_true rfl) (by omega) (by omega) (fun u r v => r = nI 0 ∧ md_at G v a DM (μ.er' 1) ∧ dk_fr md_T u v) (fun u hu => ?_) (fun u r v hu hv => ?_) KK
    · have h3 := lw_v (hu.symm ▸ hk) (hu.symm ▸ dk_fr.rf) hm ho
      exact ⟨⟨_, h3.2.1.o⟩, c_M_deleteK l G u a DM μ h3.2.1 hmo (xs (5 * c9 + 1)) (by rw [← in_im (n := 1023) (by decide)]; exact hkey)⟩
    · have h3 := lw_v (hu.symm ▸ hk) (hu.symm ▸ dk_fr.rf) hm ho

      exact ⟨⟨_, hv.2.1, rfl⟩, fun h0 => absurd h0 (by decide), st, lw_mk h3.1 hv.2.1 h3.2.2 hv.2.2 (hrl.er (by decide)) (bu_same hbu rfl rfl (Nat.le_refl _)), by omega, by omega⟩
  | true =>
    obtain ⟨j, hj, ej⟩ := in_some (by decide) hkey
    cases hba : μ.ba with
    | none =>
      obtain ⟨hib, hnil⟩ := rl_bn hrl hba
      by_cases hn6 : μ.n < 600
      · refine lw_delete hx hb hml hown hts hE hX hbl hbA hi hL9 hP hS hl 0 (by decide) (rw_L_delete 1) 7 1587 (fun u => ∃ (r0 : Int32) (u0 : dk_H), (r0 = nI (σ.sq + 1) ∧ kp_at G u0 h D (kp_fl (kp_ap σ (j, 0, 0, true)) 24) ∧ dk_fr kp_T w u0) ∧ u = va_up u0 o (some (90, dk_cl G 1 (vp_updL f 0 (r0.toInt64))))) (l_delete l G w h _ o f 1 (xs (5 * c9 + 1)) _ (by rw [ej]; exact c_K_deleteN l G w h D σ hk j hj hib (by omega) (by omega) (by omega)) hk.o ho (fun _ _ h9 => h9.2.2)) rfl rfl (Nat.le_of_ble_eq_true rfl) (Nat.le_of_ble_eq_true rfl) (by omega) (by omega) (fun u r v => r = nI (μ.sq + 1) ∧ md_at G v a DM (md_ff (md_w (μ.er' 0) j 0 true)) ∧ dk_fr md_T u v) (fun u hu => ?_) (fun u r v hu hv => ?_) KK
        · obtain ⟨r0, u0, hq, hu0⟩ := hu
          have h3 := lw_up hq.2.1 hq.2.2 hm ho hu0

          exact ⟨⟨_, h3.2.1.o⟩, by rw [ej]; exact c_M_deleteW l G u a DM μ h3.2.1 hmo j hj hba hn6 (by omega)⟩
        · obtain ⟨r0, u0, hq, hu0⟩ := hu
          have h3 := lw_up hq.2.1 hq.2.2 hm ho hu0

          exact ⟨⟨_, hv.2.1, md_ff_er _⟩, fun _ => ⟨_, hv.2.2 _ _ _ h3.2.2 (by unfold md_T; omega), by rw [pk_uLs, hq.1, hv.1, hsq]⟩, st, lw_mk h3.1 hv.2.1 h3.2.2 hv.2.2 (rl_put hrl hj hn6 (by omega) (by omega)) (bu_put hbu), by omega, by omega⟩
      · refine lw_delete hx hb hml hown hts hE hX hbl hbA hi hL9 hP hS hl 2 (by decide) rx_L_delete 1 6 (fun u0 => u0 = w) (l_delete_2 l G w h _ o (xs (5 * c9 + 1)) _ (by rw [ej]; exact t_K_deleteG l hlt G w h D σ hk j hj hib (by omega) (by omega)) hk.o) rfl rfl (Nat.le_of_ble_eq_true rfl) (Nat.le_of_ble_eq_true rfl) (by omega) (by omega) (fun u r v => r = nI 0 ∧ md_at G v a DM (μ.er' 2) ∧ dk_fr md_T u v) (fun u hu => ?_) (fun u r v hu hv => ?_) KK
        · have h3 := lw_v (hu.symm ▸ hk) (hu.symm ▸ dk_fr.rf) hm ho
          exact ⟨⟨_, h3.2.1.o⟩, by rw [ej]; exact c_M_deleteN l G u a DM μ h3.2.1 hmo j hj hba (by omega)⟩
        · have h3 := lw_v (hu.symm ▸ hk) (hu.symm ▸ dk_fr.rf) hm ho

          exact ⟨⟨_, hv.2.1, rfl⟩, fun h0 => absurd h0 (by decide), st, lw_mk h3.1 hv.2.1 h3.2.2 hv.2.2 (hrl.er (by decide)) (bu_same hbu rfl rfl (Nat.le_refl _)), by omega, by omega⟩
    | some b9 =>
      obtain ⟨hib, had, -⟩ := rl_by hrl hba
      have hb17 := hmo.2.2.2.2.2.2.2.2.1 b9 hba
      by_cases hb16 : b9 < 16
      · refine lw_delete hx hb hml hown hts hE hX hbl hbA hi hL9 hP hS hl 0 (by decide) (rw_L_delete 0) 2 8 (fun u => ∃ (r0 : Int32) (u0 : dk_H), (r0 = nI (σ.ad.length + 1) ∧ kp_at G u0 h D (σ.ad' (σ.ad ++ [(j, 0, 0, true)])) ∧ dk_fr kp_T w u0) ∧ u = va_up u0 o (some (90, dk_cl G 1 (vp_updL f 0 (r0.toInt64))))) (l_delete l G w h _ o f 0 (xs (5 * c9 + 1)) _ (by rw [ej]; exact c_K_deleteB l G w h D σ hk j hj hib (by omega)) hk.o ho (fun _ _ h9 => h9.2.2)) rfl rfl (Nat.le_of_ble_eq_true rfl) (Nat.le_of_ble_eq_true rfl) (by omega) (by omega) (fun u r v => r = nI (b9 + 1) ∧ md_at G v a DM (md_b μ j 0 true b9) ∧ dk_fr md_T u v) (fun u hu => ?_) (fun u r v hu hv => ?_) KK
        · obtain ⟨r0, u0, hq, hu0⟩ := hu
          have h3 := lw_up hq.2.1 hq.2.2 hm ho hu0

          exact ⟨⟨_, h3.2.1.o⟩, by rw [ej]; exact c_M_deleteC l G u a DM μ h3.2.1 hmo j hj b9 hba hb16⟩
        · obtain ⟨r0, u0, hq, hu0⟩ := hu
          have h3 := lw_up hq.2.1 hq.2.2 hm ho hu0

          exact ⟨⟨_, hv.2.1, rfl⟩, fun _ => ⟨_, hv.2.2 _ _ _ h3.2.2 (by unfold md_T; omega), by rw [pk_uLs, hq.1, hv.1, had]⟩, st, lw_mk h3.1 hv.2.1 h3.2.2 hv.2.2 ((rl_putB hrl hj hba hb16).2.2) (bu_same hbu rfl rfl (Nat.le_refl _)), by omega, by omega⟩
      · refine lw_delete hx hb hml hown hts hE hX hbl hbA hi hL9 hP hS hl 2 (by decide) rx_L_delete 1 6 (fun u0 => u0 = w) (l_delete_2 l G w h _ o (xs (5 * c9 + 1)) _ (by rw [ej]; exact t_K_deleteF l hlt G w h D σ hk j hj hib (by omega)) hk.o) rfl rfl (Nat.le_of_ble_eq_true rfl) (Nat.le_of_ble_eq_true rfl) (by omega) (by omega) (fun u r v => r = nI 0 ∧ md_at G v a DM (μ.er' 2) ∧ dk_fr md_T u v) (fun u hu => ?_) (fun u r v hu hv => ?_) KK
        · have h3 := lw_v (hu.symm ▸ hk) (hu.symm ▸ dk_fr.rf) hm ho
          exact ⟨⟨_, h3.2.1.o⟩, by rw [ej]; exact c_M_deleteB l G u a DM μ h3.2.1 hmo j hj b9 hba (by omega)⟩
        · have h3 := lw_v (hu.symm ▸ hk) (hu.symm ▸ dk_fr.rf) hm ho

          exact ⟨⟨_, hv.2.1, rfl⟩, fun h0 => absurd h0 (by decide), st, lw_mk h3.1 hv.2.1 h3.2.2 hv.2.2 (hrl.er (by decide)) (bu_same hbu rfl rfl (Nat.le_refl _)), by omega, by omega⟩
set_option maxHeartbeats 4000000 in
set_option maxRecDepth 100000 in
theorem lc_batch {p : Program} {l : Launch} {e : Env} {s : State} {m : MethodId} {args : Array Value} {below : List Frame} {meth : Method} {c : Code} {Q : State → Prop} {G : dk_G} {H : Heap} {locs : List Loc} {ls : Array Slot} {b L : Nat} {xs : Nat → Int32} {w : dk_H} {h a o c9 st : Nat} {D : kp_D} {DM : md_D} (hx : p.tables.exec = Jvm.exec) (hb : c.code = code) (hml : c.maxLocals = 8) (hown : s.vm.findClass "RunKeeperLaw" = some m.cls) (hts : ∀ w ∈ wd_all, w.before args s = true) (hE : dk_E G s) (hX : va_X b L xs s s.heap) (hbl : b < s.heap.size) (hbA : ¬ dk_A G b) (hi : 5 * c9 + 5 ≤ L) (hL9 : L ≤ 2560) (hP : dk_P G w H) (hS : dk_S G s.heap H locs) (hl : lv_has ls 8 [(0, .ref b), (1, .ref h), (2, .ref a), (3, .ref o), (4, .int (nI (5 * c9)))]) (hlt : l.stackTraces = false) (hc9 : c9 < 512) (hst : lw_S G w h a o D DM c9 st) (KK : ∀ (st1 : Nat) (v1 : dk_H) (H1 : Heap) (locs1 : List Loc) (ls1 : Array Slot), lw_S G v1 h a o D DM (c9 + 1) st1 → dk_P G v1 H1 → dk_S G s.heap H1 locs1 → lv_has ls1 8 [(0, .ref b), (1, .ref h), (2, .ref a), (3, .ref o), (4, .int (nI (5 * c9)))] → W p l e room_1 s m args below meth c H1 locs1 (100 + 24 * (c9 + 1) + 5 * st1) (30000 + 1650 * (c9 + 1) + 1579 * st1) Q (F0 m 830 ls1 [])) : W p l e room_1 s m args below meth c H locs (100 + 24 * c9 + 5 * st) (30000 + 1650 * c9 + 1579 * st) Q (F0 m 264 ls []) := by
  obtain ⟨σ, μ, f, hk, hm, ho, hrl, hbu⟩ := hst
  have hmo := hrl.2.1
  have hnn := rl_n hrl.1 hmo
  have h600 := hrl.2.2.1
  have h24 := hrl.2.2.2
  have hsq := hrl.1.1.1
  obtain ⟨bu1, bu2, bu3⟩ := id hbu
  cases hba : μ.ba with
  | none =>
    obtain ⟨hib, hnil⟩ := rl_bn hrl hba
    refine lw_batch hx hb hml hown hts hE hX hbl hbA hi hL9 hP hS hl 0 (by decide) rw_L_batch 0 0 (fun u0 => kp_at G u0 h D (σ.ib' true) ∧ dk_fr kp_T w u0) (l_batch l G w h _ _ (c_K_batch l G w h D σ hk hib) hk.o) rfl rfl (Nat.le_of_ble_eq_true rfl) (Nat.le_of_ble_eq_true rfl) (by omega) (by omega) (fun u v => md_at G v a DM ((μ.er' 0).ba' (some 0)) ∧ dk_fr md_T u v) (fun u hu => ?_) (fun u v hu hv => ?_) KK
    · have h3 := lw_v hu.1 hu.2 hm ho
      exact ⟨⟨_, h3.2.1.o⟩, c_M_batchS l G u a DM μ h3.2.1 hmo hba⟩
    · have h3 := lw_v hu.1 hu.2 hm ho
      exact ⟨⟨_, hv.1, rfl⟩, st, lw_mk h3.1 hv.1 h3.2.2 hv.2 (rl_batch hrl hba) (bu_same hbu rfl rfl (Nat.le_refl _)), by omega, by omega⟩
  | some b9 =>
    obtain ⟨hib, had, -⟩ := rl_by hrl hba
    have hb17 := hmo.2.2.2.2.2.2.2.2.1 b9 hba
    refine lw_batch hx hb hml hown hts hE hX hbl hbA hi hL9 hP hS hl 1 (by decide) rx_L_batch 1 6 (fun u0 => u0 = w) (l_batch_1 l G w h _ _ (t_K_batch l hlt G w h D σ hk hib) hk.o) rfl rfl (Nat.le_of_ble_eq_true rfl) (Nat.le_of_ble_eq_true rfl) (by omega) (by omega) (fun u v => md_at G v a DM (μ.er' 1) ∧ dk_fr md_T u v) (fun u hu => ?_) (fun u v hu hv => ?_) KK
    · have h3 := lw_v (hu.symm ▸ hk) (hu.symm ▸ dk_fr.rf) hm ho
      exact ⟨⟨_, h3.2.1.o⟩, c_M_batchF l G u a DM μ h3.2.1 hmo b9 hba hb17⟩
    · have h3 := lw_v (hu.symm ▸ hk) (hu.symm ▸ dk_fr.rf) hm ho

      exact ⟨⟨_, hv.1, rfl⟩, st, lw_mk h3.1 hv.1 h3.2.2 hv.2 (hrl.er (by decide)) (bu_same hbu rfl rfl (Nat.le_refl _)), by omega, by omega⟩
set_option maxHeartbeats 4000000 in
set_option maxRecDepth 100000 in
theorem lc_end {p : Program} {l : Launch} {e : Env} {s : State} {m : MethodId} {args : Array Value} {below : List Frame} {meth : Method} {c : Code} {Q : State → Prop} {G : dk_G} {H : Heap} {locs : List Loc} {ls : Array Slot} {b L : Nat} {xs : Nat → Int32} {w : dk_H} {h a o c9 st : Nat} {D : kp_D} {DM : md_D} (hx : p.tables.exec = Jvm.exec) (hb : c.code = code) (hml : c.maxLocals = 8) (hown : s.vm.findClass "RunKeeperLaw" = some m.cls) (hts : ∀ w ∈ wd_all, w.before args s = true) (hE : dk_E G s) (hX : va_X b L xs s s.heap) (hbl : b < s.heap.size) (hbA : ¬ dk_A G b) (hi : 5 * c9 + 5 ≤ L) (hL9 : L ≤ 2560) (hP : dk_P G w H) (hS : dk_S G s.heap H locs) (hl : lv_has ls 8 [(0, .ref b), (1, .ref h), (2, .ref a), (3, .ref o), (4, .int (nI (5 * c9)))]) (hlt : l.stackTraces = false) (hc9 : c9 < 512) (hst : lw_S G w h a o D DM c9 st) (b9 : Bool) (hz : xs (5 * c9 + 1) = 0 ↔ b9 = false) (KK : ∀ (st1 : Nat) (v1 : dk_H) (H1 : Heap) (locs1 : List Loc) (ls1 : Array Slot), lw_S G v1 h a o D DM (c9 + 1) st1 → dk_P G v1 H1 → dk_S G s.heap H1 locs1 → lv_has ls1 8 [(0, .ref b), (1, .ref h), (2, .ref a), (3, .ref o), (4, .int (nI (5 * c9)))] → W p l e room_1 s m args below meth c H1 locs1 (100 + 24 * (c9 + 1) + 5 * st1) (30000 + 1650 * (c9 + 1) + 1579 * st1) Q (F0 m 830 ls1 [])) : W p l e room_1 s m args below meth c H locs (100 + 24 * c9 + 5 * st) (30000 + 1650 * c9 + 1579 * st) Q (F0 m 288 ls []) := by
  obtain ⟨σ, μ, f, hk, hm, ho, hrl, hbu⟩ := hst
  have hmo := hrl.2.1
  have hnn := rl_n hrl.1 hmo
  have h600 := hrl.2.2.1
  have h24 := hrl.2.2.2
  have hsq := hrl.1.1.1
  obtain ⟨bu1, bu2, bu3⟩ := id hbu
  cases hba : μ.ba with
  | none =>
    obtain ⟨hib, hnil⟩ := rl_bn hrl hba
    refine lw_end hx hb hml hown hts hE hX hbl hbA hi hL9 hP hS hl b9 hz 1 (by decide) rx_L_end 1 6 (fun u0 => u0 = w) (l_end_1 l G w h _ o b9 _ (t_K_endN l hlt G w h D σ hk b9 hib) hk.o) rfl rfl (Nat.le_of_ble_eq_true rfl) (Nat.le_of_ble_eq_true rfl) (by omega) (by omega) (fun u r v => r = nI 0 ∧ md_at G v a DM (μ.er' 1) ∧ dk_fr md_T u v) (fun u hu => ?_) (fun u r v hu hv => ?_) KK
    · have h3 := lw_v (hu.symm ▸ hk) (hu.symm ▸ dk_fr.rf) hm ho
      exact ⟨⟨_, h3.2.1.o⟩, c_M_endF l G u a DM μ h3.2.1 hmo b9 hba⟩
    · have h3 := lw_v (hu.symm ▸ hk) (hu.symm ▸ dk_fr.rf) hm ho

      exact ⟨⟨_, hv.2.1, rfl⟩, fun h0 => absurd h0 (by decide), st, lw_mk h3.1 hv.2.1 h3.2.2 hv.2.2 (hrl.er (by decide)) (bu_same hbu rfl rfl (Nat.le_refl _)), by omega, by omega⟩
  | some n9 =>
    obtain ⟨hib, had, had3⟩ := rl_by hrl hba
    have hb17 := hmo.2.2.2.2.2.2.2.2.1 n9 hba
    cases b9 with
    | true =>
      by_cases hn6 : μ.n + n9 ≤ 600
      · refine lw_end hx hb hml hown hts hE hX hbl hbA hi hL9 hP hS hl true hz 0 (by decide) (rw_L_end σ.ad.length) (σ.ad.length + 5) (4 * σ.ad.length + 1579) (fun u => ∃ (r0 : Int32) (u0 : dk_H), (r0 = nI (σ.ad.length) ∧ kp_at G u0 h D (((kp_fl (ap_L σ σ.ad) 24).ib' false).ad' []) ∧ dk_fr kp_T w u0) ∧ u = va_up u0 o (some (90, dk_cl G 1 (vp_updL f 0 (r0.toInt64))))) (l_end l G w h _ o f σ.ad.length true _ (c_K_endC l G w h D σ hk hib (by omega) (by omega) h24 (fun y hy => by obtain ⟨i, hi9⟩ := List.getElem?_of_mem hy; rw [had3 i y hi9]; exact hmo.2.2.2.2.2.2.2.2.2.1 i)) hk.o ho (fun _ _ h9 => h9.2.2)) rfl rfl (Nat.le_of_ble_eq_true rfl) (Nat.le_of_ble_eq_true rfl) (by omega) (by omega) (fun u r v => r = nI n9 ∧ md_at G v a DM (md_ff ((md_wl (μ.er' 0) n9).ba' none)) ∧ dk_fr md_T u v) (fun u hu => ?_) (fun u r v hu hv => ?_) KK
        · obtain ⟨r0, u0, hq, hu0⟩ := hu
          have h3 := lw_up hq.2.1 hq.2.2 hm ho hu0

          exact ⟨⟨_, h3.2.1.o⟩, c_M_endC l G u a DM μ h3.2.1 hmo n9 hba hb17 hn6 (by omega)⟩
        · obtain ⟨r0, u0, hq, hu0⟩ := hu
          have h3 := lw_up hq.2.1 hq.2.2 hm ho hu0

          exact ⟨⟨_, hv.2.1, lw_er9 _ _⟩, fun _ => ⟨_, hv.2.2 _ _ _ h3.2.2 (by unfold md_T; omega), by rw [pk_uLs, hq.1, hv.1, had]⟩, st, lw_mk h3.1 hv.2.1 h3.2.2 hv.2.2 (by have h7 := rl_end hrl hba hb17 (i := n9) (Nat.le_refl _) hn6 (by omega) (by omega); rw [← had, List.take_length] at h7; rw [← had]; exact h7) (bu_end hbu hb17 _), by omega, by omega⟩
      · refine lw_end hx hb hml hown hts hE hX hbl hbA hi hL9 hP hS hl true hz 2 (by decide) rx_L_end 1 6 (fun u0 => u0 = w) (l_end_2 l G w h _ o true _ (t_K_endX l hlt G w h D σ hk hib (by omega) (by omega)) hk.o) rfl rfl (Nat.le_of_ble_eq_true rfl) (Nat.le_of_ble_eq_true rfl) (by omega) (by omega) (fun u r v => r = nI 0 ∧ md_at G v a DM (μ.er' 2) ∧ dk_fr md_T u v) (fun u hu => ?_) (fun u r v hu hv => ?_) KK
        · have h3 := lw_v (hu.symm ▸ hk) (hu.symm ▸ dk_fr.rf) hm ho
          exact ⟨⟨_, h3.2.1.o⟩, c_M_endX l G u a DM μ h3.2.1 hmo n9 hba hb17 (by omega)⟩
        · have h3 := lw_v (hu.symm ▸ hk) (hu.symm ▸ dk_fr.rf) hm ho

          exact ⟨⟨_, hv.2.1, rfl⟩, fun h0 => absurd h0 (by decide), st, lw_mk h3.1 hv.2.1 h3.2.2 hv.2.2 (hrl.er (by decide)) (bu_same hbu rfl rfl (Nat.le_refl _)), by omega, by omega⟩
    | false =>
      refine lw_end hx hb hml hown hts hE hX hbl hbA hi hL9 hP hS hl false hz 0 (by decide) (rw_L_end 0) (0 + 5) (4 * 0 + 1579) (fun u => ∃ (r0 : Int32) (u0 : dk_H), (r0 = nI (0) ∧ kp_at G u0 h D (((kp_fl (ap_L σ ([] : List en_T)) 24).ib' false).ad' []) ∧ dk_fr kp_T w u0) ∧ u = va_up u0 o (some (90, dk_cl G 1 (vp_updL f 0 (r0.toInt64))))) (l_end l G w h _ o f 0 false _ (c_K_endR l G w h D σ hk hib (by omega) (by omega) h24 (fun y hy => by obtain ⟨i, hi9⟩ := List.getElem?_of_mem hy; rw [had3 i y hi9]; exact hmo.2.2.2.2.2.2.2.2.2.1 i)) hk.o ho (fun _ _ h9 => h9.2.2)) rfl rfl (Nat.le_of_ble_eq_true rfl) (Nat.le_of_ble_eq_true rfl) (by omega) (by omega) (fun u r v => r = nI 0 ∧ md_at G v a DM (md_ff ((md_wl (μ.er' 0) 0).ba' none)) ∧ dk_fr md_T u v) (fun u hu => ?_) (fun u r v hu hv => ?_) KK
      · obtain ⟨r0, u0, hq, hu0⟩ := hu
        have h3 := lw_up hq.2.1 hq.2.2 hm ho hu0

        exact ⟨⟨_, h3.2.1.o⟩, c_M_endR l G u a DM μ h3.2.1 hmo n9 hba hb17⟩
      · obtain ⟨r0, u0, hq, hu0⟩ := hu
        have h3 := lw_up hq.2.1 hq.2.2 hm ho hu0

        exact ⟨⟨_, hv.2.1, lw_er9 _ _⟩, fun _ => ⟨_, hv.2.2 _ _ _ h3.2.2 (by unfold md_T; omega), by rw [pk_uLs, hq.1, hv.1]⟩, st, lw_mk h3.1 hv.2.1 h3.2.2 hv.2.2 (rl_end hrl hba hb17 (i := 0) (Nat.zero_le _) (by omega) (by omega) (by omega)) (bu_end hbu (Nat.zero_le _) _), by omega, by omega⟩
set_option maxHeartbeats 4000000 in
set_option maxRecDepth 100000 in
theorem lc_sync {p : Program} {l : Launch} {e : Env} {s : State} {m : MethodId} {args : Array Value} {below : List Frame} {meth : Method} {c : Code} {Q : State → Prop} {G : dk_G} {H : Heap} {locs : List Loc} {ls : Array Slot} {b L : Nat} {xs : Nat → Int32} {w : dk_H} {h a o c9 st : Nat} {D : kp_D} {DM : md_D} (hx : p.tables.exec = Jvm.exec) (hb : c.code = code) (hml : c.maxLocals = 8) (hown : s.vm.findClass "RunKeeperLaw" = some m.cls) (hts : ∀ w ∈ wd_all, w.before args s = true) (hE : dk_E G s) (hX : va_X b L xs s s.heap) (hbl : b < s.heap.size) (hbA : ¬ dk_A G b) (hi : 5 * c9 + 5 ≤ L) (hL9 : L ≤ 2560) (hP : dk_P G w H) (hS : dk_S G s.heap H locs) (hl : lv_has ls 8 [(0, .ref b), (1, .ref h), (2, .ref a), (3, .ref o), (4, .int (nI (5 * c9)))]) (hlt : l.stackTraces = false) (hc9 : c9 < 512) (hst : lw_S G w h a o D DM c9 st) (KK : ∀ (st1 : Nat) (v1 : dk_H) (H1 : Heap) (locs1 : List Loc) (ls1 : Array Slot), lw_S G v1 h a o D DM (c9 + 1) st1 → dk_P G v1 H1 → dk_S G s.heap H1 locs1 → lv_has ls1 8 [(0, .ref b), (1, .ref h), (2, .ref a), (3, .ref o), (4, .int (nI (5 * c9)))] → W p l e room_1 s m args below meth c H1 locs1 (100 + 24 * (c9 + 1) + 5 * st1) (30000 + 1650 * (c9 + 1) + 1579 * st1) Q (F0 m 830 ls1 [])) : W p l e room_1 s m args below meth c H locs (100 + 24 * c9 + 5 * st) (30000 + 1650 * c9 + 1579 * st) Q (F0 m 360 ls []) := by
  obtain ⟨σ, μ, f, hk, hm, ho, hrl, hbu⟩ := hst
  have hmo := hrl.2.1
  have hnn := rl_n hrl.1 hmo
  have h600 := hrl.2.2.1
  have h24 := hrl.2.2.2
  have hsq := hrl.1.1.1
  obtain ⟨bu1, bu2, bu3⟩ := id hbu
  refine lw_sync hx hb hml hown hts hE hX hbl hbA hi hL9 hP hS hl (by omega) (by omega) _ hk.o (fun r u0 => r = nI σ.tb.length ∧ kp_at G u0 h D (σ.sf' σ.tb.length) ∧ dk_fr kp_T w u0) (c_K_sync l G w h D σ hk) (fun u r v => r = nI (md_k μ) ∧ md_at G v a DM ((μ.er' 0).sf' (md_k μ)) ∧ dk_fr md_T u v) (fun r u hu => ?_) (fun r u r2 v hu hv => ?_) KK
  · have h3 := lw_v hu.2.1 hu.2.2 hm ho
    exact ⟨⟨_, h3.2.1.o⟩, c_M_sync l G u a DM μ h3.2.1 hmo⟩
  · have h3 := lw_v hu.2.1 hu.2.2 hm ho
    exact ⟨by rw [hu.1, hv.1, rl_tbk hrl.1], lw_mk h3.1 hv.2.1 h3.2.2 hv.2.2 (rl_sync hrl) (bu_same hbu rfl rfl (Nat.le_refl _))⟩
set_option maxHeartbeats 4000000 in
set_option maxRecDepth 100000 in
theorem lc_flush {p : Program} {l : Launch} {e : Env} {s : State} {m : MethodId} {args : Array Value} {below : List Frame} {meth : Method} {c : Code} {Q : State → Prop} {G : dk_G} {H : Heap} {locs : List Loc} {ls : Array Slot} {b L : Nat} {xs : Nat → Int32} {w : dk_H} {h a o c9 st : Nat} {D : kp_D} {DM : md_D} (hx : p.tables.exec = Jvm.exec) (hb : c.code = code) (hml : c.maxLocals = 8) (hown : s.vm.findClass "RunKeeperLaw" = some m.cls) (hts : ∀ w ∈ wd_all, w.before args s = true) (hE : dk_E G s) (hX : va_X b L xs s s.heap) (hbl : b < s.heap.size) (hbA : ¬ dk_A G b) (hi : 5 * c9 + 5 ≤ L) (hL9 : L ≤ 2560) (hP : dk_P G w H) (hS : dk_S G s.heap H locs) (hl : lv_has ls 8 [(0, .ref b), (1, .ref h), (2, .ref a), (3, .ref o), (4, .int (nI (5 * c9)))]) (hlt : l.stackTraces = false) (hc9 : c9 < 512) (hst : lw_S G w h a o D DM c9 st) (KK : ∀ (st1 : Nat) (v1 : dk_H) (H1 : Heap) (locs1 : List Loc) (ls1 : Array Slot), lw_S G v1 h a o D DM (c9 + 1) st1 → dk_P G v1 H1 → dk_S G s.heap H1 locs1 → lv_has ls1 8 [(0, .ref b), (1, .ref h), (2, .ref a), (3, .ref o), (4, .int (nI (5 * c9)))] → W p l e room_1 s m args below meth c H1 locs1 (100 + 24 * (c9 + 1) + 5 * st1) (30000 + 1650 * (c9 + 1) + 1579 * st1) Q (F0 m 830 ls1 [])) : W p l e room_1 s m args below meth c H locs (100 + 24 * c9 + 5 * st) (30000 + 1650 * c9 + 1579 * st) Q (F0 m 373 ls []) := by
  obtain ⟨σ, μ, f, hk, hm, ho, hrl, hbu⟩ := hst
  have hmo := hrl.2.1
  have hnn := rl_n hrl.1 hmo
  have h600 := hrl.2.2.1
  have h24 := hrl.2.2.2
  have hsq := hrl.1.1.1
  obtain ⟨bu1, bu2, bu3⟩ := id hbu
  refine lw_flush hx hb hml hown hts hE hX hbl hbA hi hL9 hP hS hl (by omega) (by omega) _ hk.o (fun r u0 => r = nI σ.tb.length ∧ kp_at G u0 h D (kp_fl σ 1) ∧ dk_fr kp_T w u0) (c_K_flush l G w h D σ hk (by omega)) (fun u r v => r = nI (md_k μ) ∧ md_at G v a DM (md_fl (μ.er' 0)) ∧ dk_fr md_T u v) (fun r u hu => ?_) (fun r u r2 v hu hv => ?_) KK
  · have h3 := lw_v hu.2.1 hu.2.2 hm ho
    exact ⟨⟨_, h3.2.1.o⟩, c_M_flush l G u a DM μ h3.2.1 hmo⟩
  · have h3 := lw_v hu.2.1 hu.2.2 hm ho
    exact ⟨by rw [hu.1, hv.1, rl_tbk hrl.1], lw_mk h3.1 hv.2.1 h3.2.2 hv.2.2 (rl_flush hrl (by omega)) (bu_flush hbu)⟩
set_option maxHeartbeats 4000000 in
set_option maxRecDepth 100000 in
theorem lc_crash {p : Program} {l : Launch} {e : Env} {s : State} {m : MethodId} {args : Array Value} {below : List Frame} {meth : Method} {c : Code} {Q : State → Prop} {G : dk_G} {H : Heap} {locs : List Loc} {ls : Array Slot} {b L : Nat} {xs : Nat → Int32} {w : dk_H} {h a o c9 st : Nat} {D : kp_D} {DM : md_D} (hx : p.tables.exec = Jvm.exec) (hb : c.code = code) (hml : c.maxLocals = 8) (hown : s.vm.findClass "RunKeeperLaw" = some m.cls) (hts : ∀ w ∈ wd_all, w.before args s = true) (hE : dk_E G s) (hX : va_X b L xs s s.heap) (hbl : b < s.heap.size) (hbA : ¬ dk_A G b) (hi : 5 * c9 + 5 ≤ L) (hL9 : L ≤ 2560) (hP : dk_P G w H) (hS : dk_S G s.heap H locs) (hl : lv_has ls 8 [(0, .ref b), (1, .ref h), (2, .ref a), (3, .ref o), (4, .int (nI (5 * c9)))]) (hlt : l.stackTraces = false) (hc9 : c9 < 512) (hst : lw_S G w h a o D DM c9 st) (KK : ∀ (st1 : Nat) (v1 : dk_H) (H1 : Heap) (locs1 : List Loc) (ls1 : Array Slot), lw_S G v1 h a o D DM (c9 + 1) st1 → dk_P G v1 H1 → dk_S G s.heap H1 locs1 → lv_has ls1 8 [(0, .ref b), (1, .ref h), (2, .ref a), (3, .ref o), (4, .int (nI (5 * c9)))] → W p l e room_1 s m args below meth c H1 locs1 (100 + 24 * (c9 + 1) + 5 * st1) (30000 + 1650 * (c9 + 1) + 1579 * st1) Q (F0 m 830 ls1 [])) : W p l e room_1 s m args below meth c H locs (100 + 24 * c9 + 5 * st) (30000 + 1650 * c9 + 1579 * st) Q (F0 m 442 ls []) := by
  have hsf9 : ∀ (σ : kp_S) (μ : md_S), rl_at σ μ → σ.sf < 2 ^ 31 ∧ μ.sf < 2 ^ 31 := fun σ μ hr => by
    have h1 := hr.1.2.2.2.2
    have h2 := hr.2.2.2
    have h3 := hr.1.1.2.1
    omega
  obtain ⟨σ, μ, f, hk, hm, ho, hrl, hbu⟩ := hst
  have hmo := hrl.2.1
  have hnn := rl_n hrl.1 hmo
  have h600 := hrl.2.2.1
  have h24 := hrl.2.2.2
  have hsq := hrl.1.1.1
  obtain ⟨bu1, bu2, bu3⟩ := id hbu
  refine lw_crash hx hb hml hown hts hE hX hbl hbA hi hL9 hP hS hl (by omega) (by omega) _ hk.o (fun r u0 => r = nI (σ.tb.take σ.sf).length ∧ kp_at G u0 h D (kp_cr σ) ∧ dk_fr kp_T w u0) (c_K_crash l G w h D σ hk (hsf9 σ μ hrl).1 (by omega)) (fun u r v => r = nI (md_k (md_cr μ)) ∧ md_at G v a DM (md_cr μ) ∧ dk_fr md_T u v) (fun r u hu => ?_) (fun r u r2 v hu hv => ?_) KK
  · have h3 := lw_v hu.2.1 hu.2.2 hm ho
    exact ⟨⟨_, h3.2.1.o⟩, c_M_crash l G u a DM μ h3.2.1 hmo (hsf9 σ μ hrl).2⟩
  · have h3 := lw_v hu.2.1 hu.2.2 hm ho
    exact ⟨by rw [hu.1, hv.1, rl_tbk (rl_crash hrl).1]; rfl, lw_mk h3.1 hv.2.1 h3.2.2 hv.2.2 (rl_crash hrl) (bu_crash hbu hrl)⟩
set_option maxHeartbeats 4000000 in
set_option maxRecDepth 100000 in
theorem lc_merge {p : Program} {l : Launch} {e : Env} {s : State} {m : MethodId} {args : Array Value} {below : List Frame} {meth : Method} {c : Code} {Q : State → Prop} {G : dk_G} {H : Heap} {locs : List Loc} {ls : Array Slot} {b L : Nat} {xs : Nat → Int32} {w : dk_H} {h a o c9 st : Nat} {D : kp_D} {DM : md_D} (hx : p.tables.exec = Jvm.exec) (hb : c.code = code) (hml : c.maxLocals = 8) (hown : s.vm.findClass "RunKeeperLaw" = some m.cls) (hts : ∀ w ∈ wd_all, w.before args s = true) (hE : dk_E G s) (hX : va_X b L xs s s.heap) (hbl : b < s.heap.size) (hbA : ¬ dk_A G b) (hi : 5 * c9 + 5 ≤ L) (hL9 : L ≤ 2560) (hP : dk_P G w H) (hS : dk_S G s.heap H locs) (hl : lv_has ls 8 [(0, .ref b), (1, .ref h), (2, .ref a), (3, .ref o), (4, .int (nI (5 * c9)))]) (hlt : l.stackTraces = false) (hc9 : c9 < 512) (hst : lw_S G w h a o D DM c9 st) (KK : ∀ (st1 : Nat) (v1 : dk_H) (H1 : Heap) (locs1 : List Loc) (ls1 : Array Slot), lw_S G v1 h a o D DM (c9 + 1) st1 → dk_P G v1 H1 → dk_S G s.heap H1 locs1 → lv_has ls1 8 [(0, .ref b), (1, .ref h), (2, .ref a), (3, .ref o), (4, .int (nI (5 * c9)))] → W p l e room_1 s m args below meth c H1 locs1 (100 + 24 * (c9 + 1) + 5 * st1) (30000 + 1650 * (c9 + 1) + 1579 * st1) Q (F0 m 830 ls1 [])) : W p l e room_1 s m args below meth c H locs (100 + 24 * c9 + 5 * st) (30000 + 1650 * c9 + 1579 * st) Q (F0 m 386 ls []) := by
  obtain ⟨σ, μ, f, hk, hm, ho, hrl, hbu⟩ := hst
  have hmo := hrl.2.1
  have hnn := rl_n hrl.1 hmo
  have h600 := hrl.2.2.1
  have h24 := hrl.2.2.2
  have hsq := hrl.1.1.1
  obtain ⟨bu1, bu2, bu3⟩ := id hbu
  cases hkey : im_b (xs (5 * c9 + 1)) (nI 0) (nI 100) with
  | false =>
    refine lw_merge hx hb hml hown hts hE hX hbl hbA hi hL9 hP hS hl 1 (by decide) rx_L_merge 1 6 (fun u0 => u0 = w) (l_merge_1 l G w h _ o (xs (5 * c9 + 1)) _ (t_K_merge l hlt G w h D σ hk (xs (5 * c9 + 1)) hkey) hk.o) rfl rfl (Nat.le_of_ble_eq_true rfl) (Nat.le_of_ble_eq_true rfl) (by omega) (by omega) (fun u r v => r = nI 0 ∧ md_at G v a DM (μ.er' 1) ∧ dk_fr md_T u v) (fun u hu => ?_) (fun u r v hu hv => ?_) KK
    · have h3 := lw_v (hu.symm ▸ hk) (hu.symm ▸ dk_fr.rf) hm ho
      exact ⟨⟨_, h3.2.1.o⟩, c_M_mergeF l G u a DM μ h3.2.1 hmo (xs (5 * c9 + 1)) hkey⟩
    · have h3 := lw_v (hu.symm ▸ hk) (hu.symm ▸ dk_fr.rf) hm ho

      exact ⟨⟨_, hv.2.1, rfl⟩, fun h0 => absurd h0 (by decide), st, lw_mk h3.1 hv.2.1 h3.2.2 hv.2.2 (hrl.er (by decide)) (bu_same hbu rfl rfl (Nat.le_refl _)), by omega, by omega⟩
  | true =>
    obtain ⟨j, hj, ej⟩ := im_nat (by decide) hkey
    have hml9 := mg_n_le j σ
    refine lw_merge hx hb hml hown hts hE hX hbl hbA hi hL9 hP hS hl 0 (by decide) (rw_L_merge (mg_n j σ).1) (5 * (mg_n j σ).1) (1579 * (mg_n j σ).1) (fun u => ∃ (r0 : Int32) (u0 : dk_H), (r0 = nI (mg_n j σ).1 ∧ kp_at G u0 h D (mg_n j σ).2 ∧ dk_fr kp_T w u0) ∧ u = va_up u0 o (some (90, dk_cl G 1 (vp_updL f 0 (r0.toInt64))))) (l_merge l G w h _ o f (mg_n j σ).1 (xs (5 * c9 + 1)) _ (by rw [ej]; exact c_K_merge l G w h D σ hk j hj (by omega)) hk.o ho (fun _ _ h9 => h9.2.2)) rfl rfl (Nat.le_of_ble_eq_true rfl) (Nat.le_of_ble_eq_true rfl) (by omega) (by omega) (fun u r v => ∃ (k : Nat) (ν : md_S), r = nI k ∧ k ≤ j ∧ md_mk (μ.er' 0) k ν ∧ (k < j → ∀ l, l < 5 → ro_c ν l < 4) ∧ md_at G v a DM ν ∧ dk_fr md_T u v) (fun u hu => ?_) (fun u r v hu hv => ?_) KK
    · obtain ⟨r0, u0, hq, hu0⟩ := hu
      have h3 := lw_up hq.2.1 hq.2.2 hm ho hu0

      exact ⟨⟨_, h3.2.1.o⟩, by rw [ej]; exact c_M_mergeS l G u a DM μ h3.2.1 hmo j hj (by omega)⟩
    · obtain ⟨r0, u0, hq, hu0⟩ := hu
      have h3 := lw_up hq.2.1 hq.2.2 hm ho hu0
      obtain ⟨k, ν, g1, g2, g3, g4, g5, g6⟩ := hv
      obtain ⟨e1, e2, e3, e4⟩ := rl_merge hrl g2 g3 g4 (by omega)
      exact ⟨⟨_, g5, md_mk_er g3⟩, fun _ => ⟨_, g6 _ _ _ h3.2.2 (by unfold md_T; omega), by rw [pk_uLs, hq.1, e1, g1]⟩, (st + k), lw_mk h3.1 g5 h3.2.2 g6 (e2) (bu_merge hbu e3 e4 (lw_sq g3)), by omega, by omega⟩
set_option maxHeartbeats 4000000 in
set_option maxRecDepth 100000 in
theorem lc_snapshot {p : Program} {l : Launch} {e : Env} {s : State} {m : MethodId} {args : Array Value} {below : List Frame} {meth : Method} {c : Code} {Q : State → Prop} {G : dk_G} {H : Heap} {locs : List Loc} {ls : Array Slot} {b L : Nat} {xs : Nat → Int32} {w : dk_H} {h a o c9 st : Nat} {D : kp_D} {DM : md_D} (hx : p.tables.exec = Jvm.exec) (hb : c.code = code) (hml : c.maxLocals = 8) (hown : s.vm.findClass "RunKeeperLaw" = some m.cls) (hts : ∀ w ∈ wd_all, w.before args s = true) (hE : dk_E G s) (hX : va_X b L xs s s.heap) (hbl : b < s.heap.size) (hbA : ¬ dk_A G b) (hi : 5 * c9 + 5 ≤ L) (hL9 : L ≤ 2560) (hP : dk_P G w H) (hS : dk_S G s.heap H locs) (hl : lv_has ls 8 [(0, .ref b), (1, .ref h), (2, .ref a), (3, .ref o), (4, .int (nI (5 * c9)))]) (hlt : l.stackTraces = false) (hc9 : c9 < 512) (hst : lw_S G w h a o D DM c9 st) (KK : ∀ (st1 : Nat) (v1 : dk_H) (H1 : Heap) (locs1 : List Loc) (ls1 : Array Slot), lw_S G v1 h a o D DM (c9 + 1) st1 → dk_P G v1 H1 → dk_S G s.heap H1 locs1 → lv_has ls1 8 [(0, .ref b), (1, .ref h), (2, .ref a), (3, .ref o), (4, .int (nI (5 * c9)))] → W p l e room_1 s m args below meth c H1 locs1 (100 + 24 * (c9 + 1) + 5 * st1) (30000 + 1650 * (c9 + 1) + 1579 * st1) Q (F0 m 830 ls1 [])) : W p l e room_1 s m args below meth c H locs (100 + 24 * c9 + 5 * st) (30000 + 1650 * c9 + 1579 * st) Q (F0 m 455 ls []) := by
  obtain ⟨σ, μ, f, hk, hm, ho, hrl, hbu⟩ := hst
  have hmo := hrl.2.1
  have hnn := rl_n hrl.1 hmo
  have h600 := hrl.2.2.1
  have h24 := hrl.2.2.2
  have hsq := hrl.1.1.1
  obtain ⟨bu1, bu2, bu3⟩ := id hbu
  rcases lw_free μ.ss 6 with hall | ⟨j, hj, hj0, hj1⟩
  · refine lw_snapshot hx hb hml hown hts hE hX hbl hbA hi hL9 hP hS hl 1 (by decide) rx_L_snapshot 1 6 (fun u0 => u0 = w) (l_snapshot_1 l G w h _ o _ (t_K_snapshot l hlt G w h D σ hk (fun i hi9 => by rw [(rl_ss hrl hi9).1 (hall i hi9)]; rfl)) hk.o) rfl rfl (Nat.le_of_ble_eq_true rfl) (Nat.le_of_ble_eq_true rfl) (by omega) (by omega) (fun u r v => r = nI 0 ∧ md_at G v a DM (μ.er' 1) ∧ dk_fr md_T u v) (fun u hu => ?_) (fun u r v hu hv => ?_) KK
    · have h3 := lw_v (hu.symm ▸ hk) (hu.symm ▸ dk_fr.rf) hm ho
      exact ⟨⟨_, h3.2.1.o⟩, c_M_snapshotF l G u a DM μ h3.2.1 hmo hall⟩
    · have h3 := lw_v (hu.symm ▸ hk) (hu.symm ▸ dk_fr.rf) hm ho

      exact ⟨⟨_, hv.2.1, rfl⟩, fun h0 => absurd h0 (by decide), st, lw_mk h3.1 hv.2.1 h3.2.2 hv.2.2 (hrl.er (by decide)) (bu_same hbu rfl rfl (Nat.le_refl _)), by omega, by omega⟩
  · refine lw_snapshot hx hb hml hown hts hE hX hbl hbA hi hL9 hP hS hl 0 (by decide) rw_L_snapshot 0 0 (fun u => ∃ (r0 : Int32) (u0 : dk_H), (r0 = nI j ∧ kp_at G u0 h D (σ.sn' (va_up σ.sn j (some σ.sq))) ∧ dk_fr kp_T w u0) ∧ u = va_up u0 o (some (90, dk_cl G 1 (vp_updL f 0 (r0.toInt64))))) (l_snapshot l G w h _ o f _ (c_K_snapshot l G w h D σ hk j hj ((rl_ss hrl hj).2 hj0) (fun i hi9 => by rw [(rl_ss hrl (by omega)).1 (hj1 i hi9)]; rfl) (by omega)) hk.o ho (fun _ _ h9 => h9.2.2)) rfl rfl (Nat.le_of_ble_eq_true rfl) (Nat.le_of_ble_eq_true rfl) (by omega) (by omega) (fun u r v => r = nI j ∧ md_at G v a DM (((μ.er' 0).ss' (va_up μ.ss j true)).sv' (va_up μ.sv j μ.sq)) ∧ dk_fr md_T u v) (fun u hu => ?_) (fun u r v hu hv => ?_) KK
    · obtain ⟨r0, u0, hq, hu0⟩ := hu
      have h3 := lw_up hq.2.1 hq.2.2 hm ho hu0

      exact ⟨⟨_, h3.2.1.o⟩, c_M_snapshotS l G u a DM μ h3.2.1 hmo j hj hj0 hj1⟩
    · obtain ⟨r0, u0, hq, hu0⟩ := hu
      have h3 := lw_up hq.2.1 hq.2.2 hm ho hu0

      exact ⟨⟨_, hv.2.1, rfl⟩, fun _ => ⟨_, hv.2.2 _ _ _ h3.2.2 (by unfold md_T; omega), by rw [pk_uLs, hq.1, hv.1]⟩, st, lw_mk h3.1 hv.2.1 h3.2.2 hv.2.2 (rl_snap hrl hj) (bu_same hbu rfl rfl (Nat.le_refl _)), by omega, by omega⟩
set_option maxHeartbeats 4000000 in
set_option maxRecDepth 100000 in
theorem lc_release {p : Program} {l : Launch} {e : Env} {s : State} {m : MethodId} {args : Array Value} {below : List Frame} {meth : Method} {c : Code} {Q : State → Prop} {G : dk_G} {H : Heap} {locs : List Loc} {ls : Array Slot} {b L : Nat} {xs : Nat → Int32} {w : dk_H} {h a o c9 st : Nat} {D : kp_D} {DM : md_D} (hx : p.tables.exec = Jvm.exec) (hb : c.code = code) (hml : c.maxLocals = 8) (hown : s.vm.findClass "RunKeeperLaw" = some m.cls) (hts : ∀ w ∈ wd_all, w.before args s = true) (hE : dk_E G s) (hX : va_X b L xs s s.heap) (hbl : b < s.heap.size) (hbA : ¬ dk_A G b) (hi : 5 * c9 + 5 ≤ L) (hL9 : L ≤ 2560) (hP : dk_P G w H) (hS : dk_S G s.heap H locs) (hl : lv_has ls 8 [(0, .ref b), (1, .ref h), (2, .ref a), (3, .ref o), (4, .int (nI (5 * c9)))]) (hlt : l.stackTraces = false) (hc9 : c9 < 512) (hst : lw_S G w h a o D DM c9 st) (KK : ∀ (st1 : Nat) (v1 : dk_H) (H1 : Heap) (locs1 : List Loc) (ls1 : Array Slot), lw_S G v1 h a o D DM (c9 + 1) st1 → dk_P G v1 H1 → dk_S G s.heap H1 locs1 → lv_has ls1 8 [(0, .ref b), (1, .ref h), (2, .ref a), (3, .ref o), (4, .int (nI (5 * c9)))] → W p l e room_1 s m args below meth c H1 locs1 (100 + 24 * (c9 + 1) + 5 * st1) (30000 + 1650 * (c9 + 1) + 1579 * st1) Q (F0 m 830 ls1 [])) : W p l e room_1 s m args below meth c H locs (100 + 24 * c9 + 5 * st) (30000 + 1650 * c9 + 1579 * st) Q (F0 m 499 ls []) := by
  obtain ⟨σ, μ, f, hk, hm, ho, hrl, hbu⟩ := hst
  have hmo := hrl.2.1
  have hnn := rl_n hrl.1 hmo
  have h600 := hrl.2.2.1
  have h24 := hrl.2.2.2
  have hsq := hrl.1.1.1
  obtain ⟨bu1, bu2, bu3⟩ := id hbu
  cases hv0 : vs_g μ (xs (5 * c9 + 1)) with
  | none =>
    refine lw_release hx hb hml hown hts hE hX hbl hbA hi hL9 hP hS hl 1 (by decide) rx_L_release 1 6 (fun u0 => u0 = w) (l_release_1 l G w h _ (xs (5 * c9 + 1)) _ (t_K_release l hlt G w h D σ hk (xs (5 * c9 + 1)) (by rw [rl_vs hrl]; exact hv0)) hk.o) rfl rfl (Nat.le_of_ble_eq_true rfl) (Nat.le_of_ble_eq_true rfl) (by omega) (by omega) (fun u v => md_at G v a DM (μ.er' 1) ∧ dk_fr md_T u v) (fun u hu => ?_) (fun u v hu hv => ?_) KK
    · have h3 := lw_v (hu.symm ▸ hk) (hu.symm ▸ dk_fr.rf) hm ho
      exact ⟨⟨_, h3.2.1.o⟩, c_M_releaseF l G u a DM μ h3.2.1 hmo (xs (5 * c9 + 1)) hv0⟩
    · have h3 := lw_v (hu.symm ▸ hk) (hu.symm ▸ dk_fr.rf) hm ho

      exact ⟨⟨_, hv.1, rfl⟩, st, lw_mk h3.1 hv.1 h3.2.2 hv.2 (hrl.er (by decide)) (bu_same hbu rfl rfl (Nat.le_refl _)), by omega, by omega⟩
  | some y0 =>
    obtain ⟨j, hj, ej, -⟩ := vs_s hv0
    have hss : μ.ss j = true := by
      cases hq : μ.ss j with
      | true => rfl
      | false => rw [ej, vs_o hj hq] at hv0; cases hv0
    refine lw_release hx hb hml hown hts hE hX hbl hbA hi hL9 hP hS hl 0 (by decide) rw_L_release 0 0 (fun u0 => kp_at G u0 h D (σ.sn' (va_up σ.sn j none)) ∧ dk_fr kp_T w u0) (l_release l G w h _ (xs (5 * c9 + 1)) _ (by rw [ej]; exact c_K_release l G w h D σ hk j hj (by rw [(rl_ss hrl hj).1 hss]; rfl)) hk.o) rfl rfl (Nat.le_of_ble_eq_true rfl) (Nat.le_of_ble_eq_true rfl) (by omega) (by omega) (fun u v => md_at G v a DM ((μ.er' 0).ss' (va_up μ.ss j false)) ∧ dk_fr md_T u v) (fun u hu => ?_) (fun u v hu hv => ?_) KK
    · have h3 := lw_v hu.1 hu.2 hm ho
      exact ⟨⟨_, h3.2.1.o⟩, by rw [ej]; exact c_M_releaseS l G u a DM μ h3.2.1 hmo j hj hss⟩
    · have h3 := lw_v hu.1 hu.2 hm ho
      exact ⟨⟨_, hv.1, rfl⟩, st, lw_mk h3.1 hv.1 h3.2.2 hv.2 (rl_rel hrl hj) (bu_same hbu rfl rfl (Nat.le_refl _)), by omega, by omega⟩
set_option maxHeartbeats 4000000 in
set_option maxRecDepth 100000 in
theorem lc_get {p : Program} {l : Launch} {e : Env} {s : State} {m : MethodId} {args : Array Value} {below : List Frame} {meth : Method} {c : Code} {Q : State → Prop} {G : dk_G} {H : Heap} {locs : List Loc} {ls : Array Slot} {b L : Nat} {xs : Nat → Int32} {w : dk_H} {h a o c9 st : Nat} {D : kp_D} {DM : md_D} (hx : p.tables.exec = Jvm.exec) (hb : c.code = code) (hml : c.maxLocals = 8) (hown : s.vm.findClass "RunKeeperLaw" = some m.cls) (hts : ∀ w ∈ wd_all, w.before args s = true) (hE : dk_E G s) (hX : va_X b L xs s s.heap) (hbl : b < s.heap.size) (hbA : ¬ dk_A G b) (hi : 5 * c9 + 5 ≤ L) (hL9 : L ≤ 2560) (hP : dk_P G w H) (hS : dk_S G s.heap H locs) (hl : lv_has ls 8 [(0, .ref b), (1, .ref h), (2, .ref a), (3, .ref o), (4, .int (nI (5 * c9)))]) (hlt : l.stackTraces = false) (hc9 : c9 < 512) (hst : lw_S G w h a o D DM c9 st) (KK : ∀ (st1 : Nat) (v1 : dk_H) (H1 : Heap) (locs1 : List Loc) (ls1 : Array Slot), lw_S G v1 h a o D DM (c9 + 1) st1 → dk_P G v1 H1 → dk_S G s.heap H1 locs1 → lv_has ls1 8 [(0, .ref b), (1, .ref h), (2, .ref a), (3, .ref o), (4, .int (nI (5 * c9)))] → W p l e room_1 s m args below meth c H1 locs1 (100 + 24 * (c9 + 1) + 5 * st1) (30000 + 1650 * (c9 + 1) + 1579 * st1) Q (F0 m 830 ls1 [])) : W p l e room_1 s m args below meth c H locs (100 + 24 * c9 + 5 * st) (30000 + 1650 * c9 + 1579 * st) Q (F0 m 535 ls []) := by
  obtain ⟨σ, μ, f, hk, hm, ho, hrl, hbu⟩ := hst
  have hmo := hrl.2.1
  have hnn := rl_n hrl.1 hmo
  have h600 := hrl.2.2.1
  have h24 := hrl.2.2.2
  have hsq := hrl.1.1.1
  obtain ⟨bu1, bu2, bu3⟩ := id hbu
  cases hkey : in_r 1024 (xs (5 * c9 + 2)) with
  | false =>
    refine lw_get hx hb hml hown hts hE hX hbl hbA hi hL9 hP hS hl 1 (by decide) rx_L_get 1 6 (fun u0 => u0 = w) (l_get_1 l G w h _ o (xs (5 * c9 + 1)) (xs (5 * c9 + 2)) _ (t_K_getK l hlt G w h D σ hk (xs (5 * c9 + 1)) (xs (5 * c9 + 2)) hkey) hk.o) rfl rfl (Nat.le_of_ble_eq_true rfl) (Nat.le_of_ble_eq_true rfl) (by omega) (by omega) (fun u r v => r = 0 ∧ md_at G v a DM (μ.er' 1) ∧ dk_fr md_T u v) (fun u hu => ?_) (fun u r v hu hv => ?_) KK
    · have h3 := lw_v (hu.symm ▸ hk) (hu.symm ▸ dk_fr.rf) hm ho
      exact ⟨⟨_, h3.2.1.o⟩, c_M_getK l G u a DM μ h3.2.1 hmo (xs (5 * c9 + 1)) (xs (5 * c9 + 2)) (by rw [← in_im (n := 1023) (by decide)]; exact hkey)⟩
    · have h3 := lw_v (hu.symm ▸ hk) (hu.symm ▸ dk_fr.rf) hm ho

      exact ⟨⟨_, hv.2.1, rfl⟩, fun h0 => absurd h0 (by decide), st, lw_mk h3.1 hv.2.1 h3.2.2 hv.2.2 (hrl.er (by decide)) (bu_same hbu rfl rfl (Nat.le_refl _)), by omega, by omega⟩
  | true =>
    obtain ⟨j, hj, ej⟩ := in_some (by decide) hkey
    cases hv0 : vw_u σ (xs (5 * c9 + 1)) with
    | none =>
      obtain ⟨hv1, hv2⟩ := rl_vn hrl hv0
      refine lw_get hx hb hml hown hts hE hX hbl hbA hi hL9 hP hS hl 1 (by decide) rx_L_get 1 6 (fun u0 => u0 = w) (l_get_1 l G w h _ o (xs (5 * c9 + 1)) (xs (5 * c9 + 2)) _ (by rw [ej]; exact t_K_getV l hlt G w h D σ hk (xs (5 * c9 + 1)) j hj hv1 (by rw [rl_vs hrl]; exact hv2)) hk.o) rfl rfl (Nat.le_of_ble_eq_true rfl) (Nat.le_of_ble_eq_true rfl) (by omega) (by omega) (fun u r v => r = 0 ∧ md_at G v a DM (μ.er' 1) ∧ dk_fr md_T u v) (fun u hu => ?_) (fun u r v hu hv => ?_) KK
      · have h3 := lw_v (hu.symm ▸ hk) (hu.symm ▸ dk_fr.rf) hm ho
        exact ⟨⟨_, h3.2.1.o⟩, by rw [ej]; exact c_M_getV l G u a DM μ h3.2.1 hmo (xs (5 * c9 + 1)) j hj hv1 hv2⟩
      · have h3 := lw_v (hu.symm ▸ hk) (hu.symm ▸ dk_fr.rf) hm ho

        exact ⟨⟨_, hv.2.1, rfl⟩, fun h0 => absurd h0 (by decide), st, lw_mk h3.1 hv.2.1 h3.2.2 hv.2.2 (hrl.er (by decide)) (bu_same hbu rfl rfl (Nat.le_refl _)), by omega, by omega⟩
    | some y0 =>
      obtain ⟨y1, hu2, hu1, hu3, hu4⟩ := rl_vw hrl hv0
      obtain ⟨hg1, hg2⟩ := rl_get hrl hj hu4
      cases hbe : be_f μ j y1 μ.n with
      | none =>
        refine lw_get hx hb hml hown hts hE hX hbl hbA hi hL9 hP hS hl 2 (by decide) rx_L_get 1 6 (fun u0 => kp_at G u0 h D ((σ.pr' (lk_K σ j y0).2.1).mi' (lk_K σ j y0).2.2) ∧ dk_fr kp_T w u0) (l_get_2 l G w h _ o (xs (5 * c9 + 1)) (xs (5 * c9 + 2)) _ (by rw [ej]; exact t_K_getN l hlt G w h D σ hk (xs (5 * c9 + 1)) j y0 hj hv0 hu1 (by rw [hg1, hbe]; rfl)) hk.o) rfl rfl (Nat.le_of_ble_eq_true rfl) (Nat.le_of_ble_eq_true rfl) (by omega) (by omega) (fun u r v => r = 0 ∧ (∃ B, md_at G v a DM ((((μ.er' 2).pr' (pm_K (μ.er' 0) j ((none : Option Nat).bind μ.rf) (none)).1).mi' (pm_K (μ.er' 0) j ((none : Option Nat).bind μ.rf) (none)).2).bt' B)) ∧ dk_fr md_T u v) (fun u hu => ?_) (fun u r v hu hv => ?_) KK
        · have h3 := lw_v hu.1 hu.2 hm ho
          exact ⟨⟨_, h3.2.1.o⟩, by rw [ej]; exact c_M_getN l G u a DM μ h3.2.1 hmo (xs (5 * c9 + 1)) j hj y1 hu3 hu2 hbe (rl_live hrl)⟩
        · have h3 := lw_v hu.1 hu.2 hm ho
          obtain ⟨hv1, ⟨B9, hv2⟩, hv3⟩ := hv
          exact ⟨⟨_, hv2, rfl⟩, fun h0 => absurd h0 (by decide), st, lw_mk h3.1 hv2 h3.2.2 hv3 (by have h7 := rl_getR hrl (c := 2) (by decide) (lk_K σ j y0).2 B9; rw [hbe] at hg2; rw [hg2] at h7 ⊢; exact h7) (bu_same hbu rfl rfl (Nat.le_refl _)), by omega, by omega⟩
      | some q9 =>
        cases hdf : μ.df q9 with
        | true =>
          refine lw_get hx hb hml hown hts hE hX hbl hbA hi hL9 hP hS hl 2 (by decide) rx_L_get 1 6 (fun u0 => kp_at G u0 h D ((σ.pr' (lk_K σ j y0).2.1).mi' (lk_K σ j y0).2.2) ∧ dk_fr kp_T w u0) (l_get_2 l G w h _ o (xs (5 * c9 + 1)) (xs (5 * c9 + 2)) _ (by rw [ej]; exact t_K_getD l hlt G w h D σ hk (xs (5 * c9 + 1)) j y0 hj hv0 hu1 (me_e μ q9) (by rw [hg1, hbe]; rfl) hdf) hk.o) rfl rfl (Nat.le_of_ble_eq_true rfl) (Nat.le_of_ble_eq_true rfl) (by omega) (by omega) (fun u r v => r = 0 ∧ (∃ B, md_at G v a DM ((((μ.er' 2).pr' (pm_K (μ.er' 0) j ((some q9 : Option Nat).bind μ.rf) (some q9)).1).mi' (pm_K (μ.er' 0) j ((some q9 : Option Nat).bind μ.rf) (some q9)).2).bt' B)) ∧ dk_fr md_T u v) (fun u hu => ?_) (fun u r v hu hv => ?_) KK
          · have h3 := lw_v hu.1 hu.2 hm ho
            exact ⟨⟨_, h3.2.1.o⟩, by rw [ej]; exact c_M_getD l G u a DM μ h3.2.1 hmo (xs (5 * c9 + 1)) j hj y1 hu3 hu2 q9 hbe hdf (rl_live hrl)⟩
          · have h3 := lw_v hu.1 hu.2 hm ho
            obtain ⟨hv1, ⟨B9, hv2⟩, hv3⟩ := hv
            exact ⟨⟨_, hv2, rfl⟩, fun h0 => absurd h0 (by decide), st, lw_mk h3.1 hv2 h3.2.2 hv3 (by have h7 := rl_getR hrl (c := 2) (by decide) (lk_K σ j y0).2 B9; rw [hbe] at hg2; rw [hg2] at h7 ⊢; exact h7) (bu_same hbu rfl rfl (Nat.le_refl _)), by omega, by omega⟩
        | false =>
          refine lw_get hx hb hml hown hts hE hX hbl hbA hi hL9 hP hS hl 0 (by decide) rw_L_get 0 0 (fun u => ∃ (r0 : Int64) (u0 : dk_H), (r0 = (me_e μ q9).2.2.1 ∧ kp_at G u0 h D ((σ.pr' (lk_K σ j y0).2.1).mi' (lk_K σ j y0).2.2) ∧ dk_fr kp_T w u0) ∧ u = va_up u0 o (some (90, dk_cl G 1 (vp_updL f 0 (r0))))) (l_get l G w h _ o f (xs (5 * c9 + 1)) (xs (5 * c9 + 2)) _ (by rw [ej]; exact c_K_get l G w h D σ hk (xs (5 * c9 + 1)) j y0 hj hv0 hu1 (me_e μ q9) (by rw [hg1, hbe]; rfl) hdf) hk.o ho (fun _ _ h9 => h9.2.2)) rfl rfl (Nat.le_of_ble_eq_true rfl) (Nat.le_of_ble_eq_true rfl) (by omega) (by omega) (fun u r v => r = μ.vf q9 ∧ (∃ B, md_at G v a DM ((((μ.er' 0).pr' (pm_K (μ.er' 0) j ((some q9 : Option Nat).bind μ.rf) (some q9)).1).mi' (pm_K (μ.er' 0) j ((some q9 : Option Nat).bind μ.rf) (some q9)).2).bt' B)) ∧ dk_fr md_T u v) (fun u hu => ?_) (fun u r v hu hv => ?_) KK
          · obtain ⟨r0, u0, hq, hu0⟩ := hu
            have h3 := lw_up hq.2.1 hq.2.2 hm ho hu0

            exact ⟨⟨_, h3.2.1.o⟩, by rw [ej]; exact c_M_getY l G u a DM μ h3.2.1 hmo (xs (5 * c9 + 1)) j hj y1 hu3 hu2 q9 hbe hdf (rl_live hrl)⟩
          · obtain ⟨r0, u0, hq, hu0⟩ := hu
            have h3 := lw_up hq.2.1 hq.2.2 hm ho hu0
            obtain ⟨hv1, ⟨B9, hv2⟩, hv3⟩ := hv
            exact ⟨⟨_, hv2, rfl⟩, fun _ => ⟨_, hv3 _ _ _ h3.2.2 (by unfold md_T; omega), by rw [pk_uLs, hq.1, hv1]; rfl⟩, st, lw_mk h3.1 hv2 h3.2.2 hv3 (by have h7 := rl_getR hrl (c := 0) (by decide) (lk_K σ j y0).2 B9; rw [hbe] at hg2; rw [hg2] at h7 ⊢; exact h7) (bu_same hbu rfl rfl (Nat.le_refl _)), by omega, by omega⟩
set_option maxHeartbeats 4000000 in
set_option maxRecDepth 100000 in
theorem lc_next {p : Program} {l : Launch} {e : Env} {s : State} {m : MethodId} {args : Array Value} {below : List Frame} {meth : Method} {c : Code} {Q : State → Prop} {G : dk_G} {H : Heap} {locs : List Loc} {ls : Array Slot} {b L : Nat} {xs : Nat → Int32} {w : dk_H} {h a o c9 st : Nat} {D : kp_D} {DM : md_D} (hx : p.tables.exec = Jvm.exec) (hb : c.code = code) (hml : c.maxLocals = 8) (hown : s.vm.findClass "RunKeeperLaw" = some m.cls) (hts : ∀ w ∈ wd_all, w.before args s = true) (hE : dk_E G s) (hX : va_X b L xs s s.heap) (hbl : b < s.heap.size) (hbA : ¬ dk_A G b) (hi : 5 * c9 + 5 ≤ L) (hL9 : L ≤ 2560) (hP : dk_P G w H) (hS : dk_S G s.heap H locs) (hl : lv_has ls 8 [(0, .ref b), (1, .ref h), (2, .ref a), (3, .ref o), (4, .int (nI (5 * c9)))]) (hlt : l.stackTraces = false) (hc9 : c9 < 512) (hst : lw_S G w h a o D DM c9 st) (KK : ∀ (st1 : Nat) (v1 : dk_H) (H1 : Heap) (locs1 : List Loc) (ls1 : Array Slot), lw_S G v1 h a o D DM (c9 + 1) st1 → dk_P G v1 H1 → dk_S G s.heap H1 locs1 → lv_has ls1 8 [(0, .ref b), (1, .ref h), (2, .ref a), (3, .ref o), (4, .int (nI (5 * c9)))] → W p l e room_1 s m args below meth c H1 locs1 (100 + 24 * (c9 + 1) + 5 * st1) (30000 + 1650 * (c9 + 1) + 1579 * st1) Q (F0 m 830 ls1 [])) : W p l e room_1 s m args below meth c H locs (100 + 24 * c9 + 5 * st) (30000 + 1650 * c9 + 1579 * st) Q (F0 m 602 ls []) := by
  obtain ⟨σ, μ, f, hk, hm, ho, hrl, hbu⟩ := hst
  have hmo := hrl.2.1
  have hnn := rl_n hrl.1 hmo
  have h600 := hrl.2.2.1
  have h24 := hrl.2.2.2
  have hsq := hrl.1.1.1
  obtain ⟨bu1, bu2, bu3⟩ := id hbu
  cases hkey : in_r 1024 (xs (5 * c9 + 2)) with
  | false =>
    refine lw_next hx hb hml hown hts hE hX hbl hbA hi hL9 hP hS hl 1 (by decide) rx_L_next 1 6 (fun u0 => u0 = w) (l_next_1 l G w h _ o (xs (5 * c9 + 1)) (xs (5 * c9 + 2)) _ (t_K_nextK l hlt G w h D σ hk (xs (5 * c9 + 1)) (xs (5 * c9 + 2)) hkey) hk.o) rfl rfl (Nat.le_of_ble_eq_true rfl) (Nat.le_of_ble_eq_true rfl) (by omega) (by omega) (fun u r v => r = nI 0 ∧ md_at G v a DM (μ.er' 1) ∧ dk_fr md_T u v) (fun u hu => ?_) (fun u r v hu hv => ?_) KK
    · have h3 := lw_v (hu.symm ▸ hk) (hu.symm ▸ dk_fr.rf) hm ho
      exact ⟨⟨_, h3.2.1.o⟩, c_M_nextK l G u a DM μ h3.2.1 hmo (xs (5 * c9 + 1)) (xs (5 * c9 + 2)) (by rw [← in_im (n := 1023) (by decide)]; exact hkey)⟩
    · have h3 := lw_v (hu.symm ▸ hk) (hu.symm ▸ dk_fr.rf) hm ho

      exact ⟨⟨_, hv.2.1, rfl⟩, fun h0 => absurd h0 (by decide), st, lw_mk h3.1 hv.2.1 h3.2.2 hv.2.2 (hrl.er (by decide)) (bu_same hbu rfl rfl (Nat.le_refl _)), by omega, by omega⟩
  | true =>
    obtain ⟨j, hj, ej⟩ := in_some (by decide) hkey
    cases hv0 : vw_u σ (xs (5 * c9 + 1)) with
    | none =>
      obtain ⟨hv1, hv2⟩ := rl_vn hrl hv0
      refine lw_next hx hb hml hown hts hE hX hbl hbA hi hL9 hP hS hl 1 (by decide) rx_L_next 1 6 (fun u0 => u0 = w) (l_next_1 l G w h _ o (xs (5 * c9 + 1)) (xs (5 * c9 + 2)) _ (by rw [ej]; exact t_K_nextV l hlt G w h D σ hk (xs (5 * c9 + 1)) j hj hv1 (by rw [rl_vs hrl]; exact hv2)) hk.o) rfl rfl (Nat.le_of_ble_eq_true rfl) (Nat.le_of_ble_eq_true rfl) (by omega) (by omega) (fun u r v => r = nI 0 ∧ md_at G v a DM (μ.er' 1) ∧ dk_fr md_T u v) (fun u hu => ?_) (fun u r v hu hv => ?_) KK
      · have h3 := lw_v (hu.symm ▸ hk) (hu.symm ▸ dk_fr.rf) hm ho
        exact ⟨⟨_, h3.2.1.o⟩, by rw [ej]; exact c_M_nextV l G u a DM μ h3.2.1 hmo (xs (5 * c9 + 1)) j hj hv1 hv2⟩
      · have h3 := lw_v (hu.symm ▸ hk) (hu.symm ▸ dk_fr.rf) hm ho

        exact ⟨⟨_, hv.2.1, rfl⟩, fun h0 => absurd h0 (by decide), st, lw_mk h3.1 hv.2.1 h3.2.2 hv.2.2 (hrl.er (by decide)) (bu_same hbu rfl rfl (Nat.le_refl _)), by omega, by omega⟩
    | some y0 =>
      obtain ⟨y1, hu2, hu1, hu3, hu4⟩ := rl_vw hrl hv0
      refine lw_next hx hb hml hown hts hE hX hbl hbA hi hL9 hP hS hl 0 (by decide) rw_L_next 0 0 (fun u => ∃ (r0 : Int32) (u0 : dk_H), (nx_r (nn_L y0 (σ.tb ++ lv_fl σ.lv 6)) j r0 ∧ kp_at G u0 h D ((σ.ga' (σ.tb ++ lv_fl σ.lv 6)).nw' (nn_L y0 (σ.tb ++ lv_fl σ.lv 6))) ∧ dk_fr kp_T w u0) ∧ u = va_up u0 o (some (90, dk_cl G 1 (vp_updL f 0 (r0.toInt64))))) (l_next l G w h _ o f (xs (5 * c9 + 1)) (xs (5 * c9 + 2)) _ (by rw [ej]; exact c_K_next l G w h D σ hk (xs (5 * c9 + 1)) j y0 hj hv0 hu1 (by omega)) hk.o ho (fun _ _ h9 => h9.2.2)) rfl rfl (Nat.le_of_ble_eq_true rfl) (Nat.le_of_ble_eq_true rfl) (by omega) (by omega) (fun u r v => nxm_r μ y1 j r ∧ md_at G v a DM (μ.er' 0) ∧ dk_fr md_T u v) (fun u hu => ?_) (fun u r v hu hv => ?_) KK
      · obtain ⟨r0, u0, hq, hu0⟩ := hu
        have h3 := lw_up hq.2.1 hq.2.2 hm ho hu0

        exact ⟨⟨_, h3.2.1.o⟩, by rw [ej]; exact c_M_nextS l G u a DM μ h3.2.1 hmo (xs (5 * c9 + 1)) j hj y1 hu3 hu2⟩
      · obtain ⟨r0, u0, hq, hu0⟩ := hu
        have h3 := lw_up hq.2.1 hq.2.2 hm ho hu0

        exact ⟨⟨_, hv.2.1, rfl⟩, fun _ => ⟨_, hv.2.2 _ _ _ h3.2.2 (by unfold md_T; omega), by rw [pk_uLs, rl_next hrl hu4 hq.1 hv.1]⟩, st, lw_mk h3.1 hv.2.1 h3.2.2 hv.2.2 (rl_nextR hrl _ _) (bu_same hbu rfl rfl (Nat.le_refl _)), by omega, by omega⟩
set_option maxHeartbeats 4000000 in
set_option maxRecDepth 100000 in
theorem lc_entry {p : Program} {l : Launch} {e : Env} {s : State} {m : MethodId} {args : Array Value} {below : List Frame} {meth : Method} {c : Code} {Q : State → Prop} {G : dk_G} {H : Heap} {locs : List Loc} {ls : Array Slot} {b L : Nat} {xs : Nat → Int32} {w : dk_H} {h a o c9 st : Nat} {D : kp_D} {DM : md_D} (hx : p.tables.exec = Jvm.exec) (hb : c.code = code) (hml : c.maxLocals = 8) (hown : s.vm.findClass "RunKeeperLaw" = some m.cls) (hts : ∀ w ∈ wd_all, w.before args s = true) (hE : dk_E G s) (hX : va_X b L xs s s.heap) (hbl : b < s.heap.size) (hbA : ¬ dk_A G b) (hi : 5 * c9 + 5 ≤ L) (hL9 : L ≤ 2560) (hP : dk_P G w H) (hS : dk_S G s.heap H locs) (hl : lv_has ls 8 [(0, .ref b), (1, .ref h), (2, .ref a), (3, .ref o), (4, .int (nI (5 * c9)))]) (hlt : l.stackTraces = false) (hc9 : c9 < 512) (hst : lw_S G w h a o D DM c9 st) (KK : ∀ (st1 : Nat) (v1 : dk_H) (H1 : Heap) (locs1 : List Loc) (ls1 : Array Slot), lw_S G v1 h a o D DM (c9 + 1) st1 → dk_P G v1 H1 → dk_S G s.heap H1 locs1 → lv_has ls1 8 [(0, .ref b), (1, .ref h), (2, .ref a), (3, .ref o), (4, .int (nI (5 * c9)))] → W p l e room_1 s m args below meth c H1 locs1 (100 + 24 * (c9 + 1) + 5 * st1) (30000 + 1650 * (c9 + 1) + 1579 * st1) Q (F0 m 830 ls1 [])) : W p l e room_1 s m args below meth c H locs (100 + 24 * c9 + 5 * st) (30000 + 1650 * c9 + 1579 * st) Q (F0 m 670 ls []) := by
  obtain ⟨σ, μ, f, hk, hm, ho, hrl, hbu⟩ := hst
  have hmo := hrl.2.1
  have hnn := rl_n hrl.1 hmo
  have h600 := hrl.2.2.1
  have h24 := hrl.2.2.2
  have hsq := hrl.1.1.1
  obtain ⟨bu1, bu2, bu3⟩ := id hbu
  cases hkey : in_r 6 (xs (5 * c9 + 1)) with
  | false =>
    refine lw_entry hx hb hml hown hts hE hX hbl hbA hi hL9 hP hS hl 1 (by decide) rx_L_entry 1 6 (fun u0 => u0 = w) (l_entry_1 l G w h _ o (xs (5 * c9 + 1)) (xs (5 * c9 + 2)) (xs (5 * c9 + 3)) (xs (5 * c9 + 4)) _ (t_K_entryF l hlt G w h D σ hk (xs (5 * c9 + 1)) (xs (5 * c9 + 2)) (xs (5 * c9 + 3)) (xs (5 * c9 + 4)) hkey) hk.o) rfl rfl (Nat.le_of_ble_eq_true rfl) (Nat.le_of_ble_eq_true rfl) (by omega) (by omega) (fun u r v => r = nI 0 ∧ md_at G v a DM (μ.er' 1) ∧ dk_fr md_T u v) (fun u hu => ?_) (fun u r v hu hv => ?_) KK
    · have h3 := lw_v (hu.symm ▸ hk) (hu.symm ▸ dk_fr.rf) hm ho
      exact ⟨⟨_, h3.2.1.o⟩, c_M_entryF l G u a DM μ h3.2.1 hmo (xs (5 * c9 + 1)) (xs (5 * c9 + 2)) (xs (5 * c9 + 3)) (xs (5 * c9 + 4)) (by rw [← in_im (n := 5) (by decide)]; exact hkey)⟩
    · have h3 := lw_v (hu.symm ▸ hk) (hu.symm ▸ dk_fr.rf) hm ho

      exact ⟨⟨_, hv.2.1, rfl⟩, fun h0 => absurd h0 (by decide), st, lw_mk h3.1 hv.2.1 h3.2.2 hv.2.2 (hrl.er (by decide)) (bu_same hbu rfl rfl (Nat.le_refl _)), by omega, by omega⟩
  | true =>
    obtain ⟨i, hi6, ei⟩ := in_some (by decide) hkey
    cases hq0 : im_b (xs (5 * c9 + 4)) (nI 0) (nI 2) with
    | false =>
      refine lw_entry hx hb hml hown hts hE hX hbl hbA hi hL9 hP hS hl 1 (by decide) rx_L_entry 1 6 (fun u0 => u0 = w) (l_entry_1 l G w h _ o (xs (5 * c9 + 1)) (xs (5 * c9 + 2)) (xs (5 * c9 + 3)) (xs (5 * c9 + 4)) _ (by rw [ei]; exact t_K_entryW l hlt G w h D σ hk i (xs (5 * c9 + 2)) (xs (5 * c9 + 3)) (xs (5 * c9 + 4)) hi6 hq0) hk.o) rfl rfl (Nat.le_of_ble_eq_true rfl) (Nat.le_of_ble_eq_true rfl) (by omega) (by omega) (fun u r v => r = nI 0 ∧ md_at G v a DM (μ.er' 1) ∧ dk_fr md_T u v) (fun u hu => ?_) (fun u r v hu hv => ?_) KK
      · have h3 := lw_v (hu.symm ▸ hk) (hu.symm ▸ dk_fr.rf) hm ho
        exact ⟨⟨_, h3.2.1.o⟩, by rw [ei]; exact c_M_entryW l G u a DM μ h3.2.1 hmo i (xs (5 * c9 + 2)) (xs (5 * c9 + 3)) (xs (5 * c9 + 4)) hi6 hq0⟩
      · have h3 := lw_v (hu.symm ▸ hk) (hu.symm ▸ dk_fr.rf) hm ho

        exact ⟨⟨_, hv.2.1, rfl⟩, fun h0 => absurd h0 (by decide), st, lw_mk h3.1 hv.2.1 h3.2.2 hv.2.2 (hrl.er (by decide)) (bu_same hbu rfl rfl (Nat.le_refl _)), by omega, by omega⟩
    | true =>
      obtain ⟨q, hq3, eq⟩ := im_nat (by decide) hq0
      rcases rl_run hrl hi6 (xs (5 * c9 + 2)) with ⟨j, d, hj31, ej, hR, hd, hd5, hct, hlen⟩ | ⟨hd, hno⟩
      · have hctl := ct_le (fun k9 => decide (μ.rf k9 = some d)) μ.n
        rcases rl_ent hct (by omega) (xs (5 * c9 + 3)) with ⟨k, hkc, ek, -⟩ | ⟨hkb, hno⟩
        · obtain ⟨y, hy⟩ : ∃ y, (so_st (en_r μ d μ.n))[k]? = some y := ⟨_, List.getElem?_eq_getElem (by rw [hlen]; exact hkc)⟩
          rcases (show q = 0 ∨ q = 1 ∨ q = 2 by omega) with rfl | rfl | rfl
          · refine lw_entry hx hb hml hown hts hE hX hbl hbA hi hL9 hP hS hl 0 (by decide) rw_L_entry 0 0 (fun u => ∃ (r0 : Int32) (u0 : dk_H), (r0 = nI y.1 ∧ u0 = w) ∧ u = va_up u0 o (some (90, dk_cl G 1 (vp_updL f 0 (r0.toInt64))))) (l_entry l G w h _ o f (xs (5 * c9 + 1)) (xs (5 * c9 + 2)) (xs (5 * c9 + 3)) (xs (5 * c9 + 4)) _ (by rw [ei, ej, ek, eq]; exact c_K_entry0 l G w h D σ hk i j k hi6 _ hR y hy) hk.o ho (fun _ _ h9 => h9.2.symm ▸ dk_fr.rf)) rfl rfl (Nat.le_of_ble_eq_true rfl) (Nat.le_of_ble_eq_true rfl) (by omega) (by omega) (fun u r v => r = nI y.1 ∧ (∃ g, md_at G v a DM ((μ.er' 0).od' g)) ∧ dk_fr md_T u v) (fun u hu => ?_) (fun u r v hu hv => ?_) KK
            · obtain ⟨r0, u0, hq, hu0⟩ := hu
              have h3 := lw_up (hq.2.symm ▸ hk) (hq.2.symm ▸ dk_fr.rf) hm ho hu0

              exact ⟨⟨_, h3.2.1.o⟩, by rw [ei, ek, eq]; exact c_M_entryS0 l G u a DM μ h3.2.1 hmo i k (xs (5 * c9 + 2)) hi6 d hd hd5 y hy⟩
            · obtain ⟨r0, u0, hq, hu0⟩ := hu
              have h3 := lw_up (hq.2.symm ▸ hk) (hq.2.symm ▸ dk_fr.rf) hm ho hu0
              obtain ⟨hv1, ⟨g9, hv2⟩, hv3⟩ := hv
              exact ⟨⟨_, hv2, rfl⟩, fun _ => ⟨_, hv3 _ _ _ h3.2.2 (by unfold md_T; omega), by rw [pk_uLs, hq.1, hv1]⟩, st, lw_mk h3.1 hv2 h3.2.2 hv3 (⟨rl_od (rl_er hrl.1 0) g9, md_er_ok hmo (by decide), h600, h24⟩) (bu_same hbu rfl rfl (Nat.le_refl _)), by omega, by omega⟩
          · refine lw_entry hx hb hml hown hts hE hX hbl hbA hi hL9 hP hS hl 0 (by decide) rw_L_entry 0 0 (fun u => ∃ (r0 : Int32) (u0 : dk_H), (r0 = nI y.2.1 ∧ u0 = w) ∧ u = va_up u0 o (some (90, dk_cl G 1 (vp_updL f 0 (r0.toInt64))))) (l_entry l G w h _ o f (xs (5 * c9 + 1)) (xs (5 * c9 + 2)) (xs (5 * c9 + 3)) (xs (5 * c9 + 4)) _ (by rw [ei, ej, ek, eq]; exact c_K_entry1 l G w h D σ hk i j k hi6 _ hR y hy) hk.o ho (fun _ _ h9 => h9.2.symm ▸ dk_fr.rf)) rfl rfl (Nat.le_of_ble_eq_true rfl) (Nat.le_of_ble_eq_true rfl) (by omega) (by omega) (fun u r v => r = nI y.2.1 ∧ (∃ g, md_at G v a DM ((μ.er' 0).od' g)) ∧ dk_fr md_T u v) (fun u hu => ?_) (fun u r v hu hv => ?_) KK
            · obtain ⟨r0, u0, hq, hu0⟩ := hu
              have h3 := lw_up (hq.2.symm ▸ hk) (hq.2.symm ▸ dk_fr.rf) hm ho hu0

              exact ⟨⟨_, h3.2.1.o⟩, by rw [ei, ek, eq]; exact c_M_entryS1 l G u a DM μ h3.2.1 hmo i k (xs (5 * c9 + 2)) hi6 d hd hd5 y hy⟩
            · obtain ⟨r0, u0, hq, hu0⟩ := hu
              have h3 := lw_up (hq.2.symm ▸ hk) (hq.2.symm ▸ dk_fr.rf) hm ho hu0
              obtain ⟨hv1, ⟨g9, hv2⟩, hv3⟩ := hv
              exact ⟨⟨_, hv2, rfl⟩, fun _ => ⟨_, hv3 _ _ _ h3.2.2 (by unfold md_T; omega), by rw [pk_uLs, hq.1, hv1]⟩, st, lw_mk h3.1 hv2 h3.2.2 hv3 (⟨rl_od (rl_er hrl.1 0) g9, md_er_ok hmo (by decide), h600, h24⟩) (bu_same hbu rfl rfl (Nat.le_refl _)), by omega, by omega⟩
          · refine lw_entry hx hb hml hown hts hE hX hbl hbA hi hL9 hP hS hl 0 (by decide) rw_L_entry 0 0 (fun u => ∃ (r0 : Int32) (u0 : dk_H), (r0 = bo_i y.2.2.2 ∧ u0 = w) ∧ u = va_up u0 o (some (90, dk_cl G 1 (vp_updL f 0 (r0.toInt64))))) (l_entry l G w h _ o f (xs (5 * c9 + 1)) (xs (5 * c9 + 2)) (xs (5 * c9 + 3)) (xs (5 * c9 + 4)) _ (by rw [ei, ej, ek, eq]; exact c_K_entry2 l G w h D σ hk i j k hi6 _ hR y hy) hk.o ho (fun _ _ h9 => h9.2.symm ▸ dk_fr.rf)) rfl rfl (Nat.le_of_ble_eq_true rfl) (Nat.le_of_ble_eq_true rfl) (by omega) (by omega) (fun u r v => r = bo_i y.2.2.2 ∧ (∃ g, md_at G v a DM ((μ.er' 0).od' g)) ∧ dk_fr md_T u v) (fun u hu => ?_) (fun u r v hu hv => ?_) KK
            · obtain ⟨r0, u0, hq, hu0⟩ := hu
              have h3 := lw_up (hq.2.symm ▸ hk) (hq.2.symm ▸ dk_fr.rf) hm ho hu0

              exact ⟨⟨_, h3.2.1.o⟩, by rw [ei, ek, eq]; exact c_M_entryS2 l G u a DM μ h3.2.1 hmo i k (xs (5 * c9 + 2)) hi6 d hd hd5 y hy⟩
            · obtain ⟨r0, u0, hq, hu0⟩ := hu
              have h3 := lw_up (hq.2.symm ▸ hk) (hq.2.symm ▸ dk_fr.rf) hm ho hu0
              obtain ⟨hv1, ⟨g9, hv2⟩, hv3⟩ := hv
              exact ⟨⟨_, hv2, rfl⟩, fun _ => ⟨_, hv3 _ _ _ h3.2.2 (by unfold md_T; omega), by rw [pk_uLs, hq.1, hv1]⟩, st, lw_mk h3.1 hv2 h3.2.2 hv3 (⟨rl_od (rl_er hrl.1 0) g9, md_er_ok hmo (by decide), h600, h24⟩) (bu_same hbu rfl rfl (Nat.le_refl _)), by omega, by omega⟩
        · refine lw_entry hx hb hml hown hts hE hX hbl hbA hi hL9 hP hS hl 2 (by decide) rx_L_entry 1 6 (fun u0 => u0 = w) (l_entry_2 l G w h _ o (xs (5 * c9 + 1)) (xs (5 * c9 + 2)) (xs (5 * c9 + 3)) (xs (5 * c9 + 4)) _ (by rw [ei, eq, ej]; exact t_K_entryK l hlt G w h D σ hk i j q (xs (5 * c9 + 3)) hi6 (by omega) _ hR (by rw [hlen]; exact hno)) hk.o) rfl rfl (Nat.le_of_ble_eq_true rfl) (Nat.le_of_ble_eq_true rfl) (by omega) (by omega) (fun u r v => r = nI 0 ∧ md_at G v a DM (μ.er' 2) ∧ dk_fr md_T u v) (fun u hu => ?_) (fun u r v hu hv => ?_) KK
          · have h3 := lw_v (hu.symm ▸ hk) (hu.symm ▸ dk_fr.rf) hm ho
            exact ⟨⟨_, h3.2.1.o⟩, by rw [ei, eq]; exact c_M_entryK l G u a DM μ h3.2.1 hmo i q (xs (5 * c9 + 2)) (xs (5 * c9 + 3)) hi6 (by omega) d hd hd5 hkb⟩
          · have h3 := lw_v (hu.symm ▸ hk) (hu.symm ▸ dk_fr.rf) hm ho

            exact ⟨⟨_, hv.2.1, rfl⟩, fun h0 => absurd h0 (by decide), st, lw_mk h3.1 hv.2.1 h3.2.2 hv.2.2 (hrl.er (by decide)) (bu_same hbu rfl rfl (Nat.le_refl _)), by omega, by omega⟩
      · refine lw_entry hx hb hml hown hts hE hX hbl hbA hi hL9 hP hS hl 2 (by decide) rx_L_entry 1 6 (fun u0 => u0 = w) (l_entry_2 l G w h _ o (xs (5 * c9 + 1)) (xs (5 * c9 + 2)) (xs (5 * c9 + 3)) (xs (5 * c9 + 4)) _ (by rw [ei, eq]; exact t_K_entryN l hlt G w h D σ hk i q (xs (5 * c9 + 2)) (xs (5 * c9 + 3)) hi6 (by omega) hno) hk.o) rfl rfl (Nat.le_of_ble_eq_true rfl) (Nat.le_of_ble_eq_true rfl) (by omega) (by omega) (fun u r v => r = nI 0 ∧ md_at G v a DM (μ.er' 2) ∧ dk_fr md_T u v) (fun u hu => ?_) (fun u r v hu hv => ?_) KK
        · have h3 := lw_v (hu.symm ▸ hk) (hu.symm ▸ dk_fr.rf) hm ho
          exact ⟨⟨_, h3.2.1.o⟩, by rw [ei, eq]; exact c_M_entryN l G u a DM μ h3.2.1 hmo i q (xs (5 * c9 + 2)) (xs (5 * c9 + 3)) hi6 (by omega) hd⟩
        · have h3 := lw_v (hu.symm ▸ hk) (hu.symm ▸ dk_fr.rf) hm ho

          exact ⟨⟨_, hv.2.1, rfl⟩, fun h0 => absurd h0 (by decide), st, lw_mk h3.1 hv.2.1 h3.2.2 hv.2.2 (hrl.er (by decide)) (bu_same hbu rfl rfl (Nat.le_refl _)), by omega, by omega⟩
set_option maxHeartbeats 4000000 in
set_option maxRecDepth 100000 in
theorem lc_count {p : Program} {l : Launch} {e : Env} {s : State} {m : MethodId} {args : Array Value} {below : List Frame} {meth : Method} {c : Code} {Q : State → Prop} {G : dk_G} {H : Heap} {locs : List Loc} {ls : Array Slot} {b L : Nat} {xs : Nat → Int32} {w : dk_H} {h a o c9 st : Nat} {D : kp_D} {DM : md_D} (hx : p.tables.exec = Jvm.exec) (hb : c.code = code) (hml : c.maxLocals = 8) (hown : s.vm.findClass "RunKeeperLaw" = some m.cls) (hts : ∀ w ∈ wd_all, w.before args s = true) (hE : dk_E G s) (hX : va_X b L xs s s.heap) (hbl : b < s.heap.size) (hbA : ¬ dk_A G b) (hi : 5 * c9 + 5 ≤ L) (hL9 : L ≤ 2560) (hP : dk_P G w H) (hS : dk_S G s.heap H locs) (hl : lv_has ls 8 [(0, .ref b), (1, .ref h), (2, .ref a), (3, .ref o), (4, .int (nI (5 * c9)))]) (hlt : l.stackTraces = false) (hc9 : c9 < 512) (hst : lw_S G w h a o D DM c9 st) (KK : ∀ (st1 : Nat) (v1 : dk_H) (H1 : Heap) (locs1 : List Loc) (ls1 : Array Slot), lw_S G v1 h a o D DM (c9 + 1) st1 → dk_P G v1 H1 → dk_S G s.heap H1 locs1 → lv_has ls1 8 [(0, .ref b), (1, .ref h), (2, .ref a), (3, .ref o), (4, .int (nI (5 * c9)))] → W p l e room_1 s m args below meth c H1 locs1 (100 + 24 * (c9 + 1) + 5 * st1) (30000 + 1650 * (c9 + 1) + 1579 * st1) Q (F0 m 830 ls1 [])) : W p l e room_1 s m args below meth c H locs (100 + 24 * c9 + 5 * st) (30000 + 1650 * c9 + 1579 * st) Q (F0 m 762 ls []) := by
  obtain ⟨σ, μ, f, hk, hm, ho, hrl, hbu⟩ := hst
  have hmo := hrl.2.1
  have hnn := rl_n hrl.1 hmo
  have h600 := hrl.2.2.1
  have h24 := hrl.2.2.2
  have hsq := hrl.1.1.1
  obtain ⟨bu1, bu2, bu3⟩ := id hbu
  cases hq0 : im_b (xs (5 * c9 + 1)) (nI 0) (nI 9) with
  | false =>
    refine lw_count hx hb hml hown hts hE hX hbl hbA hi hL9 hP hS hl 1 (by decide) rx_L_count 1 6 (fun u0 => u0 = w) (l_count_1 l G w h _ o (xs (5 * c9 + 1)) (xs (5 * c9 + 2)) _ (t_K_countF l hlt G w h D σ hk (xs (5 * c9 + 1)) (xs (5 * c9 + 2)) hq0) hk.o) rfl rfl (Nat.le_of_ble_eq_true rfl) (Nat.le_of_ble_eq_true rfl) (by omega) (by omega) (fun u r v => r = nI 0 ∧ md_at G v a DM (μ.er' 1) ∧ dk_fr md_T u v) (fun u hu => ?_) (fun u r v hu hv => ?_) KK
    · have h3 := lw_v (hu.symm ▸ hk) (hu.symm ▸ dk_fr.rf) hm ho
      exact ⟨⟨_, h3.2.1.o⟩, c_M_countF l G u a DM μ h3.2.1 hmo (xs (5 * c9 + 1)) (xs (5 * c9 + 2)) hq0⟩
    · have h3 := lw_v (hu.symm ▸ hk) (hu.symm ▸ dk_fr.rf) hm ho

      exact ⟨⟨_, hv.2.1, rfl⟩, fun h0 => absurd h0 (by decide), st, lw_mk h3.1 hv.2.1 h3.2.2 hv.2.2 (hrl.er (by decide)) (bu_same hbu rfl rfl (Nat.le_refl _)), by omega, by omega⟩
  | true =>
    obtain ⟨q, hq9, eq⟩ := im_nat (by decide) hq0
    by_cases hq2 : q < 2
    · cases hkey : in_r 6 (xs (5 * c9 + 2)) with
      | false =>
        refine lw_count hx hb hml hown hts hE hX hbl hbA hi hL9 hP hS hl 1 (by decide) rx_L_count 1 6 (fun u0 => u0 = w) (l_count_1 l G w h _ o (xs (5 * c9 + 1)) (xs (5 * c9 + 2)) _ (by rw [eq]; exact t_K_countG l hlt G w h D σ hk q (xs (5 * c9 + 2)) hq2 hkey) hk.o) rfl rfl (Nat.le_of_ble_eq_true rfl) (Nat.le_of_ble_eq_true rfl) (by omega) (by omega) (fun u r v => r = nI 0 ∧ md_at G v a DM (μ.er' 1) ∧ dk_fr md_T u v) (fun u hu => ?_) (fun u r v hu hv => ?_) KK
        · have h3 := lw_v (hu.symm ▸ hk) (hu.symm ▸ dk_fr.rf) hm ho
          exact ⟨⟨_, h3.2.1.o⟩, by rw [eq]; exact c_M_countG l G u a DM μ h3.2.1 hmo q (xs (5 * c9 + 2)) hq2 (by rw [← in_im (n := 5) (by decide)]; exact hkey)⟩
        · have h3 := lw_v (hu.symm ▸ hk) (hu.symm ▸ dk_fr.rf) hm ho

          exact ⟨⟨_, hv.2.1, rfl⟩, fun h0 => absurd h0 (by decide), st, lw_mk h3.1 hv.2.1 h3.2.2 hv.2.2 (hrl.er (by decide)) (bu_same hbu rfl rfl (Nat.le_refl _)), by omega, by omega⟩
      | true =>
        obtain ⟨i, hi6, ei⟩ := in_some (by decide) hkey
        rcases (show q = 0 ∨ q = 1 by omega) with rfl | rfl
        · refine lw_count hx hb hml hown hts hE hX hbl hbA hi hL9 hP hS hl 0 (by decide) rw_L_count 0 0 (fun u => ∃ (r0 : Int32) (u0 : dk_H), (r0 = nI (σ.lv i).length ∧ u0 = w) ∧ u = va_up u0 o (some (90, dk_cl G 1 (vp_updL f 0 (r0.toInt64))))) (l_count l G w h _ o f (xs (5 * c9 + 1)) (xs (5 * c9 + 2)) _ (by rw [eq, ei]; exact c_K_count0 l G w h D σ hk i hi6) hk.o ho (fun _ _ h9 => h9.2.symm ▸ dk_fr.rf)) rfl rfl (Nat.le_of_ble_eq_true rfl) (Nat.le_of_ble_eq_true rfl) (by omega) (by omega) (fun u r v => r = nI (ct_f (fun r => decide (μ.lf r = some i)) μ.rs) ∧ md_at G v a DM (μ.er' 0) ∧ dk_fr md_T u v) (fun u hu => ?_) (fun u r v hu hv => ?_) KK
          · obtain ⟨r0, u0, hq, hu0⟩ := hu
            have h3 := lw_up (hq.2.symm ▸ hk) (hq.2.symm ▸ dk_fr.rf) hm ho hu0

            exact ⟨⟨_, h3.2.1.o⟩, by rw [eq, ei]; exact c_M_count0 l G u a DM μ h3.2.1 hmo i hi6⟩
          · obtain ⟨r0, u0, hq, hu0⟩ := hu
            have h3 := lw_up (hq.2.symm ▸ hk) (hq.2.symm ▸ dk_fr.rf) hm ho hu0

            exact ⟨⟨_, hv.2.1, rfl⟩, fun _ => ⟨_, hv.2.2 _ _ _ h3.2.2 (by unfold md_T; omega), by rw [pk_uLs, hq.1, hv.1, ← rl_ro hrl.1 hi6]⟩, st, lw_mk h3.1 hv.2.1 h3.2.2 hv.2.2 (hrl.er (by decide)) (bu_same hbu rfl rfl (Nat.le_refl _)), by omega, by omega⟩
        · refine lw_count hx hb hml hown hts hE hX hbl hbA hi hL9 hP hS hl 0 (by decide) rw_L_count 0 0 (fun u => ∃ (r0 : Int32) (u0 : dk_H), (r0 = nI (le_ct (σ.lv i)) ∧ u0 = w) ∧ u = va_up u0 o (some (90, dk_cl G 1 (vp_updL f 0 (r0.toInt64))))) (l_count l G w h _ o f (xs (5 * c9 + 1)) (xs (5 * c9 + 2)) _ (by rw [eq, ei]; exact c_K_count1 l G w h D σ hk i hi6) hk.o ho (fun _ _ h9 => h9.2.symm ▸ dk_fr.rf)) rfl rfl (Nat.le_of_ble_eq_true rfl) (Nat.le_of_ble_eq_true rfl) (by omega) (by omega) (fun u r v => r = nI (ct_f (fun j => at_l μ j i) μ.n) ∧ md_at G v a DM (μ.er' 0) ∧ dk_fr md_T u v) (fun u hu => ?_) (fun u r v hu hv => ?_) KK
          · obtain ⟨r0, u0, hq, hu0⟩ := hu
            have h3 := lw_up (hq.2.symm ▸ hk) (hq.2.symm ▸ dk_fr.rf) hm ho hu0

            exact ⟨⟨_, h3.2.1.o⟩, by rw [eq, ei]; exact c_M_count1 l G u a DM μ h3.2.1 hmo i hi6⟩
          · obtain ⟨r0, u0, hq, hu0⟩ := hu
            have h3 := lw_up (hq.2.symm ▸ hk) (hq.2.symm ▸ dk_fr.rf) hm ho hu0

            exact ⟨⟨_, hv.2.1, rfl⟩, fun _ => ⟨_, hv.2.2 _ _ _ h3.2.2 (by unfold md_T; omega), by rw [pk_uLs, hq.1, hv.1, rl_c1 hrl hi6]⟩, st, lw_mk h3.1 hv.2.1 h3.2.2 hv.2.2 (hrl.er (by decide)) (bu_same hbu rfl rfl (Nat.le_refl _)), by omega, by omega⟩
    · rcases (show q = 2 ∨ q = 3 ∨ q = 4 ∨ q = 5 ∨ q = 6 ∨ q = 7 ∨ q = 8 ∨ q = 9 by omega) with rfl | rfl | rfl | rfl | rfl | rfl | rfl | rfl
      · refine lw_count hx hb hml hown hts hE hX hbl hbA hi hL9 hP hS hl 0 (by decide) rw_L_count 0 0 (fun u => ∃ (r0 : Int32) (u0 : dk_H), (r0 = nI σ.tb.length ∧ u0 = w) ∧ u = va_up u0 o (some (90, dk_cl G 1 (vp_updL f 0 (r0.toInt64))))) (l_count l G w h _ o f (xs (5 * c9 + 1)) (xs (5 * c9 + 2)) _ (by rw [eq]; exact c_K_count2 l G w h D σ hk (xs (5 * c9 + 2))) hk.o ho (fun _ _ h9 => h9.2.symm ▸ dk_fr.rf)) rfl rfl (Nat.le_of_ble_eq_true rfl) (Nat.le_of_ble_eq_true rfl) (by omega) (by omega) (fun u r v => r = nI (md_k μ) ∧ md_at G v a DM (μ.er' 0) ∧ dk_fr md_T u v) (fun u hu => ?_) (fun u r v hu hv => ?_) KK
        · obtain ⟨r0, u0, hq, hu0⟩ := hu
          have h3 := lw_up (hq.2.symm ▸ hk) (hq.2.symm ▸ dk_fr.rf) hm ho hu0

          exact ⟨⟨_, h3.2.1.o⟩, by rw [eq]; exact c_M_count2 l G u a DM μ h3.2.1 hmo (xs (5 * c9 + 2))⟩
        · obtain ⟨r0, u0, hq, hu0⟩ := hu
          have h3 := lw_up (hq.2.symm ▸ hk) (hq.2.symm ▸ dk_fr.rf) hm ho hu0

          exact ⟨⟨_, hv.2.1, rfl⟩, fun _ => ⟨_, hv.2.2 _ _ _ h3.2.2 (by unfold md_T; omega), by rw [pk_uLs, hq.1, hv.1, rl_tbk hrl.1]⟩, st, lw_mk h3.1 hv.2.1 h3.2.2 hv.2.2 (hrl.er (by decide)) (bu_same hbu rfl rfl (Nat.le_refl _)), by omega, by omega⟩
      · refine lw_count hx hb hml hown hts hE hX hbl hbA hi hL9 hP hS hl 0 (by decide) rw_L_count 0 0 (fun u => ∃ (r0 : Int32) (u0 : dk_H), (r0 = nI σ.sf ∧ u0 = w) ∧ u = va_up u0 o (some (90, dk_cl G 1 (vp_updL f 0 (r0.toInt64))))) (l_count l G w h _ o f (xs (5 * c9 + 1)) (xs (5 * c9 + 2)) _ (by rw [eq]; exact c_K_count3 l G w h D σ hk (xs (5 * c9 + 2))) hk.o ho (fun _ _ h9 => h9.2.symm ▸ dk_fr.rf)) rfl rfl (Nat.le_of_ble_eq_true rfl) (Nat.le_of_ble_eq_true rfl) (by omega) (by omega) (fun u r v => r = nI μ.sf ∧ md_at G v a DM (μ.er' 0) ∧ dk_fr md_T u v) (fun u hu => ?_) (fun u r v hu hv => ?_) KK
        · obtain ⟨r0, u0, hq, hu0⟩ := hu
          have h3 := lw_up (hq.2.symm ▸ hk) (hq.2.symm ▸ dk_fr.rf) hm ho hu0

          exact ⟨⟨_, h3.2.1.o⟩, by rw [eq]; exact c_M_count3 l G u a DM μ h3.2.1 hmo (xs (5 * c9 + 2))⟩
        · obtain ⟨r0, u0, hq, hu0⟩ := hu
          have h3 := lw_up (hq.2.symm ▸ hk) (hq.2.symm ▸ dk_fr.rf) hm ho hu0

          exact ⟨⟨_, hv.2.1, rfl⟩, fun _ => ⟨_, hv.2.2 _ _ _ h3.2.2 (by unfold md_T; omega), by rw [pk_uLs, hq.1, hv.1, hrl.1.1.2.1]⟩, st, lw_mk h3.1 hv.2.1 h3.2.2 hv.2.2 (hrl.er (by decide)) (bu_same hbu rfl rfl (Nat.le_refl _)), by omega, by omega⟩
      · refine lw_count hx hb hml hown hts hE hX hbl hbA hi hL9 hP hS hl 0 (by decide) rw_L_count 0 0 (fun u => ∃ (r0 : Int32) (u0 : dk_H), (r0 = nI σ.sq ∧ u0 = w) ∧ u = va_up u0 o (some (90, dk_cl G 1 (vp_updL f 0 (r0.toInt64))))) (l_count l G w h _ o f (xs (5 * c9 + 1)) (xs (5 * c9 + 2)) _ (by rw [eq]; exact c_K_count4 l G w h D σ hk (xs (5 * c9 + 2))) hk.o ho (fun _ _ h9 => h9.2.symm ▸ dk_fr.rf)) rfl rfl (Nat.le_of_ble_eq_true rfl) (Nat.le_of_ble_eq_true rfl) (by omega) (by omega) (fun u r v => r = nI μ.sq ∧ md_at G v a DM (μ.er' 0) ∧ dk_fr md_T u v) (fun u hu => ?_) (fun u r v hu hv => ?_) KK
        · obtain ⟨r0, u0, hq, hu0⟩ := hu
          have h3 := lw_up (hq.2.symm ▸ hk) (hq.2.symm ▸ dk_fr.rf) hm ho hu0

          exact ⟨⟨_, h3.2.1.o⟩, by rw [eq]; exact c_M_count4 l G u a DM μ h3.2.1 hmo (xs (5 * c9 + 2))⟩
        · obtain ⟨r0, u0, hq, hu0⟩ := hu
          have h3 := lw_up (hq.2.symm ▸ hk) (hq.2.symm ▸ dk_fr.rf) hm ho hu0

          exact ⟨⟨_, hv.2.1, rfl⟩, fun _ => ⟨_, hv.2.2 _ _ _ h3.2.2 (by unfold md_T; omega), by rw [pk_uLs, hq.1, hv.1, hsq]⟩, st, lw_mk h3.1 hv.2.1 h3.2.2 hv.2.2 (hrl.er (by decide)) (bu_same hbu rfl rfl (Nat.le_refl _)), by omega, by omega⟩
      · refine lw_count hx hb hml hown hts hE hX hbl hbA hi hL9 hP hS hl 0 (by decide) rw_L_count 0 0 (fun u => ∃ (r0 : Int32) (u0 : dk_H), (r0 = nI σ.pr ∧ u0 = w) ∧ u = va_up u0 o (some (90, dk_cl G 1 (vp_updL f 0 (r0.toInt64))))) (l_count l G w h _ o f (xs (5 * c9 + 1)) (xs (5 * c9 + 2)) _ (by rw [eq]; exact c_K_count5 l G w h D σ hk (xs (5 * c9 + 2))) hk.o ho (fun _ _ h9 => h9.2.symm ▸ dk_fr.rf)) rfl rfl (Nat.le_of_ble_eq_true rfl) (Nat.le_of_ble_eq_true rfl) (by omega) (by omega) (fun u r v => r = nI μ.pr ∧ md_at G v a DM (μ.er' 0) ∧ dk_fr md_T u v) (fun u hu => ?_) (fun u r v hu hv => ?_) KK
        · obtain ⟨r0, u0, hq, hu0⟩ := hu
          have h3 := lw_up (hq.2.symm ▸ hk) (hq.2.symm ▸ dk_fr.rf) hm ho hu0

          exact ⟨⟨_, h3.2.1.o⟩, by rw [eq]; exact c_M_count5 l G u a DM μ h3.2.1 hmo (xs (5 * c9 + 2))⟩
        · obtain ⟨r0, u0, hq, hu0⟩ := hu
          have h3 := lw_up (hq.2.symm ▸ hk) (hq.2.symm ▸ dk_fr.rf) hm ho hu0

          exact ⟨⟨_, hv.2.1, rfl⟩, fun _ => ⟨_, hv.2.2 _ _ _ h3.2.2 (by unfold md_T; omega), by rw [pk_uLs, hq.1, hv.1, hrl.1.1.2.2.1]⟩, st, lw_mk h3.1 hv.2.1 h3.2.2 hv.2.2 (hrl.er (by decide)) (bu_same hbu rfl rfl (Nat.le_refl _)), by omega, by omega⟩
      · refine lw_count hx hb hml hown hts hE hX hbl hbA hi hL9 hP hS hl 0 (by decide) rw_L_count 0 0 (fun u => ∃ (r0 : Int32) (u0 : dk_H), (r0 = nI σ.mi ∧ u0 = w) ∧ u = va_up u0 o (some (90, dk_cl G 1 (vp_updL f 0 (r0.toInt64))))) (l_count l G w h _ o f (xs (5 * c9 + 1)) (xs (5 * c9 + 2)) _ (by rw [eq]; exact c_K_count6 l G w h D σ hk (xs (5 * c9 + 2))) hk.o ho (fun _ _ h9 => h9.2.symm ▸ dk_fr.rf)) rfl rfl (Nat.le_of_ble_eq_true rfl) (Nat.le_of_ble_eq_true rfl) (by omega) (by omega) (fun u r v => r = nI μ.mi ∧ md_at G v a DM (μ.er' 0) ∧ dk_fr md_T u v) (fun u hu => ?_) (fun u r v hu hv => ?_) KK
        · obtain ⟨r0, u0, hq, hu0⟩ := hu
          have h3 := lw_up (hq.2.symm ▸ hk) (hq.2.symm ▸ dk_fr.rf) hm ho hu0

          exact ⟨⟨_, h3.2.1.o⟩, by rw [eq]; exact c_M_count6 l G u a DM μ h3.2.1 hmo (xs (5 * c9 + 2))⟩
        · obtain ⟨r0, u0, hq, hu0⟩ := hu
          have h3 := lw_up (hq.2.symm ▸ hk) (hq.2.symm ▸ dk_fr.rf) hm ho hu0

          exact ⟨⟨_, hv.2.1, rfl⟩, fun _ => ⟨_, hv.2.2 _ _ _ h3.2.2 (by unfold md_T; omega), by rw [pk_uLs, hq.1, hv.1, hrl.1.1.2.2.2]⟩, st, lw_mk h3.1 hv.2.1 h3.2.2 hv.2.2 (hrl.er (by decide)) (bu_same hbu rfl rfl (Nat.le_refl _)), by omega, by omega⟩
      · refine lw_count hx hb hml hown hts hE hX hbl hbA hi hL9 hP hS hl 0 (by decide) rw_L_count 0 0 (fun u => ∃ (r0 : Int32) (u0 : dk_H), (r0 = nI (sn_ct σ.sn 6) ∧ u0 = w) ∧ u = va_up u0 o (some (90, dk_cl G 1 (vp_updL f 0 (r0.toInt64))))) (l_count l G w h _ o f (xs (5 * c9 + 1)) (xs (5 * c9 + 2)) _ (by rw [eq]; exact c_K_count7 l G w h D σ hk (xs (5 * c9 + 2))) hk.o ho (fun _ _ h9 => h9.2.symm ▸ dk_fr.rf)) rfl rfl (Nat.le_of_ble_eq_true rfl) (Nat.le_of_ble_eq_true rfl) (by omega) (by omega) (fun u r v => r = nI (ct_f μ.ss 6) ∧ md_at G v a DM (μ.er' 0) ∧ dk_fr md_T u v) (fun u hu => ?_) (fun u r v hu hv => ?_) KK
        · obtain ⟨r0, u0, hq, hu0⟩ := hu
          have h3 := lw_up (hq.2.symm ▸ hk) (hq.2.symm ▸ dk_fr.rf) hm ho hu0

          exact ⟨⟨_, h3.2.1.o⟩, by rw [eq]; exact c_M_count7 l G u a DM μ h3.2.1 hmo (xs (5 * c9 + 2))⟩
        · obtain ⟨r0, u0, hq, hu0⟩ := hu
          have h3 := lw_up (hq.2.symm ▸ hk) (hq.2.symm ▸ dk_fr.rf) hm ho hu0

          exact ⟨⟨_, hv.2.1, rfl⟩, fun _ => ⟨_, hv.2.2 _ _ _ h3.2.2 (by unfold md_T; omega), by rw [pk_uLs, hq.1, hv.1, rl_c7 hrl 6 (Nat.le_refl _)]⟩, st, lw_mk h3.1 hv.2.1 h3.2.2 hv.2.2 (hrl.er (by decide)) (bu_same hbu rfl rfl (Nat.le_refl _)), by omega, by omega⟩
      · refine lw_count hx hb hml hown hts hE hX hbl hbA hi hL9 hP hS hl 0 (by decide) rw_L_count 0 0 (fun u => ∃ (r0 : Int32) (u0 : dk_H), (r0 = (if σ.ib = true then nI σ.ad.length else -1) ∧ u0 = w) ∧ u = va_up u0 o (some (90, dk_cl G 1 (vp_updL f 0 (r0.toInt64))))) (l_count l G w h _ o f (xs (5 * c9 + 1)) (xs (5 * c9 + 2)) _ (by rw [eq]; exact c_K_count8 l G w h D σ hk (xs (5 * c9 + 2))) hk.o ho (fun _ _ h9 => h9.2.symm ▸ dk_fr.rf)) rfl rfl (Nat.le_of_ble_eq_true rfl) (Nat.le_of_ble_eq_true rfl) (by omega) (by omega) (fun u r v => r = rI μ.ba ∧ md_at G v a DM (μ.er' 0) ∧ dk_fr md_T u v) (fun u hu => ?_) (fun u r v hu hv => ?_) KK
        · obtain ⟨r0, u0, hq, hu0⟩ := hu
          have h3 := lw_up (hq.2.symm ▸ hk) (hq.2.symm ▸ dk_fr.rf) hm ho hu0

          exact ⟨⟨_, h3.2.1.o⟩, by rw [eq]; exact c_M_count8 l G u a DM μ h3.2.1 hmo (xs (5 * c9 + 2))⟩
        · obtain ⟨r0, u0, hq, hu0⟩ := hu
          have h3 := lw_up (hq.2.symm ▸ hk) (hq.2.symm ▸ dk_fr.rf) hm ho hu0

          exact ⟨⟨_, hv.2.1, rfl⟩, fun _ => ⟨_, hv.2.2 _ _ _ h3.2.2 (by unfold md_T; omega), by rw [pk_uLs, hq.1, hv.1, rl_c8 hrl]⟩, st, lw_mk h3.1 hv.2.1 h3.2.2 hv.2.2 (hrl.er (by decide)) (bu_same hbu rfl rfl (Nat.le_refl _)), by omega, by omega⟩
      · refine lw_count hx hb hml hown hts hE hX hbl hbA hi hL9 hP hS hl 0 (by decide) rw_L_count 0 0 (fun u => ∃ (r0 : Int32) (u0 : dk_H), (r0 = nI (kp_n σ) ∧ u0 = w) ∧ u = va_up u0 o (some (90, dk_cl G 1 (vp_updL f 0 (r0.toInt64))))) (l_count l G w h _ o f (xs (5 * c9 + 1)) (xs (5 * c9 + 2)) _ (by rw [eq]; exact c_K_count9 l G w h D σ hk (xs (5 * c9 + 2))) hk.o ho (fun _ _ h9 => h9.2.symm ▸ dk_fr.rf)) rfl rfl (Nat.le_of_ble_eq_true rfl) (Nat.le_of_ble_eq_true rfl) (by omega) (by omega) (fun u r v => r = nI μ.n ∧ md_at G v a DM (μ.er' 0) ∧ dk_fr md_T u v) (fun u hu => ?_) (fun u r v hu hv => ?_) KK
        · obtain ⟨r0, u0, hq, hu0⟩ := hu
          have h3 := lw_up (hq.2.symm ▸ hk) (hq.2.symm ▸ dk_fr.rf) hm ho hu0

          exact ⟨⟨_, h3.2.1.o⟩, by rw [eq]; exact c_M_count9 l G u a DM μ h3.2.1 hmo (xs (5 * c9 + 2))⟩
        · obtain ⟨r0, u0, hq, hu0⟩ := hu
          have h3 := lw_up (hq.2.symm ▸ hk) (hq.2.symm ▸ dk_fr.rf) hm ho hu0

          exact ⟨⟨_, hv.2.1, rfl⟩, fun _ => ⟨_, hv.2.2 _ _ _ h3.2.2 (by unfold md_T; omega), by rw [pk_uLs, hq.1, hv.1, hnn]⟩, st, lw_mk h3.1 hv.2.1 h3.2.2 hv.2.2 (hrl.er (by decide)) (bu_same hbu rfl rfl (Nat.le_refl _)), by omega, by omega⟩
