/-! RunKeeper$Run, walked (printed by gen/c_run.py) -/
theorem fl_step {i : Nat} (hi : i < 3) (A : Bool) (P : Nat → Nat) (b : Nat) : (A || (decide (0 < i) && decide (P 0 = b) || decide (1 < i) && decide (P 1 = b) || decide (2 < i) && decide (P 2 = b)) || decide (b = P i)) = (A || (decide (0 < i + 1) && decide (P 0 = b) || decide (1 < i + 1) && decide (P 1 = b) || decide (2 < i + 1) && decide (P 2 = b))) := by
  rcases (show i = 0 ∨ i = 1 ∨ i = 2 by omega) with rfl | rfl | rfl
  · simp [eq_comm]
  · simp [eq_comm, Bool.or_assoc]
  · simp [eq_comm, Bool.or_assoc]
theorem at_in {w : dk_H} {r : Option Nat} {L : List en_T} {j : Nat} {x : en_T} (h : (r = none ∧ ∀ i, nI j = nI i → i < 2 ^ 31 → L.length ≤ i) ∨ ∃ i y, nI j = nI i ∧ L[i]? = some y ∧ en_q w r (some y)) (hj : j < 2 ^ 31) (hl : L.length < 2 ^ 31) (hx : L[j]? = some x) : ∃ a, r = some a ∧ en_at w a x := by
  have hjl := (List.getElem?_eq_some_iff.mp hx).1
  rcases h with ⟨-, h⟩ | ⟨i, y, h1, h2, h3⟩
  · exact absurd (h j rfl hj) (by omega)
  · have hil := (List.getElem?_eq_some_iff.mp h2).1
    have e := (nI_eq hj (by omega)).mp h1
    subst e
    rw [hx] at h2
    cases h2
    exact h3
theorem at_out {w : dk_H} {r : Option Nat} {L : List en_T} {k : Int32} (h : (r = none ∧ ∀ i, k = nI i → i < 2 ^ 31 → L.length ≤ i) ∨ ∃ i y, k = nI i ∧ L[i]? = some y ∧ en_q w r (some y)) (hk : ∀ i, i < L.length → k ≠ nI i) : r = none := by
  rcases h with ⟨h, -⟩ | ⟨i, y, h1, h2, -⟩
  · exact h
  · exact absurd h1 (hk i (List.getElem?_eq_some_iff.mp h2).1)
/-- a new run's four cells are frozen: their tags become 0 -/
theorem rn_freeze {G0 : dk_G} {w v : dk_H} {h q sq fl cap : Nat} {fh fr : List Value} {fq : Nat → Option Nat} {ef : va_E} {L : List en_T} (hh : v h = some (63, .inr (cx_U, fh))) (hq : v q = some (60, .inr (cx_R, fr))) (hs : v sq = some (61, dk_ca G0 3 cap fq)) (hf : v fl = some (62, ef)) (hav : dk_fr (fun t => t = 63 ∨ t = 60 ∨ t = 61 ∨ t = 62) w v) (hra : ra_ok v fq L) :
    ∃ v2 : dk_H, (∀ (G : dk_G) (H : Heap), dk_P G v H → dk_P G v2 H) ∧ (v2 h = some (0, .inr (cx_U, fh)) ∧ v2 q = some (0, .inr (cx_R, fr)) ∧ v2 sq = some (0, dk_ca G0 3 cap fq) ∧ v2 fl = some (0, ef) ∧ ra_ok v2 fq L) ∧ dk_fr (fun t => 60 ≤ t ∧ t ≤ 63) w v2 := by
  have n1 := dk_ne hh hq (by decide)
  have n2 := dk_ne hh hs (by decide)
  have n3 := dk_ne hh hf (by decide)
  have n4 := dk_ne hq hs (by decide)
  have n5 := dk_ne hq hf (by decide)
  have n6 := dk_ne hs hf (by decide)
  have kept : ∀ (a t : Nat) (e : va_E), v a = some (t, e) → ¬ (60 ≤ t ∧ t ≤ 63) → va_up (va_up (va_up (va_up v h (some (0, .inr (cx_U, fh)))) q (some (0, .inr (cx_R, fr)))) sq (some (0, dk_ca G0 3 cap fq))) fl (some (0, ef)) a = some (t, e) := by
    intro a t e ha ht
    rw [dk_un (dk_ne ha hf (by omega)), dk_un (dk_ne ha hs (by omega)), dk_un (dk_ne ha hq (by omega)), dk_un (dk_ne ha hh (by omega))]
    exact ha
  refine ⟨va_up (va_up (va_up (va_up v h (some (0, .inr (cx_U, fh)))) q (some (0, .inr (cx_R, fr)))) sq (some (0, dk_ca G0 3 cap fq))) fl (some (0, ef)), fun G H hP => ?_, ⟨?_, ?_, ?_, ?_, ?_⟩, ?_⟩
  · have p1 := hP.tag (u := 0) hh
    have p2 := p1.tag (a := q) (t := 60) (u := 0) (e := .inr (cx_R, fr)) (by rw [dk_un n1.symm]; exact hq)
    have p3 := p2.tag (a := sq) (t := 61) (u := 0) (e := dk_ca G0 3 cap fq) (by rw [dk_un n4.symm, dk_un n2.symm]; exact hs)
    exact p3.tag (a := fl) (t := 62) (u := 0) (e := ef) (by rw [dk_un n6.symm, dk_un n5.symm, dk_un n3.symm]; exact hf)
  · rw [dk_un n3, dk_un n2, dk_un n1, dk_us]
  · rw [dk_un n5, dk_un n4, dk_us]
  · rw [dk_un n6, dk_us]
  · rw [dk_us]
  · intro i x hx
    obtain ⟨a, h1, h2⟩ := hra i x hx
    exact ⟨a, h1, kept a 0 _ h2 (by omega)⟩
  · intro a t e ha ht
    exact kept a t e (hav a t e ha (by omega)) ht
theorem fl_no {nb k i : Nat} {L : List en_T} (hi : i < 3) (h : fl_s nb L (hv_k k i % nb) = false) : fl_p nb L k = false := by
  rcases (show i = 0 ∨ i = 1 ∨ i = 2 by omega) with rfl | rfl | rfl <;> simp [fl_p, h]
abbrev rm_U_bitOf : Room := { frames := 0, cells := 0, slots := 0, locals := 0 }
set_option maxHeartbeats 4000000 in
set_option maxRecDepth 100000 in
theorem c_U_bitOf (l : Launch) (G : dk_G) (w : dk_H) (k j fl t n : Nat) (f : Nat → Int64) (hfl : w fl = some (t, dk_cl G n f)) (hn : 0 < n) (hn2 : n ≤ 100) : dk_Mi l my_U_bitOf (wd_c my_U_bitOf mb_U_bitOf 4 (some .int)) rm_U_bitOf G w [.int (nI k), .int (dk_fac j), .ref fl] (fun r w1 => r = nI (hv_k k j % (n * 64)) ∧ w1 = w) 0 0 := by
  refine dk_enter (lv := [(0, .int (nI k)), (1, .int (dk_fac j)), (2, .ref fl)]) (by decide) (Nat.le_of_ble_eq_true rfl) rfl (fun p e s m args below meth c ls Q hQ C hP hS hl => ?_)
  obtain ⟨hx, hb, hr, hml, hlocks, hown, hnm, hts, hE⟩ := C
  have hK := hE.1
  have hN := hE.2.1
  refine lv_aload_n hx hb de_U_bitOf_0 rfl (lv_at hl 2 rfl) ?_
  refine dk_alen (a := fl) hx hb hK hP hfl 1 rfl de_U_bitOf_1 ?_
  refine lv_bipush (v := nI 64) hx hb de_U_bitOf_2 (by decide) ?_
  refine nx_imul (a := n) (b := 64) hx hb de_U_bitOf_4 ?_
  refine lv_istore_n (lv' := [(3, .int (nI (n * 64))), (0, .int (nI k)), (1, .int (dk_fac j)), (2, .ref fl)]) hx hb de_U_bitOf_5 rfl hl (by decide) rfl (fun ls hl => ?_)
  refine lv_iload_n hx hb de_U_bitOf_6 rfl (lv_at hl 0 rfl) ?_
  refine nx_if_ne (a := n * 64) (tgt := 14) hx hb (by omega) de_U_bitOf_7 (by decide) (fun c_305 => ?_) (fun c_305 => ?_)
  · have hv := hv_lt k j
    refine lv_iload_n hx hb de_U_bitOf_14 rfl (lv_at hl 1 rfl) ?_
    refine lv_iload_n hx hb de_U_bitOf_15 rfl (lv_at hl 2 rfl) ?_
    refine lv_imul hx hb de_U_bitOf_16 ?_
    refine lv_bipush (v := nI 12) hx hb de_U_bitOf_17 (by decide) ?_
    refine lv_iushr (v := nI (hv_k k j)) hx hb de_U_bitOf_19 (hv_sh _) ?_
    refine lv_iload_n hx hb de_U_bitOf_20 rfl (lv_at hl 0 rfl) ?_
    refine nx_irem (a := hv_k k j) (b := n * 64) hx hb (by omega) (by omega) (by omega) de_U_bitOf_21 ?_
    exact dk_iret hQ hx hb hr hlocks hP hS (Nat.le_refl _) (Nat.le_refl _) (⟨rfl, rfl⟩) de_U_bitOf_22
  · exact absurd c_305 (by omega)
abbrev rm_U_setBits : Room := { frames := 1, cells := 0, slots := 0, locals := 23 }
set_option maxHeartbeats 4000000 in
set_option maxRecDepth 100000 in
theorem c_U_setBits (l : Launch) (G : dk_G) (w : dk_H) (fl t n a : Nat) (f : Nat → Int64) (x : en_T) (hfl : w fl = some (t, dk_cl G n f)) (ht : t ≠ 0) (hn : 0 < n) (hn2 : n ≤ 100) (ha : en_at w a x) : dk_Mv l my_U_setBits (wd_c my_U_setBits mb_U_setBits 4 none) rm_U_setBits G w [.ref fl, .ref a] (fun w1 => ∃ g, w1 = va_up w fl (some (t, dk_cl G n g)) ∧ ∀ b, bt_f g b = (bt_f f b || fl_x (n * 64) x.1 b)) 0 0 := by
  refine dk_enter (lv := [(0, .ref fl), (1, .ref a)]) (by decide) (Nat.le_of_ble_eq_true rfl) rfl (fun p e s m args below meth c ls Q hQ C hP hS hl => ?_)
  obtain ⟨hx, hb, hr, hml, hlocks, hown, hnm, hts, hE⟩ := C
  have hK := hE.1
  have hN := hE.2.1
  refine lv_iconst (v := nI 0) hx hb de_U_setBits_0 (by decide) ?_
  refine lv_istore_n (lv' := [(2, .int (nI 0)), (0, .ref fl), (1, .ref a)]) hx hb de_U_setBits_1 rfl hl (by decide) rfl (fun ls hl => ?_)
  have hfl0 := hfl
  have lp : ∀ (zk : Nat) (i : Nat) (g : Nat → Int64), 3 - i < zk → (i ≤ 3) → (∀ b, bt_f g b = (bt_f f b || ((decide (0 < i) && decide (hv_k x.1 0 % (n * 64) = b)) || (decide (1 < i) && decide (hv_k x.1 1 % (n * 64) = b)) || (decide (2 < i) && decide (hv_k x.1 2 % (n * 64) = b))))) → ∀ (H : Heap) (locs : List Loc) (v : dk_H), v fl = some (t, dk_cl G n g) → (v = va_up w fl (some (t, dk_cl G n g))) → dk_P G v H → dk_S G s.heap H locs → ∀ (ls : Array Slot), lv_has ls 4 [(0, .ref fl), (1, .ref a), (2, .int (nI i))] → W p l e rm_U_setBits s m args below meth c H locs 0 0 Q (F0 m 2 ls []) := by
    intro zk
    induction zk with
    | zero =>
      intro i g hk
      exact absurd hk (by omega)
    | succ zk ih =>
      intro i g hk hi hg
      intro H locs v hfl hv hP hS
      intro ls hl
      have ha1 : en_at v a x := (dk_fr.up (T := fun z => z = t) hfl0 rfl).eq hv a 0 _ ha (fun z => ht z.symm)
      refine lv_aload_n hx hb de_U_setBits_2 rfl (lv_at hl 1 rfl) ?_
      refine lv_ifnull hx hb de_U_setBits_3 ?_
      refine lv_iload_n hx hb de_U_setBits_6 rfl (lv_at hl 2 rfl) ?_
      refine va_gets hx hb hE.2.2.1.1.1 hS hown (hts _ wi_195) (fun _ h9 => h9) de_U_setBits_7 ?_
      refine va_tlen hx hb hE.2.2.1.1.2 hS (v := nI 3) rfl de_U_setBits_10 ?_
      refine nx_icmp_ge (a := i) (b := 3) (tgt := 49) hx hb (by omega) (by omega) de_U_setBits_11 (by decide) (fun c_307 => ?_) (fun c_307 => ?_)
      · exact dk_vret hQ hx hb hr hlocks hP hS (Nat.le_refl _) (Nat.le_refl _) (⟨g, hv, fun b => by rw [hg b, show i = 3 by omega]; simp [fl_x]⟩) de_U_setBits_49
      · refine lv_aload_n hx hb de_U_setBits_14 rfl (lv_at hl 1 rfl) ?_
        refine dk_getN (a := a) (v := .int (nI x.1)) (C := kn_E) (T := kt_E) (N := 4) (host := "RunKeeper") hx hb hts ki_E hown hK hP ha1 rfl 0 (by decide) (hN.use (dn_m 445 (by decide +kernel) rfl)) (fun _ h9 => h9) rfl de_U_setBits_15 ?_
        refine va_gets hx hb hE.2.2.1.1.1 hS hown (hts _ wi_195) (fun _ h9 => h9) de_U_setBits_18 ?_
        refine lv_iload_n hx hb de_U_setBits_21 rfl (lv_at hl 2 rfl) ?_
        refine va_ti hx hb hE.2.2.1.1.2 hS (i := nI i) (vp_in_nI (by omega) (by decide)) (v := .int (dk_fac i)) (by rw [nI_clamp (by omega)]) de_U_setBits_22 ?_
        refine lv_aload_n hx hb de_U_setBits_23 rfl (lv_at hl 0 rfl) ?_
        refine dk_calli (va_runS (As := [.int (nI x.1), .int (dk_fac i), .ref fl]) (rest := []) ⟨hx, hb, hml, hown, hts⟩ (c_U_bitOf l G v x.1 i fl t n g hfl hn hn2) (va_cwS 3 hts (wd_gS wi_199 wi_197 wi_198 wi_15) rfl rfl rfl (by decide +kernel) ⟨Nat.le_of_ble_eq_true rfl, Nat.le_of_ble_eq_true rfl⟩) (dk_preS hE hP hS) rfl rfl hl.1 rfl (lv_room (Nat.le_of_ble_eq_true rfl)) de_U_setBits_24 ⟨(by first | exact Nat.le_of_ble_eq_true rfl | (simp only [Nat.zero_add]; omega) | omega), (by first | exact Nat.le_of_ble_eq_true rfl | (simp only [Nat.zero_add]; omega) | omega)⟩) hS (fun r_310 w_308 H locs hq_309 hP hS => ?_)
        obtain ⟨hr_311, he_312⟩ := hq_309
        subst hr_311
        rw [he_312] at hP
        obtain ⟨B, hB⟩ : ∃ B, B = hv_k x.1 i % (n * 64) := ⟨_, rfl⟩
        rw [← hB]
        have hi2 : i < 3 := c_307
        have hBl : B < n * 64 := by rw [hB]; exact Nat.mod_lt _ (by omega)
        refine lv_istore_n (lv' := [(3, .int (nI B)), (0, .ref fl), (1, .ref a), (2, .int (nI i))]) hx hb de_U_setBits_27 rfl hl (by decide) rfl (fun ls hl => ?_)
        refine lv_aload_n hx hb de_U_setBits_28 rfl (lv_at hl 1 rfl) ?_
        refine lv_iload_n hx hb de_U_setBits_29 rfl (lv_at hl 0 rfl) ?_
        refine lv_bipush (v := nI 64) hx hb de_U_setBits_30 (by decide) ?_
        refine nx_idiv (a := B) (b := 64) hx hb (by omega) (by omega) (by omega) de_U_setBits_32 ?_
        refine lv_dup2_11 hx hb de_U_setBits_33 rfl rfl ?_
        refine dk_lald (a := fl) hx hb hK hP hfl (B / 64) rfl (by omega) (by omega) de_U_setBits_34 ?_
        refine lv_lconst (v := 1) hx hb de_U_setBits_35 (by decide) ?_
        refine lv_iload_n hx hb de_U_setBits_36 rfl (lv_at hl 0 rfl) ?_
        refine lv_bipush (v := nI 64) hx hb de_U_setBits_37 (by decide) ?_
        refine nx_irem (a := B) (b := 64) hx hb (by omega) (by omega) (by omega) de_U_setBits_39 ?_
        refine lv_lshl (v := (1 : Int64) <<< ((nI (B % 64)).toInt64 &&& 63)) hx hb de_U_setBits_40 rfl ?_
        refine lv_lor hx hb de_U_setBits_41 ?_
        refine dk_last (a := fl) (x := ((g (B / 64)) ||| ((1 : Int64) <<< ((nI (B % 64)).toInt64 &&& 63)))) hx hb hK hP hS hfl (B / 64) rfl (by omega) (by omega) de_U_setBits_42 (fun H locs w_313 hw_314 hP hS => ?_)
        have h_315 : w_313 fl = some (t, dk_cl G n (vp_updL g (B / 64) ((g (B / 64)) ||| ((1 : Int64) <<< ((nI (B % 64)).toInt64 &&& 63))))) := dk_here hw_314
        have h_316 : w_313 a = some (0, .inr (cx_E, [.int (nI x.1), .int (nI x.2.1), .long x.2.2.1, .int (bo_i x.2.2.2)])) := dk_keep hw_314 hfl ha1 (by omega)
        refine lv_iinc (v := nI (i + 1)) (lv' := [(2, .int (nI (i + 1))), (3, .int (nI B)), (0, .ref fl), (1, .ref a)]) hx hb de_U_setBits_43 hl (k := 3) rfl (nx_inc i) (by decide) rfl (fun ls hl => ?_)
        refine lv_goto (tgt := 2) hx hb de_U_setBits_46 (by decide) ?_
        have hv2 : w_313 = va_up w fl (some (t, dk_cl G n (vp_updL g (B / 64) ((g (B / 64)) ||| ((1 : Int64) <<< ((nI (B % 64)).toInt64 &&& 63)))))) := by rw [hw_314, hv, bx_uu]
        exact ih (i + 1) (vp_updL g (B / 64) ((g (B / 64)) ||| ((1 : Int64) <<< ((nI (B % 64)).toInt64 &&& 63)))) (by omega) (by omega) (fun b => by rw [bt_or (sh_one _ (Nat.mod_lt _ (by decide))), hg b, hB]; exact fl_step hi2 _ (fun j => hv_k x.1 j % (n * 64)) b) _ _ _ h_315 hv2 hP hS _ (lv_sub hl [2, 3, 0] rfl)
  exact lp 4 0 f (by omega) (Nat.zero_le _) (fun b => by simp) _ _ _ hfl ((nx_eq hfl).symm) hP hS _ (lv_sub hl [1, 2, 0] rfl)
abbrev rm_U_entries : Room := { frames := 0, cells := 0, slots := 0, locals := 0 }
set_option maxHeartbeats 4000000 in
set_option maxRecDepth 100000 in
theorem c_U_entries (l : Launch) (G : dk_G) (w : dk_H) (h t : Nat) (r fl : Nat) (hh : w h = some (t, .inr (cx_U, [.ref r, .ref fl]))) : dk_Mq l my_U_entries (wd_c my_U_entries mb_U_entries 1 (some (.object "RunKeeper$Row"))) rm_U_entries G w [.ref h] (fun r1 w1 => r1 = some r ∧ w1 = w) 0 0 := by
  refine dk_enter (lv := [(0, .ref h)]) (by decide) (Nat.le_of_ble_eq_true rfl) rfl (fun p e s m args below meth c ls Q hQ C hP hS hl => ?_)
  obtain ⟨hx, hb, hr, hml, hlocks, hown, hnm, hts, hE⟩ := C
  have hK := hE.1
  have hN := hE.2.1
  refine lv_aload_n hx hb de_U_entries_0 rfl (lv_at hl 0 rfl) ?_
  refine dk_get (a := h) (v := .ref r) (C := kn_U) (T := kt_U) (N := 2) hx hb hts ki_U hown hK hP hh rfl 0 (by decide) (hts _ wi_200) (fun _ h9 => h9) rfl de_U_entries_1 ?_
  exact dk_aret (r := some r) hQ hx hb hr (Or.inl ⟨_, rfl⟩) hlocks hP hS (Nat.le_refl _) (Nat.le_refl _) (⟨rfl, rfl⟩) de_U_entries_4
abbrev rm_U_passesFilter : Room := { frames := 1, cells := 0, slots := 0, locals := 23 }
set_option maxHeartbeats 4000000 in
set_option maxRecDepth 100000 in
theorem c_U_passesFilter (l : Launch) (G : dk_G) (w : dk_H) (h k : Nat) (L : List en_T) (hr0 : rn_at G w h L) : dk_Mi l my_U_passesFilter (wd_c my_U_passesFilter mb_U_passesFilter 4 (some .boolean)) rm_U_passesFilter G w [.ref h, .int (nI k)] (fun r w1 => r = bo_i (fl_p (64 * rn_w L) L k) ∧ w1 = w) 0 0 := by
  obtain ⟨r, fl, f, hh, hrw, hfl, hbt, hL0, hL6, hok⟩ := hr0
  have hn : 0 < rn_w L := by unfold rn_w; omega
  have hn2 : rn_w L ≤ 100 := by unfold rn_w; omega
  refine dk_enter (lv := [(0, .ref h), (1, .int (nI k))]) (by decide) (Nat.le_of_ble_eq_true rfl) rfl (fun p e s m args below meth c ls Q hQ C hP hS hl => ?_)
  obtain ⟨hx, hb, hr, hml, hlocks, hown, hnm, hts, hE⟩ := C
  have hK := hE.1
  have hN := hE.2.1
  refine lv_iconst (v := nI 0) hx hb de_U_passesFilter_0 (by decide) ?_
  refine lv_istore_n (lv' := [(2, .int (nI 0)), (0, .ref h), (1, .int (nI k))]) hx hb de_U_passesFilter_1 rfl hl (by decide) rfl (fun ls hl => ?_)
  have lp : ∀ (zk : Nat) (i : Nat), 3 - i < zk → (i ≤ 3) → (∀ j, j < i → fl_s (64 * rn_w L) L (hv_k k j % (64 * rn_w L)) = true) → ∀ (H : Heap) (locs : List Loc), dk_P G w H → dk_S G s.heap H locs → ∀ (ls : Array Slot), lv_has ls 4 [(0, .ref h), (1, .int (nI k)), (2, .int (nI i))] → W p l e rm_U_passesFilter s m args below meth c H locs 0 0 Q (F0 m 2 ls []) := by
    intro zk
    induction zk with
    | zero =>
      intro i hk
      exact absurd hk (by omega)
    | succ zk ih =>
      intro i hk hi hg
      intro H locs hP hS
      intro ls hl
      refine lv_iload_n hx hb de_U_passesFilter_2 rfl (lv_at hl 2 rfl) ?_
      refine va_gets hx hb hE.2.2.1.1.1 hS hown (hts _ wi_195) (fun _ h9 => h9) de_U_passesFilter_3 ?_
      refine va_tlen hx hb hE.2.2.1.1.2 hS (v := nI 3) rfl de_U_passesFilter_6 ?_
      refine nx_icmp_ge (a := i) (b := 3) (tgt := 53) hx hb (by omega) (by omega) de_U_passesFilter_7 (by decide) (fun c_317 => ?_) (fun c_317 => ?_)
      · refine lv_iconst (v := nI 1) hx hb de_U_passesFilter_53 (by decide) ?_
        exact dk_zret hQ hx hb hr hlocks hP hS (Nat.le_refl _) (Nat.le_refl _) (by decide +kernel) (⟨bo_of1 (by simp [fl_p, hg 0 (by omega), hg 1 (by omega), hg 2 (by omega)]), rfl⟩) de_U_passesFilter_54
      · refine lv_iload_n hx hb de_U_passesFilter_10 rfl (lv_at hl 1 rfl) ?_
        refine va_gets hx hb hE.2.2.1.1.1 hS hown (hts _ wi_195) (fun _ h9 => h9) de_U_passesFilter_11 ?_
        refine lv_iload_n hx hb de_U_passesFilter_14 rfl (lv_at hl 2 rfl) ?_
        refine va_ti hx hb hE.2.2.1.1.2 hS (i := nI i) (vp_in_nI (by omega) (by decide)) (v := .int (dk_fac i)) (by rw [nI_clamp (by omega)]) de_U_passesFilter_15 ?_
        refine lv_aload_n hx hb de_U_passesFilter_16 rfl (lv_at hl 0 rfl) ?_
        refine dk_get (a := h) (v := .ref fl) (C := kn_U) (T := kt_U) (N := 2) hx hb hts ki_U hown hK hP hh rfl 1 (by decide) (hts _ wi_201) (fun _ h9 => h9) rfl de_U_passesFilter_17 ?_
        refine dk_calli (va_runS (As := [.int (nI k), .int (dk_fac i), .ref fl]) (rest := []) ⟨hx, hb, hml, hown, hts⟩ (c_U_bitOf l G w k i fl 0 (rn_w L) f hfl hn hn2) (va_cwS 3 hts (wd_gS wi_199 wi_197 wi_198 wi_15) rfl rfl rfl (by decide +kernel) ⟨Nat.le_of_ble_eq_true rfl, Nat.le_of_ble_eq_true rfl⟩) (dk_preS hE hP hS) rfl rfl hl.1 rfl (lv_room (Nat.le_of_ble_eq_true rfl)) de_U_passesFilter_20 ⟨(by first | exact Nat.le_of_ble_eq_true rfl | (simp only [Nat.zero_add]; omega) | omega), (by first | exact Nat.le_of_ble_eq_true rfl | (simp only [Nat.zero_add]; omega) | omega)⟩) hS (fun r_320 w_318 H locs hq_319 hP hS => ?_)
        obtain ⟨hr_321, he_322⟩ := hq_319
        subst hr_321
        rw [he_322] at hP
        obtain ⟨B, hB⟩ : ∃ B, B = hv_k k i % (rn_w L * 64) := ⟨_, rfl⟩
        rw [← hB]
        have hBl : B < rn_w L * 64 := by rw [hB]; exact Nat.mod_lt _ (by omega)
        have hbB := hbt B (by omega)
        refine lv_istore_n (lv' := [(3, .int (nI B)), (0, .ref h), (1, .int (nI k)), (2, .int (nI i))]) hx hb de_U_passesFilter_23 rfl hl (by decide) rfl (fun ls hl => ?_)
        refine lv_aload_n hx hb de_U_passesFilter_24 rfl (lv_at hl 1 rfl) ?_
        refine dk_get (a := h) (v := .ref fl) (C := kn_U) (T := kt_U) (N := 2) hx hb hts ki_U hown hK hP hh rfl 1 (by decide) (hts _ wi_201) (fun _ h9 => h9) rfl de_U_passesFilter_25 ?_
        refine lv_iload_n hx hb de_U_passesFilter_28 rfl (lv_at hl 0 rfl) ?_
        refine lv_bipush (v := nI 64) hx hb de_U_passesFilter_29 (by decide) ?_
        refine nx_idiv (a := B) (b := 64) hx hb (by omega) (by omega) (by omega) de_U_passesFilter_31 ?_
        refine dk_lald (a := fl) hx hb hK hP hfl (B / 64) rfl (by omega) (by omega) de_U_passesFilter_32 ?_
        refine lv_iload_n hx hb de_U_passesFilter_33 rfl (lv_at hl 0 rfl) ?_
        refine lv_bipush (v := nI 64) hx hb de_U_passesFilter_34 (by decide) ?_
        refine nx_irem (a := B) (b := 64) hx hb (by omega) (by omega) (by omega) de_U_passesFilter_36 ?_
        refine lv_lushr (v := ((f (B / 64)).toUInt64 >>> ((nI (B % 64)).toInt64.toUInt64 &&& Int64.toUInt64 63)).toInt64) hx hb de_U_passesFilter_37 rfl ?_
        refine lv_lconst (v := 1) hx hb de_U_passesFilter_38 (by decide) ?_
        refine lv_land hx hb de_U_passesFilter_39 ?_
        refine lv_lconst (v := 0) hx hb de_U_passesFilter_40 (by decide) ?_
        refine W.lcmp hx hb de_U_passesFilter_41 ?_
        have hts2 := (lg_cmp_eq _ _).trans (ts_bit (w := f (B / 64)) (j := B % 64) (Nat.mod_lt _ (by decide)) (sh_am _ (Nat.mod_lt _ (by decide))))
        refine lv_if_ne (tgt := 47) hx hb de_U_passesFilter_42 (by decide) (fun c_323 => ?_) (fun c_323 => ?_)
        · have h9 : bt_f f B = true := ts_nf (fun z => c_323 (hts2.mpr z))
          rw [hbB, hB, Nat.mul_comm] at h9
          refine lv_iinc (v := nI (i + 1)) (lv' := [(2, .int (nI (i + 1))), (3, .int (nI B)), (0, .ref h), (1, .int (nI k))]) hx hb de_U_passesFilter_47 hl (k := 3) rfl (nx_inc i) (by decide) rfl (fun ls hl => ?_)
          refine lv_goto (tgt := 2) hx hb de_U_passesFilter_50 (by decide) ?_
          have hg2 : ∀ j, j < i + 1 → fl_s (64 * rn_w L) L (hv_k k j % (64 * rn_w L)) = true := lt_s hg (by rw [Nat.mul_comm] at h9; exact h9)
          exact ih (i + 1) (by omega) (by omega) hg2 _ _ hP hS _ (lv_sub hl [2, 3, 0] rfl)
        · have h9 : bt_f f B = false := hts2.mp c_323
          rw [hbB, hB, Nat.mul_comm] at h9
          refine lv_iconst (v := nI 0) hx hb de_U_passesFilter_45 (by decide) ?_
          exact dk_zret hQ hx hb hr hlocks hP hS (Nat.le_refl _) (Nat.le_refl _) (by decide +kernel) (⟨bo_of0 (fl_no c_317 (by rw [Nat.mul_comm] at h9; exact h9)), rfl⟩) de_U_passesFilter_46
  exact lp 4 0 (by omega) (Nat.zero_le _) (fun j hj => absurd hj (by omega)) _ _ hP hS _ (lv_sub hl [1, 2, 0] rfl)
abbrev rm_U_mayHave : Room := { frames := 2, cells := 0, slots := 0, locals := 46 }
set_option maxHeartbeats 4000000 in
set_option maxRecDepth 100000 in
theorem c_U_mayHave (l : Launch) (G : dk_G) (w : dk_H) (h k : Nat) (L : List en_T) (hr0 : rn_at G w h L) (hk0 : k < 2 ^ 31) : dk_Mi l my_U_mayHave (wd_c my_U_mayHave mb_U_mayHave 4 (some .boolean)) rm_U_mayHave G w [.ref h, .int (nI k)] (fun r w1 => r = bo_i (rn_m L k) ∧ w1 = w) 0 0 := by
  have hr1 := hr0
  obtain ⟨r, fl, f, hh, hrw, hfl, hbt, hL0, hL6, hok⟩ := hr0
  have hrw1 := hrw
  obtain ⟨sl, fr, hrc, -⟩ := hrw
  obtain ⟨x, hx9⟩ := ge_at hL0
  obtain ⟨y, hy9⟩ := ge_at (L := L) (i := L.length - 1) (by omega)
  have hxk := (hok x (List.mem_of_getElem? hx9)).1
  have hyk := (hok y (List.mem_of_getElem? hy9)).1
  have ex : L.getD 0 (0, 0, 0, false) = x := by rw [List.getD_eq_getElem?_getD, hx9]; rfl
  have ey : L.getD (L.length - 1) (0, 0, 0, false) = y := by rw [List.getD_eq_getElem?_getD, hy9]; rfl
  refine dk_enter (lv := [(0, .ref h), (1, .int (nI k))]) (by decide) (Nat.le_of_ble_eq_true rfl) rfl (fun p e s m args below meth c ls Q hQ C hP hS hl => ?_)
  obtain ⟨hx, hb, hr, hml, hlocks, hown, hnm, hts, hE⟩ := C
  have hK := hE.1
  have hN := hE.2.1
  refine lv_aload_n hx hb de_U_mayHave_0 rfl (lv_at hl 0 rfl) ?_
  refine dk_get (a := h) (v := .ref r) (C := kn_U) (T := kt_U) (N := 2) hx hb hts ki_U hown hK hP hh rfl 0 (by decide) (hts _ wi_200) (fun _ h9 => h9) rfl de_U_mayHave_1 ?_
  refine lv_iconst (v := nI 0) hx hb de_U_mayHave_4 (by decide) ?_
  refine dk_callq (va_runV (As := [.int (nI 0)]) (rest := []) ⟨hx, hb, hml, hown, hts⟩ (c_R_at l G w r 0 0 L.length L hrw1 (nI 0)) (cwV 1 hts (wd_gV (C := "RunKeeper$Row") wi_191 wi_188 wi_189 wi_190 wi_2) rfl rfl rfl (by decide +kernel) ⟨Nat.le_of_ble_eq_true rfl, Nat.le_of_ble_eq_true rfl⟩) (dk_preV (kn_R, kt_R, 2) hE hP hS hrc rfl) rfl rfl hl.1 rfl (lv_room (Nat.le_of_ble_eq_true rfl)) de_U_mayHave_5 ⟨(by first | exact Nat.le_of_ble_eq_true rfl | (simp only [Nat.zero_add]; omega) | omega), (by first | exact Nat.le_of_ble_eq_true rfl | (simp only [Nat.zero_add]; omega) | omega)⟩) hS (fun r_326 w_324 H locs hq_325 hP hS => ?_)
  obtain ⟨a1, ha1, ha2⟩ := at_in hq_325.2 (by decide) (by omega) hx9
  rw [hq_325.1] at hP
  subst ha1
  refine lv_astore_n (lv' := [(2, .ref a1), (0, .ref h), (1, .int (nI k))]) hx hb de_U_mayHave_8 rfl hl (by decide) rfl (fun ls hl => ?_)
  refine lv_aload_n hx hb de_U_mayHave_9 rfl (lv_at hl 1 rfl) ?_
  refine dk_get (a := h) (v := .ref r) (C := kn_U) (T := kt_U) (N := 2) hx hb hts ki_U hown hK hP hh rfl 0 (by decide) (hts _ wi_200) (fun _ h9 => h9) rfl de_U_mayHave_10 ?_
  refine lv_aload_n hx hb de_U_mayHave_13 rfl (lv_at hl 1 rfl) ?_
  refine dk_get (a := h) (v := .ref r) (C := kn_U) (T := kt_U) (N := 2) hx hb hts ki_U hown hK hP hh rfl 0 (by decide) (hts _ wi_200) (fun _ h9 => h9) rfl de_U_mayHave_14 ?_
  refine dk_calli (va_runV (As := []) (rest := [.ref r]) ⟨hx, hb, hml, hown, hts⟩ (c_R_size l G w r 0 0 L.length L hrw1) (cwV 0 hts (wd_gV (C := "RunKeeper$Row") wi_147 wi_178 wi_145 wi_146 wi_2) rfl rfl rfl (by decide +kernel) ⟨Nat.le_of_ble_eq_true rfl, Nat.le_of_ble_eq_true rfl⟩) (dk_preV (kn_R, kt_R, 2) hE hP hS hrc rfl) rfl rfl hl.1 rfl (lv_room (Nat.le_of_ble_eq_true rfl)) de_U_mayHave_17 ⟨(by first | exact Nat.le_of_ble_eq_true rfl | (simp only [Nat.zero_add]; omega) | omega), (by first | exact Nat.le_of_ble_eq_true rfl | (simp only [Nat.zero_add]; omega) | omega)⟩) hS (fun r_329 w_327 H locs hq_328 hP hS => ?_)
  obtain ⟨hr_330, he_331⟩ := hq_328
  subst hr_330
  rw [he_331] at hP
  refine lv_iconst (v := nI 1) hx hb de_U_mayHave_20 (by decide) ?_
  refine nx_isub (a := L.length) (b := 1) hx hb (by omega) de_U_mayHave_21 ?_
  refine dk_callq (va_runV (As := [.int (nI (L.length - 1))]) (rest := []) ⟨hx, hb, hml, hown, hts⟩ (c_R_at l G w r 0 0 L.length L hrw1 (nI (L.length - 1))) (cwV 1 hts (wd_gV (C := "RunKeeper$Row") wi_191 wi_188 wi_189 wi_190 wi_2) rfl rfl rfl (by decide +kernel) ⟨Nat.le_of_ble_eq_true rfl, Nat.le_of_ble_eq_true rfl⟩) (dk_preV (kn_R, kt_R, 2) hE hP hS hrc rfl) rfl rfl hl.1 rfl (lv_room (Nat.le_of_ble_eq_true rfl)) de_U_mayHave_22 ⟨(by first | exact Nat.le_of_ble_eq_true rfl | (simp only [Nat.zero_add]; omega) | omega), (by first | exact Nat.le_of_ble_eq_true rfl | (simp only [Nat.zero_add]; omega) | omega)⟩) hS (fun r_334 w_332 H locs hq_333 hP hS => ?_)
  obtain ⟨a2, hb1, hb2⟩ := at_in hq_333.2 (by omega) (by omega) hy9
  rw [hq_333.1] at hP
  subst hb1
  refine lv_astore_n (lv' := [(3, .ref a2), (2, .ref a1), (0, .ref h), (1, .int (nI k))]) hx hb de_U_mayHave_25 rfl hl (by decide) rfl (fun ls hl => ?_)
  refine lv_aload_n hx hb de_U_mayHave_26 rfl (lv_at hl 1 rfl) ?_
  refine lv_ifnull hx hb de_U_mayHave_27 ?_
  refine lv_aload_n hx hb de_U_mayHave_30 rfl (lv_at hl 0 rfl) ?_
  refine lv_ifnull hx hb de_U_mayHave_31 ?_
  refine lv_aload_n hx hb de_U_mayHave_34 rfl (lv_at hl 1 rfl) ?_
  refine dk_getN (a := a1) (v := .int (nI x.1)) (C := kn_E) (T := kt_E) (N := 4) (host := "RunKeeper") hx hb hts ki_E hown hK hP ha2 rfl 0 (by decide) (hN.use (dn_m 445 (by decide +kernel) rfl)) (fun _ h9 => h9) rfl de_U_mayHave_35 ?_
  refine lv_iload_n hx hb de_U_mayHave_38 rfl (lv_at hl 3 rfl) ?_
  refine nx_icmp_gt (a := x.1) (b := k) (tgt := 62) hx hb (by omega) (by omega) de_U_mayHave_39 (by decide) (fun c_337 => ?_) (fun c_337 => ?_)
  · refine lv_iconst (v := nI 0) hx hb de_U_mayHave_62 (by decide) ?_
    exact dk_zret hQ hx hb hr hlocks hP hS (Nat.le_refl _) (Nat.le_refl _) (by decide +kernel) (⟨bo_of0 (by simp only [rn_m, ex, ey]; simp; omega), rfl⟩) de_U_mayHave_63
  · refine lv_iload_n hx hb de_U_mayHave_42 rfl (lv_at hl 3 rfl) ?_
    refine lv_aload_n hx hb de_U_mayHave_43 rfl (lv_at hl 0 rfl) ?_
    refine dk_getN (a := a2) (v := .int (nI y.1)) (C := kn_E) (T := kt_E) (N := 4) (host := "RunKeeper") hx hb hts ki_E hown hK hP hb2 rfl 0 (by decide) (hN.use (dn_m 445 (by decide +kernel) rfl)) (fun _ h9 => h9) rfl de_U_mayHave_44 ?_
    refine nx_icmp_gt (a := k) (b := y.1) (tgt := 62) hx hb (by omega) (by omega) de_U_mayHave_47 (by decide) (fun c_338 => ?_) (fun c_338 => ?_)
    · refine lv_iconst (v := nI 0) hx hb de_U_mayHave_62 (by decide) ?_
      exact dk_zret hQ hx hb hr hlocks hP hS (Nat.le_refl _) (Nat.le_refl _) (by decide +kernel) (⟨bo_of0 (by simp only [rn_m, ex, ey]; simp; omega), rfl⟩) de_U_mayHave_63
    · refine lv_aload_n hx hb de_U_mayHave_50 rfl (lv_at hl 2 rfl) ?_
      refine lv_iload_n hx hb de_U_mayHave_51 rfl (lv_at hl 3 rfl) ?_
      refine dk_calli (va_runV (As := [.int (nI k)]) (rest := []) ⟨hx, hb, hml, hown, hts⟩ (c_U_passesFilter l G w h k L hr1) (cwV 1 hts (wd_gV (C := "RunKeeper$Run") wi_646 wi_643 wi_645 (wd_p (q := (⟨"RunKeeper$Run", "passesFilter", "(I)Z"⟩, 2)) (by decide +kernel) (by decide +kernel)) wi_15) rfl rfl rfl (by decide +kernel) ⟨Nat.le_of_ble_eq_true rfl, Nat.le_of_ble_eq_true rfl⟩) (dk_preV (kn_U, kt_U, 2) hE hP hS hh rfl) rfl rfl hl.1 rfl (lv_room (Nat.le_of_ble_eq_true rfl)) de_U_mayHave_52 ⟨(by first | exact Nat.le_of_ble_eq_true rfl | (simp only [Nat.zero_add]; omega) | omega), (by first | exact Nat.le_of_ble_eq_true rfl | (simp only [Nat.zero_add]; omega) | omega)⟩) hS (fun r_341 w_339 H locs hq_340 hP hS => ?_)
      obtain ⟨hr_342, he_343⟩ := hq_340
      subst hr_342
      rw [he_343] at hP
      refine bo_if_eq (b := (fl_p (64 * rn_w L) L k)) (tgt := 62) hx hb de_U_mayHave_55 (by decide) (fun c_344 => ?_) (fun c_344 => ?_)
      · refine lv_iconst (v := nI 0) hx hb de_U_mayHave_62 (by decide) ?_
        exact dk_zret hQ hx hb hr hlocks hP hS (Nat.le_refl _) (Nat.le_refl _) (by decide +kernel) (⟨bo_of0 (by simp only [rn_m, c_344]; simp), rfl⟩) de_U_mayHave_63
      · refine lv_iconst (v := nI 1) hx hb de_U_mayHave_58 (by decide) ?_
        refine lv_goto (tgt := 63) hx hb de_U_mayHave_59 (by decide) ?_
        exact dk_zret hQ hx hb hr hlocks hP hS (Nat.le_refl _) (Nat.le_refl _) (by decide +kernel) (⟨bo_of1 (by simp only [rn_m, ex, ey, c_344]; simp; omega), rfl⟩) de_U_mayHave_63
abbrev rm_U_init (n : Nat) : Room := { frames := 2, cells := 3, slots := (n + 2 + (n + 7) / 8), locals := 46 }
set_option maxHeartbeats 4000000 in
set_option maxRecDepth 100000 in
theorem c_U_init (l : Launch) (G : dk_G) (w : dk_H) (h s0 u0 u1 cap : Nat) (L : List en_T) (hh : w h = some (63, .inr (cx_U, [.null, .null]))) (hs0 : rw_at G w s0 u0 u1 cap L) (hu : u0 ≠ 0 ∧ u1 ≠ 0 ∧ u0 < 60 ∧ u1 < 60) (hL0 : 0 < L.length) (hL6 : L.length ≤ 600) (hok : ∀ x ∈ L, en_ok x) : dk_Mv l my_U_init (wd_c my_U_init mb_U_init 3 none) (rm_U_init L.length) G w [.ref h, .ref s0] (fun w1 => rn_at G w1 h L ∧ dk_fr (fun t => 60 ≤ t ∧ t ≤ 63) w w1) 3 (L.length + 2 + (L.length + 7) / 8) := by
  obtain ⟨hu1, hu2, hu3, hu4⟩ := hu
  obtain ⟨ss, fs, hsc, -⟩ := id hs0
  refine dk_enter (lv := [(0, .ref h), (1, .ref s0)]) (by decide) (Nat.le_of_ble_eq_true rfl) rfl (fun p e s m args below meth c ls Q hQ C hP hS hl => ?_)
  obtain ⟨hx, hb, hr, hml, hlocks, hown, hnm, hts, hE⟩ := C
  have hK := hE.1
  have hN := hE.2.1
  refine lv_aload_n hx hb de_U_init_0 rfl (lv_at hl 0 rfl) ?_
  refine W.objInit hx hb hown (hts _ wi_176) (hts _ wi_30) (hts _ wi_31) rfl (by rw [hml]; exact hl.1) rfl de_U_init_1 (Nat.le_of_ble_eq_true rfl) (Nat.le_of_ble_eq_true rfl) ?_
  refine W.eq (g2 := F0 m 4 ls []) rfl ?_
  refine lv_aload_n hx hb de_U_init_4 rfl (lv_at hl 0 rfl) ?_
  refine dk_new 60 (fs := [.null, .int 0]) (C := kn_R) (T := kt_R) (N := 2) (ci := cx_R) hx hb hts ki_R ky_R kk_R hown (hts _ wi_177) (hts _ wi_33) (hts _ wi_2) hK hP hS hE.2.2.2 rfl (fun j hj => by match j, hj with | 0, _ => rfl | 1, _ => rfl | j + 2, h => exact absurd h (by omega)) (by first | exact Nat.le_of_ble_eq_true rfl | (simp only [Nat.zero_add]; omega) | omega) (by first | exact Nat.le_of_ble_eq_true rfl | (simp only [Nat.zero_add]; omega) | omega) de_U_init_5 (fun q_345 H w_346 hn_348 hw_347 hP hS => ?_)
  have h_349 : w_346 q_345 = some (60, .inr (cx_R, [.null, .int 0])) := dk_here hw_347
  have h_350 : w_346 h = some (63, .inr (cx_U, [.null, .null])) := dk_keepN hw_347 hn_348 hh
  have h_351 : w_346 s0 = some (u0, .inr (cx_R, [.ref ss, .int (nI L.length)])) := dk_keepN hw_347 hn_348 hsc
  have hs1 : rw_at G w_346 s0 u0 u1 cap L := hs0.fr (T := fun _ => False) ((dk_fr.upN hn_348).eq hw_347) (fun z => z) (fun z => z) (fun z => z)
  refine lv_dup hx hb de_U_init_8 rfl ?_
  refine lv_aload_n hx hb de_U_init_9 rfl (lv_at hl 1 rfl) ?_
  refine dk_calli (va_runV (As := []) (rest := [.ref q_345, .ref q_345, .ref h]) ⟨hx, hb, hml, hown, hts⟩ (c_R_size l G w_346 s0 u0 u1 cap L hs1) (cwV 0 hts (wd_gV (C := "RunKeeper$Row") wi_147 wi_178 wi_145 wi_146 wi_2) rfl rfl rfl (by decide +kernel) ⟨Nat.le_of_ble_eq_true rfl, Nat.le_of_ble_eq_true rfl⟩) (dk_preV (kn_R, kt_R, 2) hE hP hS h_351 rfl) rfl rfl hl.1 rfl (lv_room (Nat.le_of_ble_eq_true rfl)) de_U_init_10 ⟨(by first | exact Nat.le_of_ble_eq_true rfl | (simp only [Nat.zero_add]; omega) | omega), (by first | exact Nat.le_of_ble_eq_true rfl | (simp only [Nat.zero_add]; omega) | omega)⟩) hS (fun r_354 w_352 H locs hq_353 hP hS => ?_)
  obtain ⟨hr_355, he_356⟩ := hq_353
  subst hr_355
  rw [he_356] at hP
  refine dk_callv (va_runI (As := [.int (nI L.length)]) (rest := [.ref q_345, .ref h]) ⟨hx, hb, hml, hown, hts⟩ (c_R_init l G w_346 q_345 60 61 L.length h_349 (by decide) (by decide) (by omega)) (cwI 1 hts (wd_g wi_36) rfl rfl rfl (hts _ wi_2) (hts _ wi_179) (hts _ wi_35) rfl (by decide +kernel) ⟨Nat.le_of_ble_eq_true rfl, Nat.le_of_ble_eq_true rfl⟩) (dk_preS hE hP hS) rfl rfl hl.1 rfl (lv_room (Nat.le_of_ble_eq_true rfl)) de_U_init_13 ⟨(by first | exact Nat.le_of_ble_eq_true rfl | (simp only [Nat.zero_add]; omega) | omega), (by first | exact Nat.le_of_ble_eq_true rfl | (simp only [Nat.zero_add]; omega) | omega)⟩) hS (fun w_357 H locs hq_358 hP hS => ?_)
  obtain ⟨hrw, hfr1⟩ := hq_358
  have h_360 : w_357 h = some (63, .inr (cx_U, [.null, .null])) := hfr1 _ _ _ h_350 (by decide)
  have h_361 : w_357 s0 = some (u0, .inr (cx_R, [.ref ss, .int (nI L.length)])) := hfr1 _ _ _ h_351 (by omega)
  have hs2 := hs1.fr hfr1 (by decide) (by omega) (by omega)
  refine dk_putF (a := h) (v := .ref q_345) (ty := (.object "RunKeeper$Row")) (C := kn_U) (T := kt_U) (N := 2) hx hb hts ki_U ky_U kk_U kd_U hown hK hP hS h_360 rfl 0 (by decide) (hts _ wi_200) (fun _ h9 => h9) rfl hnm rfl (by decide +kernel) rfl rfl (Nat.le_of_ble_eq_true rfl) de_U_init_16 (fun H locs w_362 hw_363 hP hS => ?_)
  have h_364 : w_362 h = some (63, .inr (cx_U, [.ref q_345, .null])) := dk_here hw_363
  have h_365 : w_362 s0 = some (u0, .inr (cx_R, [.ref ss, .int (nI L.length)])) := dk_keep hw_363 h_360 h_361 (by omega)
  refine lv_aload_n hx hb de_U_init_19 rfl (lv_at hl 0 rfl) ?_
  refine dk_get (a := h) (v := .ref q_345) (C := kn_U) (T := kt_U) (N := 2) hx hb hts ki_U hown hK hP h_364 rfl 0 (by decide) (hts _ wi_200) (fun _ h9 => h9) rfl de_U_init_20 ?_
  refine lv_aload_n hx hb de_U_init_23 rfl (lv_at hl 1 rfl) ?_
  have hfr2 : dk_fr (fun t => t = 63) w_357 w_362 := (dk_fr.up (T := fun t => t = 63) h_360 rfl).eq hw_363
  have hs3 := hs2.fr hfr2 (by decide) (by omega) (by omega)
  have hrw2 := hrw.fr hfr2 (by decide) (by decide) (by decide)
  obtain ⟨sq, fq, hqc, -⟩ := id hrw2
  refine dk_callv (va_runV (As := [.ref s0]) (rest := []) ⟨hx, hb, hml, hown, hts⟩ (c_R_addAll l G w_362 q_345 60 61 L.length [] hrw2 ⟨by decide, by decide, by decide⟩ s0 u0 u1 cap L hs3 (by omega) (by simp)) (cwV 1 hts (wd_gV (C := "RunKeeper$Row") wi_183 wi_180 wi_181 wi_182 wi_2) rfl rfl rfl (by decide +kernel) ⟨Nat.le_of_ble_eq_true rfl, Nat.le_of_ble_eq_true rfl⟩) (dk_preV (kn_R, kt_R, 2) hE hP hS hqc rfl) rfl rfl hl.1 rfl (lv_room (Nat.le_of_ble_eq_true rfl)) de_U_init_24 ⟨(by first | exact Nat.le_of_ble_eq_true rfl | (simp only [Nat.zero_add]; omega) | omega), (by first | exact Nat.le_of_ble_eq_true rfl | (simp only [Nat.zero_add]; omega) | omega)⟩) hS (fun w_366 H locs hq_367 hP hS => ?_)
  obtain ⟨hrw3, hfr3⟩ := hq_367
  rw [List.nil_append] at hrw3
  have h_369 : w_366 h = some (63, .inr (cx_U, [.ref q_345, .null])) := hfr3 _ _ _ h_364 (by decide)
  have h_370 : w_366 s0 = some (u0, .inr (cx_R, [.ref ss, .int (nI L.length)])) := hfr3 _ _ _ h_365 (by omega)
  have hs4 := hs3.fr hfr3 (by omega) (by omega) (by omega)
  refine lv_aload_n hx hb de_U_init_27 rfl (lv_at hl 0 rfl) ?_
  refine lv_aload_n hx hb de_U_init_28 rfl (lv_at hl 1 rfl) ?_
  refine dk_calli (va_runV (As := []) (rest := [.ref h]) ⟨hx, hb, hml, hown, hts⟩ (c_R_size l G w_366 s0 u0 u1 cap L hs4) (cwV 0 hts (wd_gV (C := "RunKeeper$Row") wi_147 wi_178 wi_145 wi_146 wi_2) rfl rfl rfl (by decide +kernel) ⟨Nat.le_of_ble_eq_true rfl, Nat.le_of_ble_eq_true rfl⟩) (dk_preV (kn_R, kt_R, 2) hE hP hS h_370 rfl) rfl rfl hl.1 rfl (lv_room (Nat.le_of_ble_eq_true rfl)) de_U_init_29 ⟨(by first | exact Nat.le_of_ble_eq_true rfl | (simp only [Nat.zero_add]; omega) | omega), (by first | exact Nat.le_of_ble_eq_true rfl | (simp only [Nat.zero_add]; omega) | omega)⟩) hS (fun r_373 w_371 H locs hq_372 hP hS => ?_)
  obtain ⟨hr_374, he_375⟩ := hq_372
  subst hr_374
  rw [he_375] at hP
  refine lv_bipush (v := nI 8) hx hb de_U_init_32 (by decide) ?_
  refine nx_iadd (a := L.length) (b := 8) hx hb de_U_init_34 ?_
  refine lv_iconst (v := nI 1) hx hb de_U_init_35 (by decide) ?_
  refine nx_isub (a := L.length + 8) (b := 1) hx hb (by omega) de_U_init_36 ?_
  refine lv_bipush (v := nI 8) hx hb de_U_init_37 (by decide) ?_
  refine nx_idiv (a := L.length + 8 - 1) (b := 8) hx hb (by omega) (by omega) (by omega) de_U_init_39 ?_
  rw [show (L.length + 8 - 1) / 8 = rn_w L from rfl]
  have hw0 : 0 < rn_w L := by unfold rn_w; omega
  have hw1 : rn_w L ≤ 100 := by unfold rn_w; omega
  have hw2 : rn_w L = (L.length + 7) / 8 := rfl
  refine dk_newa 62 1 (atype := .long) (ty := .long) (a0 := (rn_w L, .inr (.inl (fun _ => 0)))) (N' := (rn_w L)) hx hb (hts _ wi_207) rfl hK hP hS hE.2.2.2 rfl (fun U cA h => h) (fun cA => rfl) rfl (by omega) (by first | decide | (simp [componentBytes]; done) | (simp [componentBytes]; omega)) (by first | exact Nat.le_of_ble_eq_true rfl | (simp only [Nat.zero_add]; omega) | omega) (by first | exact Nat.le_of_ble_eq_true rfl | (simp only [Nat.zero_add]; omega) | omega) de_U_init_40 (fun q_376 H w_377 hn_379 hw_378 hP hS => ?_)
  have h_380 : w_377 q_376 = some (62, dk_cl G (rn_w L) (fun _ => 0)) := dk_here hw_378
  have h_381 : w_377 h = some (63, .inr (cx_U, [.ref q_345, .null])) := dk_keepN hw_378 hn_379 h_369
  have h_382 : w_377 s0 = some (u0, .inr (cx_R, [.ref ss, .int (nI L.length)])) := dk_keepN hw_378 hn_379 h_370
  have hf5 : dk_fr (fun t => t = 63) _ w_377 := (dk_fr.upN hn_379).eq hw_378
  refine dk_putF (a := h) (v := .ref q_376) (ty := (.array .long)) (C := kn_U) (T := kt_U) (N := 2) hx hb hts ki_U ky_U kk_U kd_U hown hK hP hS h_381 rfl 1 (by decide) (hts _ wi_201) (fun _ h9 => h9) rfl hnm rfl (by decide +kernel) rfl rfl (Nat.le_of_ble_eq_true rfl) de_U_init_42 (fun H locs w_383 hw_384 hP hS => ?_)
  have h_385 : w_383 h = some (63, .inr (cx_U, [.ref q_345, .ref q_376])) := dk_here hw_384
  have h_386 : w_383 s0 = some (u0, .inr (cx_R, [.ref ss, .int (nI L.length)])) := dk_keep hw_384 h_381 h_382 (by omega)
  have h_387 : w_383 q_376 = some (62, dk_cl G (rn_w L) (fun _ => 0)) := dk_keep hw_384 h_381 h_380 (by decide)
  refine lv_iconst (v := nI 0) hx hb de_U_init_45 (by decide) ?_
  refine lv_istore_n (lv' := [(2, .int (nI 0)), (0, .ref h), (1, .ref s0)]) hx hb de_U_init_46 rfl hl (by decide) rfl (fun ls hl => ?_)
  have hf6 : dk_fr (fun t => t = 63) w_377 w_383 := (dk_fr.up (T := fun t => t = 63) h_381 rfl).eq hw_384
  have hs5 := (hs4.fr hf5 (by decide) (by omega) (by omega)).fr hf6 (by decide) (by omega) (by omega)
  have hrw5 := (hrw3.fr hf5 (by decide) (by decide) (by decide)).fr hf6 (by decide) (by decide) (by decide)
  have hall : dk_fr (fun t => t = 63 ∨ t = 60 ∨ t = 61 ∨ t = 62) w w_383 := ((((((dk_fr.upN (T := (fun t => t = 63 ∨ t = 60 ∨ t = 61 ∨ t = 62)) hn_348).eq hw_347).tr (hfr1.mono (fun t z => Or.inr (Or.inl z)))).tr (hfr2.mono (fun t z => Or.inl z))).tr (hfr3.mono (fun t z => Or.inr (z.elim Or.inl (fun y => Or.inr (Or.inl y)))))).tr (hf5.mono (fun t z => Or.inl z))).tr (hf6.mono (fun t z => Or.inl z))
  have lp : ∀ (zk : Nat) (i : Nat) (g : Nat → Int64), L.length - i < zk → (i ≤ L.length) → (∀ b, bt_f g b = fl_s (64 * rn_w L) (L.take i) b) → ∀ (H : Heap) (locs : List Loc) (v : dk_H), v h = some (63, .inr (cx_U, [.ref q_345, .ref q_376])) → v q_376 = some (62, dk_cl G (rn_w L) g) → (rw_at G v s0 u0 u1 cap L) → (rw_at G v q_345 60 61 L.length L) → (dk_fr (fun t => t = 63 ∨ t = 60 ∨ t = 61 ∨ t = 62) w v) → dk_P G v H → dk_S G s.heap H locs → ∀ (ls : Array Slot), lv_has ls 3 [(0, .ref h), (1, .ref s0), (2, .int (nI i))] → W p l e (rm_U_init L.length) s m args below meth c H locs (0 + 1 + 0 + 1 + 0 + 0 + 1) (0 + 2 + 0 + L.length + 0 + 0 + (rn_w L)) Q (F0 m 47 ls []) := by
    intro zk
    induction zk with
    | zero =>
      intro i g hk
      exact absurd hk (by omega)
    | succ zk ih =>
      intro i g hk hi hg
      intro H locs v hh hfl hsv hrv hav hP hS
      intro ls hl
      obtain ⟨ss, fs, hsc, hss, hls, hcs, hfs⟩ := id hsv
      refine lv_iload_n hx hb de_U_init_47 rfl (lv_at hl 2 rfl) ?_
      refine lv_aload_n hx hb de_U_init_48 rfl (lv_at hl 1 rfl) ?_
      refine dk_calli (va_runV (As := []) (rest := [.int (nI i)]) ⟨hx, hb, hml, hown, hts⟩ (c_R_size l G v s0 u0 u1 cap L hsv) (cwV 0 hts (wd_gV (C := "RunKeeper$Row") wi_147 wi_178 wi_145 wi_146 wi_2) rfl rfl rfl (by decide +kernel) ⟨Nat.le_of_ble_eq_true rfl, Nat.le_of_ble_eq_true rfl⟩) (dk_preV (kn_R, kt_R, 2) hE hP hS hsc rfl) rfl rfl hl.1 rfl (lv_room (Nat.le_of_ble_eq_true rfl)) de_U_init_49 ⟨(by first | exact Nat.le_of_ble_eq_true rfl | (simp only [Nat.zero_add]; omega) | omega), (by first | exact Nat.le_of_ble_eq_true rfl | (simp only [Nat.zero_add]; omega) | omega)⟩) hS (fun r_390 w_388 H locs hq_389 hP hS => ?_)
      obtain ⟨hr_391, he_392⟩ := hq_389
      subst hr_391
      rw [he_392] at hP
      refine nx_icmp_ge (a := i) (b := L.length) (tgt := 73) hx hb (by omega) (by omega) de_U_init_52 (by decide) (fun c_393 => ?_) (fun c_393 => ?_)
      · rw [List.take_of_length_le c_393] at hg
        obtain ⟨sq, fq, hqc, hqs, hlq, hcq, hfq⟩ := hrv
        have hz := rn_freeze hh hqc hqs hfl hav hfq
        obtain ⟨v2, hz1, hz2, hz3⟩ := hz
        have hP := hz1 G H hP
        exact dk_vret hQ hx hb hr hlocks hP hS (by omega) (by omega) (⟨⟨q_345, q_376, g, hz2.1, ⟨sq, fq, hz2.2.1, hz2.2.2.1, Nat.le_refl _, by omega, hz2.2.2.2.2⟩, hz2.2.2.2.1, fun b _ => hg b, hL0, hL6, hok⟩, hz3⟩) de_U_init_73
      · refine lv_aload_n hx hb de_U_init_55 rfl (lv_at hl 0 rfl) ?_
        refine dk_get (a := h) (v := .ref q_376) (C := kn_U) (T := kt_U) (N := 2) hx hb hts ki_U hown hK hP hh rfl 1 (by decide) (hts _ wi_201) (fun _ h9 => h9) rfl de_U_init_56 ?_
        refine lv_aload_n hx hb de_U_init_59 rfl (lv_at hl 1 rfl) ?_
        refine lv_iload_n hx hb de_U_init_60 rfl (lv_at hl 2 rfl) ?_
        obtain ⟨x, hx9⟩ := ge_at c_393
        obtain ⟨a9, ha9, ha8⟩ := hfs _ _ hx9
        refine dk_callq (va_runV (As := [.int (nI i)]) (rest := [.ref q_376]) ⟨hx, hb, hml, hown, hts⟩ (c_R_at l G v s0 u0 u1 cap L hsv (nI i)) (cwV 1 hts (wd_gV (C := "RunKeeper$Row") wi_191 wi_188 wi_189 wi_190 wi_2) rfl rfl rfl (by decide +kernel) ⟨Nat.le_of_ble_eq_true rfl, Nat.le_of_ble_eq_true rfl⟩) (dk_preV (kn_R, kt_R, 2) hE hP hS hsc rfl) rfl rfl hl.1 rfl (lv_room (Nat.le_of_ble_eq_true rfl)) de_U_init_61 ⟨(by first | exact Nat.le_of_ble_eq_true rfl | (simp only [Nat.zero_add]; omega) | omega), (by first | exact Nat.le_of_ble_eq_true rfl | (simp only [Nat.zero_add]; omega) | omega)⟩) hS (fun r_396 w_394 H locs hq_395 hP hS => ?_)
        obtain ⟨a1, ha1, ha2⟩ := at_in hq_395.2 (by omega) (by omega) hx9
        rw [hq_395.1] at hP
        subst ha1
        refine dk_callv (va_runS (As := [.ref q_376, .ref a1]) (rest := []) ⟨hx, hb, hml, hown, hts⟩ (c_U_setBits l G v q_376 62 (rn_w L) a1 g x hfl (by decide) hw0 hw1 ha2) (va_cwS 2 hts (wd_gS wi_194 wi_192 wi_193 wi_15) rfl rfl rfl (by decide +kernel) ⟨Nat.le_of_ble_eq_true rfl, Nat.le_of_ble_eq_true rfl⟩) (dk_preS hE hP hS) rfl rfl hl.1 rfl (lv_room (Nat.le_of_ble_eq_true rfl)) de_U_init_64 ⟨(by first | exact Nat.le_of_ble_eq_true rfl | (simp only [Nat.zero_add]; omega) | omega), (by first | exact Nat.le_of_ble_eq_true rfl | (simp only [Nat.zero_add]; omega) | omega)⟩) hS (fun w_397 H locs hq_398 hP hS => ?_)
        obtain ⟨g2, hg1, hg2⟩ := hq_398
        have hf9 : dk_fr (fun t => t = 62) v w_397 := (dk_fr.up (T := fun t => t = 62) hfl rfl).eq hg1
        refine lv_iinc (v := nI (i + 1)) (lv' := [(2, .int (nI (i + 1))), (0, .ref h), (1, .ref s0)]) hx hb de_U_init_67 hl (k := 2) rfl (nx_inc i) (by decide) rfl (fun ls hl => ?_)
        refine lv_goto (tgt := 47) hx hb de_U_init_70 (by decide) ?_
        exact ih (i + 1) g2 (by omega) (by omega) (fun b => by rw [hg2 b, hg b, ta_s hx9]; simp [fl_s, List.any_append, Nat.mul_comm]) _ _ _ (hf9 _ _ _ hh (by decide)) (dk_here hg1) (hsv.fr hf9 (by decide) (by omega) (by omega)) (hrv.fr hf9 (by decide) (by decide) (by decide)) (hav.tr (hf9.mono (fun t z => Or.inr (Or.inr (Or.inr z))))) hP hS _ (lv_sub hl [1, 2, 0] rfl)
  exact lp (L.length + 1) 0 (fun _ => 0) (by omega) (Nat.zero_le _) (fun b => by rw [bt_0]; rfl) _ _ _ h_385 h_387 hs5 hrw5 hall hP hS _ (lv_sub hl [1, 2, 0] rfl)
