/-! RunKeeperModel: the filter (printed by gen/c_md6.py) -/
def fa_L (j : Nat) : Int64 := if j = 0 then 2654435761 else if j = 1 then 2246822519 else 3266489917
theorem fa_m {k j : Nat} (hj : j < 3) : ((nI k).toInt64 * fa_L j).toInt32 = nI k * dk_fac j := by
  rw [Int64.toInt32_mul, Int32.toInt32_toInt64]
  congr 1
  rcases (show j = 0 ∨ j = 1 ∨ j = 2 by omega) with rfl | rfl | rfl <;> decide
/-- of the run r: the filter's bits, the least key, the greatest, the bits that are set -/
def am_n (μ : md_S) (r : Nat) : Nat := (8 * ct_f (fun k9 => decide (μ.rf k9 = some r)) μ.n + 63) / 64 * 64
def as_l (μ : md_S) (r : Nat) : Nat → Nat
  | 0 => 1024
  | j + 1 => if μ.rf j = some r ∧ μ.kf j < as_l μ r j then μ.kf j else as_l μ r j
def as_m (μ : md_S) (r : Nat) : Nat → Option Nat
  | 0 => none
  | j + 1 => if μ.rf j = some r ∧ (as_m μ r j).all (fun q => decide (q < μ.kf j)) = true then some (μ.kf j) else as_m μ r j
def bs_f (μ : md_S) (r nb : Nat) : Nat → Nat → Bool
  | 0, _ => false
  | j + 1, b => bs_f μ r nb j b || (decide (μ.rf j = some r) && fl_x nb (μ.kf j) b)
def bs_B (μ : md_S) (r nb j : Nat) : Nat → Bool := fun b => if b < nb then bs_f μ r nb j b else μ.bt b
def am_b (μ : md_S) (r k : Nat) : Bool := im_b (nI k) (nI (as_l μ r μ.n)) (rI (as_m μ r μ.n)) && bs_f μ r (am_n μ r) μ.n (hv_k k 0 % am_n μ r) && bs_f μ r (am_n μ r) μ.n (hv_k k 1 % am_n μ r) && bs_f μ r (am_n μ r) μ.n (hv_k k 2 % am_n μ r)
theorem as_l_le (μ : md_S) (r : Nat) : ∀ j, as_l μ r j ≤ 1024
  | 0 => Nat.le_refl _
  | j + 1 => by
    have := as_l_le μ r j
    unfold as_l
    split
    · rename_i h; omega
    · exact this
theorem as_m_lt {μ : md_S} (h : ∀ i, μ.kf i < 1024) (r : Nat) : ∀ j q, as_m μ r j = some q → q < 1024
  | 0, q, e => by cases e
  | j + 1, q, e => by
    unfold as_m at e
    split at e
    · cases e; exact h j
    · exact as_m_lt h r j q e
theorem as_ln {μ : md_S} {r j : Nat} (h : ¬ μ.rf j = some r) : as_l μ r (j + 1) = as_l μ r j := if_neg (fun z => h z.1)
theorem as_mn {μ : md_S} {r j : Nat} (h : ¬ μ.rf j = some r) : as_m μ r (j + 1) = as_m μ r j := if_neg (fun z => h z.1)
theorem as_ly {μ : md_S} {r j : Nat} (h : μ.rf j = some r) (h1 : μ.kf j < as_l μ r j) : as_l μ r (j + 1) = μ.kf j := if_pos ⟨h, h1⟩
theorem as_lk {μ : md_S} {r j : Nat} (h : μ.rf j = some r) (h1 : as_l μ r j ≤ μ.kf j) : as_l μ r (j + 1) = as_l μ r j := if_neg (fun z => absurd z.2 (by omega))
theorem as_my {μ : md_S} {r j : Nat} (h : μ.rf j = some r) (hq : ∀ q, as_m μ r j = some q → q < 1024) (hk : μ.kf j < 1024) (h1 : ¬ nI (μ.kf j) ≤ rI (as_m μ r j)) : as_m μ r (j + 1) = some (μ.kf j) := by
  refine if_pos ⟨h, be_all.mpr (fun q e => decide_eq_true ?_)⟩
  have h2 := hq q e
  rw [e] at h1
  have h3 : ¬ nI (μ.kf j) ≤ nI q := h1
  rw [nI_leI (by omega) (by omega)] at h3
  omega
theorem as_mk {μ : md_S} {r j : Nat} (h : μ.rf j = some r) (hq : ∀ q, as_m μ r j = some q → q < 1024) (h1 : nI (μ.kf j) ≤ rI (as_m μ r j)) (hk : μ.kf j < 1024) : as_m μ r (j + 1) = as_m μ r j := by
  refine if_neg (fun z => ?_)
  cases e : as_m μ r j with
  | none =>
    rw [e] at h1
    exact absurd (show nI (μ.kf j) < 0 from Int32.lt_of_le_of_lt h1 (by decide)) (nI_pos (by omega))
  | some q =>
    have h2 := hq q e
    rw [e] at h1
    have h3 : nI (μ.kf j) ≤ nI q := h1
    rw [nI_leI (by omega) (by omega)] at h3
    have h4 := of_decide_eq_true (be_all.mp z.2 q e)
    omega
theorem bs_c0 (f : Nat → Bool) : (fun b => if b < 0 then false else f b) = f := by
  funext b
  exact if_neg (by omega)
theorem bs_cs (f : Nat → Bool) (i : Nat) : (fun b => if b < i + 1 then false else f b) = va_up (fun b => if b < i then false else f b) i false := by
  funext b
  by_cases e : b = i
  · subst e
    rw [dk_us]
    exact if_pos (by omega)
  · rw [dk_un e]
    by_cases h : b < i
    · rw [if_pos h, if_pos (by omega)]
    · rw [if_neg h, if_neg (by omega)]
theorem bs_B0 (μ : md_S) (r nb : Nat) : bs_B μ r nb 0 = fun b => if b < nb then false else μ.bt b := rfl
theorem bs_in {μ : md_S} {r nb i b : Nat} (h : b < nb) : bs_B μ r nb i b = bs_f μ r nb i b := if_pos h
theorem bs_Bn {μ : md_S} {r nb j : Nat} (h : ¬ μ.rf j = some r) : bs_B μ r nb (j + 1) = bs_B μ r nb j := by
  funext b
  unfold bs_B
  rw [bs_f, decide_eq_false h]
  simp
theorem bs_By {μ : md_S} {r nb j : Nat} (h : μ.rf j = some r) (h0 : hv_k (μ.kf j) 0 % nb < nb) (h1 : hv_k (μ.kf j) 1 % nb < nb) (h2 : hv_k (μ.kf j) 2 % nb < nb) : bs_B μ r nb (j + 1) = va_up (va_up (va_up (bs_B μ r nb j) (hv_k (μ.kf j) 0 % nb) true) (hv_k (μ.kf j) 1 % nb) true) (hv_k (μ.kf j) 2 % nb) true := by
  funext b
  by_cases e2 : b = hv_k (μ.kf j) 2 % nb
  · subst e2
    rw [dk_us, bs_in h2, bs_f, decide_eq_true h]
    simp [fl_x]
  · rw [dk_un e2]
    by_cases e1 : b = hv_k (μ.kf j) 1 % nb
    · subst e1
      rw [dk_us, bs_in h1, bs_f, decide_eq_true h]
      simp [fl_x]
    · rw [dk_un e1]
      by_cases e0 : b = hv_k (μ.kf j) 0 % nb
      · subst e0
        rw [dk_us, bs_in h0, bs_f, decide_eq_true h]
        simp [fl_x]
      · rw [dk_un e0]
        unfold bs_B
        by_cases hb : b < nb
        · rw [if_pos hb, if_pos hb, bs_f]
          have g : fl_x nb (μ.kf j) b = false := by simp [fl_x, Ne.symm e0, Ne.symm e1, Ne.symm e2]
          rw [g]
          simp
        · rw [if_neg hb, if_neg hb]
abbrev rm_M_bit : Room := { frames := 0, cells := 0, slots := 0, locals := 0 }
set_option maxHeartbeats 4000000 in
set_option maxRecDepth 100000 in
theorem c_M_bit (l : Launch) (G : dk_G) (w : dk_H) (k j n9 : Nat) (hj : j < 3) (hn : 0 < n9) (hn2 : n9 < 2 ^ 31) : dk_Mi l my_M_bit (wd_c my_M_bit mb_M_bit 4 (some .int)) rm_M_bit G w [.int (nI k), .long (fa_L j), .int (nI n9)] (fun r w1 => r = nI (hv_k k j % n9) ∧ w1 = w) 0 0 := by
  have hv := hv_lt k j
  refine dk_enter (lv := [(0, .int (nI k)), (1, .long (fa_L j)), (3, .int (nI n9))]) (by decide) (Nat.le_of_ble_eq_true rfl) rfl (fun p e s m args below meth c ls Q hQ C hP hS hl => ?_)
  obtain ⟨hx, hb, hr, hml, hlocks, hown, hnm, hts, hE⟩ := C
  have hK := hE.1
  have hN := hE.2.1
  refine lv_iload_n hx hb de_M_bit_0 rfl (lv_at hl 0 rfl) ?_
  refine lv_i2l (v := (nI k).toInt64) hx hb de_M_bit_1 rfl ?_
  refine lv_lload_n hx hb de_M_bit_2 rfl (lv_at hl 1 rfl) ?_
  refine lv_lmul hx hb de_M_bit_3 ?_
  refine lv_l2i (v := nI k * dk_fac j) hx hb de_M_bit_4 (fa_m hj) ?_
  refine lv_bipush (v := nI 12) hx hb de_M_bit_5 (by decide) ?_
  refine lv_iushr (v := nI (hv_k k j)) hx hb de_M_bit_7 (hv_sh _) ?_
  refine lv_iload_n hx hb de_M_bit_8 rfl (lv_at hl 2 rfl) ?_
  refine nx_irem (a := hv_k k j) (b := n9) hx hb (by omega) (by omega) (by omega) de_M_bit_9 ?_
  exact dk_iret hQ hx hb hr hlocks hP hS (Nat.le_refl _) (Nat.le_refl _) (⟨rfl, rfl⟩) de_M_bit_10
abbrev rm_M_isAsked : Room := { frames := 1, cells := 0, slots := 0, locals := 23 }
set_option maxHeartbeats 4000000 in
set_option maxRecDepth 100000 in
theorem c_M_isAsked (l : Launch) (G : dk_G) (w : dk_H) (h : Nat) (D : md_D) (μ : md_S) (hm : md_at G w h D μ) (hmo : md_ok μ) (r0 k : Nat) (hr0 : r0 < 5000) (hk0 : k < 1024) (hne : 0 < (ct_f (fun k9 => decide (μ.rf k9 = some r0)) μ.n)) : dk_Mi l my_M_isAsked (wd_c my_M_isAsked mb_M_isAsked 7 (some .boolean)) rm_M_isAsked G w [.ref h, .int (nI r0), .int (nI k)] (fun r w1 => r = bo_i (am_b μ r0 k) ∧ (∃ B, md_at G w1 h D (μ.bt' B)) ∧ dk_fr md_T w w1) 0 0 := by
  obtain ⟨ok1, ok2, ok3, ok4, ok5, ok6, ok7, ok8, ok9, ok10, ok11⟩ := id hmo
  have hcl := ct_le (fun k9 => decide (μ.rf k9 = some r0)) μ.n
  obtain ⟨N9, hN9⟩ : ∃ N9, N9 = am_n μ r0 := ⟨_, rfl⟩
  have hNp : 0 < N9 ∧ N9 ≤ 5200 := by rw [hN9]; unfold am_n; omega
  refine dk_enter (lv := [(0, .ref h), (1, .int (nI r0)), (2, .int (nI k))]) (by decide) (Nat.le_of_ble_eq_true rfl) rfl (fun p e s m args below meth c ls Q hQ C hP hS hl => ?_)
  obtain ⟨hx, hb, hr, hml, hlocks, hown, hnm, hts, hE⟩ := C
  have hK := hE.1
  have hN := hE.2.1
  have hh_4608 : w h = some (100, .inr (cx_M, [.int (nI μ.er), .int (nI μ.n), .int (nI μ.sq), .int (nI μ.sf), .int (nI μ.rs), .int (rI μ.ba), .int (nI μ.pr), .int (nI μ.mi), .ref D.kf, .ref D.nf, .ref D.rf, .ref D.lf, .ref D.sv, .ref D.bk, .ref D.od, .ref D.vf, .ref D.bv, .ref D.df, .ref D.ss, .ref D.bd, .ref D.ks, .ref D.bt])) := hm.o
  refine lv_sipush (v := nI 1024) hx hb de_M_isAsked_0 (by decide) ?_
  refine lv_istore_n (lv' := [(3, .int (nI 1024)), (0, .ref h), (1, .int (nI r0)), (2, .int (nI k))]) hx hb de_M_isAsked_3 rfl hl (by decide) rfl (fun ls hl => ?_)
  refine lv_iconst (v := (-1)) hx hb de_M_isAsked_4 (by decide) ?_
  refine lv_istore (lv' := [(4, .int (-1)), (3, .int (nI 1024)), (0, .ref h), (1, .int (nI r0)), (2, .int (nI k))]) hx hb de_M_isAsked_5 hl (by decide) rfl (fun ls hl => ?_)
  refine lv_bipush (v := nI 8) hx hb de_M_isAsked_7 (by decide) ?_
  refine lv_aload_n hx hb de_M_isAsked_9 rfl (lv_at hl 2 rfl) ?_
  refine lv_iload_n hx hb de_M_isAsked_10 rfl (lv_at hl 3 rfl) ?_
  refine dk_calli (va_runV (As := [.int (nI r0)]) (rest := [.int (nI 8)]) ⟨hx, hb, hml, hown, hts⟩ (c_M_inRun l G w h D μ hm hmo (some r0) (fun r hr => by cases hr; omega)) (cwV 1 hts (wd_gV (C := "RunKeeperModel") wi_807 wi_804 wi_806 (wd_p (q := (⟨"RunKeeperModel", "inRun", "(I)I"⟩, 22)) (by decide +kernel) (by decide +kernel)) wi_8) rfl rfl rfl (by decide +kernel) ⟨Nat.le_of_ble_eq_true rfl, Nat.le_of_ble_eq_true rfl⟩) (dk_preV (kn_M, kt_M, 22) hE hP hS hh_4608 rfl) rfl rfl hl.1 rfl (lv_room (Nat.le_of_ble_eq_true rfl)) de_M_isAsked_11 ⟨(by first | exact Nat.le_of_ble_eq_true rfl | (simp only [Nat.zero_add]; omega) | omega), (by first | exact Nat.le_of_ble_eq_true rfl | (simp only [Nat.zero_add]; omega) | omega)⟩) hS (fun r_4611 w_4609 H locs hq_4610 hP hS => ?_)
  obtain ⟨hr_4612, he_4613⟩ := hq_4610
  subst hr_4612
  rw [he_4613] at hP
  refine nx_imul (a := 8) (b := ct_f (fun k9 => decide (μ.rf k9 = some r0)) μ.n) hx hb de_M_isAsked_14 ?_
  refine lv_bipush (v := nI 63) hx hb de_M_isAsked_15 (by decide) ?_
  refine nx_iadd (a := 8 * (ct_f (fun k9 => decide (μ.rf k9 = some r0)) μ.n)) (b := 63) hx hb de_M_isAsked_17 ?_
  refine lv_bipush (v := nI 64) hx hb de_M_isAsked_18 (by decide) ?_
  refine nx_idiv (a := 8 * (ct_f (fun k9 => decide (μ.rf k9 = some r0)) μ.n) + 63) (b := 64) hx hb (by omega) (by omega) (by omega) de_M_isAsked_20 ?_
  refine lv_bipush (v := nI 64) hx hb de_M_isAsked_21 (by decide) ?_
  refine nx_imul (a := (8 * (ct_f (fun k9 => decide (μ.rf k9 = some r0)) μ.n) + 63) / 64) (b := 64) hx hb de_M_isAsked_23 ?_
  rw [show (8 * (ct_f (fun k9 => decide (μ.rf k9 = some r0)) μ.n) + 63) / 64 * 64 = N9 from hN9.symm]
  refine lv_istore (lv' := [(5, .int (nI N9)), (4, .int (-1)), (3, .int (nI 1024)), (0, .ref h), (1, .int (nI r0)), (2, .int (nI k))]) hx hb de_M_isAsked_24 hl (by decide) rfl (fun ls hl => ?_)
  refine lv_iconst (v := nI 0) hx hb de_M_isAsked_26 (by decide) ?_
  refine lv_istore (lv' := [(6, .int (nI 0)), (5, .int (nI N9)), (4, .int (-1)), (3, .int (nI 1024)), (0, .ref h), (1, .int (nI r0)), (2, .int (nI k))]) hx hb de_M_isAsked_27 hl (by decide) rfl (fun ls hl => ?_)
  have lp : ∀ (zk : Nat) (i : Nat), N9 - i < zk → (i ≤ N9) → ∀ (H : Heap) (locs : List Loc) (v : dk_H), (md_at G v h D (μ.bt' (fun b => if b < i then false else μ.bt b))) → (dk_fr md_T w v) → dk_P G v H → dk_S G s.heap H locs → ∀ (ls : Array Slot), lv_has ls 7 [(0, .ref h), (1, .int (nI r0)), (2, .int (nI k)), (3, .int (nI 1024)), (4, .int (rI none)), (5, .int (nI N9)), (6, .int (nI i))] → W p l e rm_M_isAsked s m args below meth c H locs (0 + 0) (0 + 0) Q (F0 m 29 ls []) := by
    intro zk
    induction zk with
    | zero =>
      intro i hk
      exact absurd hk (by omega)
    | succ zk ih =>
      intro i hk hi
      intro H locs v hmv hg hP hS
      intro ls hl
      have hh_4614 : v h = some (100, .inr (cx_M, [.int (nI μ.er), .int (nI μ.n), .int (nI μ.sq), .int (nI μ.sf), .int (nI μ.rs), .int (rI μ.ba), .int (nI μ.pr), .int (nI μ.mi), .ref D.kf, .ref D.nf, .ref D.rf, .ref D.lf, .ref D.sv, .ref D.bk, .ref D.od, .ref D.vf, .ref D.bv, .ref D.df, .ref D.ss, .ref D.bd, .ref D.ks, .ref D.bt])) := hmv.o
      have ha_4615 : v D.kf = some (101, dk_ci G 700 (fun i9 => nI (μ.kf i9))) := hmv.kf
      have ha_4616 : v D.nf = some (102, dk_ci G 700 (fun i9 => nI (μ.nf i9))) := hmv.nf
      have ha_4617 : v D.rf = some (103, dk_ci G 700 (fun i9 => rI (μ.rf i9))) := hmv.rf
      have ha_4618 : v D.lf = some (104, dk_ci G 5000 (fun i9 => rI (μ.lf i9))) := hmv.lf
      have ha_4619 : v D.sv = some (105, dk_ci G 6 (fun i9 => nI (μ.sv i9))) := hmv.sv
      have ha_4620 : v D.bk = some (106, dk_ci G 16 (fun i9 => nI (μ.bk i9))) := hmv.bk
      have ha_4621 : v D.od = some (107, dk_ci G 700 (fun i9 => nI (μ.od i9))) := hmv.od
      have ha_4622 : v D.vf = some (108, dk_cl G 700 (fun i9 => μ.vf i9)) := hmv.vf
      have ha_4623 : v D.bv = some (109, dk_cl G 16 (fun i9 => μ.bv i9)) := hmv.bv
      have ha_4624 : v D.df = some (110, dk_cz G 700 (fun i9 => bo_i (μ.df i9))) := hmv.df
      have ha_4625 : v D.ss = some (111, dk_cz G 6 (fun i9 => bo_i (μ.ss i9))) := hmv.ss
      have ha_4626 : v D.bd = some (112, dk_cz G 16 (fun i9 => bo_i (μ.bd i9))) := hmv.bd
      have ha_4627 : v D.ks = some (113, dk_cz G 700 (fun i9 => bo_i (μ.ks i9))) := hmv.ks
      have ha_4628 : v D.bt = some (114, dk_cz G 6000 (fun i9 => bo_i ((fun b => if b < i then false else μ.bt b) i9))) := hmv.bt
      refine lv_iload hx hb de_M_isAsked_29 (lv_at hl 6 rfl) ?_
      refine lv_iload hx hb de_M_isAsked_31 (lv_at hl 5 rfl) ?_
      refine nx_icmp_ge (a := i) (b := N9) (tgt := 50) hx hb (by omega) (by omega) de_M_isAsked_33 (by decide) (fun c_4629 => ?_) (fun c_4629 => ?_)
      · have e9 : i = N9 := by omega
        refine lv_iconst (v := nI 0) hx hb de_M_isAsked_50 (by decide) ?_
        refine lv_istore (lv' := [(6, .int (nI 0)), (0, .ref h), (1, .int (nI r0)), (2, .int (nI k)), (3, .int (nI 1024)), (4, .int (rI none)), (5, .int (nI N9))]) hx hb de_M_isAsked_51 hl (by decide) rfl (fun ls hl => ?_)
        have lp2 : ∀ (zk2 : Nat) (j : Nat), μ.n - j < zk2 → (j ≤ μ.n) → ∀ (H : Heap) (locs : List Loc) (v2 : dk_H), (md_at G v2 h D (μ.bt' (bs_B μ r0 N9 j))) → (dk_fr md_T w v2) → dk_P G v2 H → dk_S G s.heap H locs → ∀ (ls : Array Slot), lv_has ls 7 [(0, .ref h), (1, .int (nI r0)), (2, .int (nI k)), (3, .int (nI (as_l μ r0 j))), (4, .int (rI (as_m μ r0 j))), (5, .int (nI N9)), (6, .int (nI j))] → W p l e rm_M_isAsked s m args below meth c H locs (0 + 0) (0 + 0) Q (F0 m 53 ls []) := by
          intro zk2
          induction zk2 with
          | zero =>
            intro j hk
            exact absurd hk (by omega)
          | succ zk2 ih2 =>
            intro j hk hj
            intro H locs v2 hmv2 hg2 hP hS
            intro ls hl
            have hh_4648 : v2 h = some (100, .inr (cx_M, [.int (nI μ.er), .int (nI μ.n), .int (nI μ.sq), .int (nI μ.sf), .int (nI μ.rs), .int (rI μ.ba), .int (nI μ.pr), .int (nI μ.mi), .ref D.kf, .ref D.nf, .ref D.rf, .ref D.lf, .ref D.sv, .ref D.bk, .ref D.od, .ref D.vf, .ref D.bv, .ref D.df, .ref D.ss, .ref D.bd, .ref D.ks, .ref D.bt])) := hmv2.o
            have ha_4649 : v2 D.kf = some (101, dk_ci G 700 (fun i9 => nI (μ.kf i9))) := hmv2.kf
            have ha_4650 : v2 D.nf = some (102, dk_ci G 700 (fun i9 => nI (μ.nf i9))) := hmv2.nf
            have ha_4651 : v2 D.rf = some (103, dk_ci G 700 (fun i9 => rI (μ.rf i9))) := hmv2.rf
            have ha_4652 : v2 D.lf = some (104, dk_ci G 5000 (fun i9 => rI (μ.lf i9))) := hmv2.lf
            have ha_4653 : v2 D.sv = some (105, dk_ci G 6 (fun i9 => nI (μ.sv i9))) := hmv2.sv
            have ha_4654 : v2 D.bk = some (106, dk_ci G 16 (fun i9 => nI (μ.bk i9))) := hmv2.bk
            have ha_4655 : v2 D.od = some (107, dk_ci G 700 (fun i9 => nI (μ.od i9))) := hmv2.od
            have ha_4656 : v2 D.vf = some (108, dk_cl G 700 (fun i9 => μ.vf i9)) := hmv2.vf
            have ha_4657 : v2 D.bv = some (109, dk_cl G 16 (fun i9 => μ.bv i9)) := hmv2.bv
            have ha_4658 : v2 D.df = some (110, dk_cz G 700 (fun i9 => bo_i (μ.df i9))) := hmv2.df
            have ha_4659 : v2 D.ss = some (111, dk_cz G 6 (fun i9 => bo_i (μ.ss i9))) := hmv2.ss
            have ha_4660 : v2 D.bd = some (112, dk_cz G 16 (fun i9 => bo_i (μ.bd i9))) := hmv2.bd
            have ha_4661 : v2 D.ks = some (113, dk_cz G 700 (fun i9 => bo_i (μ.ks i9))) := hmv2.ks
            have ha_4662 : v2 D.bt = some (114, dk_cz G 6000 (fun i9 => bo_i ((bs_B μ r0 N9 j) i9))) := hmv2.bt
            have hreq := rI_eq (a := μ.rf j) (b := some r0) (fun r hr => by have := ok3 j r hr; omega) (fun r hr => by cases hr; omega)
            have b1 := ok1 j
            have hal := as_l_le μ r0 j
            have ham := as_m_lt ok1 r0 j
            refine lv_iload hx hb de_M_isAsked_53 (lv_at hl 6 rfl) ?_
            refine lv_aload_n hx hb de_M_isAsked_55 rfl (lv_at hl 0 rfl) ?_
            refine dk_get (a := h) (v := .int (nI μ.n)) (C := kn_M) (T := kt_M) (N := 22) hx hb hts ki_M hown hK hP hh_4648 rfl 1 (by decide) (hts _ wi_715) (fun _ h9 => h9) rfl de_M_isAsked_56 ?_
            refine nx_icmp_ge (a := j) (b := μ.n) (tgt := 185) hx hb (by omega) (by omega) de_M_isAsked_59 (by decide) (fun c_4663 => ?_) (fun c_4663 => ?_)
            · have e8 : j = μ.n := by omega
              refine lv_iload_n hx hb de_M_isAsked_185 rfl (lv_at hl 2 rfl) ?_
              refine lv_iload_n hx hb de_M_isAsked_186 rfl (lv_at hl 3 rfl) ?_
              refine lv_iload hx hb de_M_isAsked_187 (lv_at hl 4 rfl) ?_
              refine dk_calli (va_runS (As := [.int (nI k), .int (nI (as_l μ r0 j)), .int (rI (as_m μ r0 j))]) (rest := []) ⟨hx, hb, hml, hown, hts⟩ (c_M_in l G v2 (nI k) (nI (as_l μ r0 j)) (rI (as_m μ r0 j))) (va_cwS 3 hts (wd_gS wi_795 wi_793 wi_794 wi_8) rfl rfl rfl (by decide +kernel) ⟨Nat.le_of_ble_eq_true rfl, Nat.le_of_ble_eq_true rfl⟩) (dk_preS hE hP hS) rfl rfl hl.1 rfl (lv_room (Nat.le_of_ble_eq_true rfl)) de_M_isAsked_189 ⟨(by first | exact Nat.le_of_ble_eq_true rfl | (simp only [Nat.zero_add]; omega) | omega), (by first | exact Nat.le_of_ble_eq_true rfl | (simp only [Nat.zero_add]; omega) | omega)⟩) hS (fun r_4666 w_4664 H locs hq_4665 hP hS => ?_)
              obtain ⟨hr_4667, he_4668⟩ := hq_4665
              subst hr_4667
              rw [he_4668] at hP
              refine bo_if_eq (b := (im_b (nI k) (nI (as_l μ r0 j)) (rI (as_m μ r0 j)))) (tgt := 250) hx hb de_M_isAsked_192 (by decide) (fun c_4669 => ?_) (fun c_4669 => ?_)
              · refine lv_iconst (v := nI 0) hx hb de_M_isAsked_250 (by decide) ?_
                exact dk_zret hQ hx hb hr hlocks hP hS (Nat.le_refl _) (Nat.le_refl _) (by decide +kernel) (⟨bo_of0 (by rw [am_b, ← e8, ← hN9, c_4669]; simp), ⟨_, hmv2⟩, hg2⟩) de_M_isAsked_251
              · refine lv_aload_n hx hb de_M_isAsked_195 rfl (lv_at hl 0 rfl) ?_
                refine dk_get (a := h) (v := .ref D.bt) (C := kn_M) (T := kt_M) (N := 22) hx hb hts ki_M hown hK hP hh_4648 rfl 21 (by decide) (hts _ wi_735) (fun _ h9 => h9) rfl de_M_isAsked_196 ?_
                refine lv_iload_n hx hb de_M_isAsked_199 rfl (lv_at hl 2 rfl) ?_
                refine lv_ldc2 (v := fa_L 0) hx hb hown (hts _ wi_893) de_M_isAsked_200 ?_
                refine lv_iload hx hb de_M_isAsked_203 (lv_at hl 5 rfl) ?_
                refine dk_calli (va_runS (As := [.int (nI k), .long (fa_L 0), .int (nI N9)]) (rest := [.ref D.bt]) ⟨hx, hb, hml, hown, hts⟩ (c_M_bit l G v2 k 0 N9 (by decide) hNp.1 (by omega)) (va_cwS 3 hts (wd_gS wi_896 wi_894 wi_895 wi_8) rfl rfl rfl (by decide +kernel) ⟨Nat.le_of_ble_eq_true rfl, Nat.le_of_ble_eq_true rfl⟩) (dk_preS hE hP hS) rfl rfl hl.1 rfl (lv_room (Nat.le_of_ble_eq_true rfl)) de_M_isAsked_205 ⟨(by first | exact Nat.le_of_ble_eq_true rfl | (simp only [Nat.zero_add]; omega) | omega), (by first | exact Nat.le_of_ble_eq_true rfl | (simp only [Nat.zero_add]; omega) | omega)⟩) hS (fun r_4672 w_4670 H locs hq_4671 hP hS => ?_)
                obtain ⟨hr_4673, he_4674⟩ := hq_4671
                subst hr_4673
                rw [he_4674] at hP
                have hm0 := Nat.mod_lt (hv_k k 0) hNp.1
                refine dk_zald (a := D.bt) hx hb hK hP ha_4662 (hv_k k 0 % N9) rfl (by omega) (by omega) de_M_isAsked_208 ?_
                rw [bs_in (μ := μ) (r := r0) (i := j) hm0]
                refine bo_if_eq (b := (bs_f μ r0 N9 j (hv_k k 0 % N9))) (tgt := 250) hx hb de_M_isAsked_209 (by decide) (fun c_4675 => ?_) (fun c_4675 => ?_)
                · refine lv_iconst (v := nI 0) hx hb de_M_isAsked_250 (by decide) ?_
                  exact dk_zret hQ hx hb hr hlocks hP hS (Nat.le_refl _) (Nat.le_refl _) (by decide +kernel) (⟨bo_of0 (by rw [am_b, ← e8, ← hN9, c_4675]; simp), ⟨_, hmv2⟩, hg2⟩) de_M_isAsked_251
                · refine lv_aload_n hx hb de_M_isAsked_212 rfl (lv_at hl 0 rfl) ?_
                  refine dk_get (a := h) (v := .ref D.bt) (C := kn_M) (T := kt_M) (N := 22) hx hb hts ki_M hown hK hP hh_4648 rfl 21 (by decide) (hts _ wi_735) (fun _ h9 => h9) rfl de_M_isAsked_213 ?_
                  refine lv_iload_n hx hb de_M_isAsked_216 rfl (lv_at hl 2 rfl) ?_
                  refine lv_ldc2 (v := fa_L 1) hx hb hown (hts _ wi_897) de_M_isAsked_217 ?_
                  refine lv_iload hx hb de_M_isAsked_220 (lv_at hl 5 rfl) ?_
                  refine dk_calli (va_runS (As := [.int (nI k), .long (fa_L 1), .int (nI N9)]) (rest := [.ref D.bt]) ⟨hx, hb, hml, hown, hts⟩ (c_M_bit l G v2 k 1 N9 (by decide) hNp.1 (by omega)) (va_cwS 3 hts (wd_gS wi_896 wi_894 wi_895 wi_8) rfl rfl rfl (by decide +kernel) ⟨Nat.le_of_ble_eq_true rfl, Nat.le_of_ble_eq_true rfl⟩) (dk_preS hE hP hS) rfl rfl hl.1 rfl (lv_room (Nat.le_of_ble_eq_true rfl)) de_M_isAsked_222 ⟨(by first | exact Nat.le_of_ble_eq_true rfl | (simp only [Nat.zero_add]; omega) | omega), (by first | exact Nat.le_of_ble_eq_true rfl | (simp only [Nat.zero_add]; omega) | omega)⟩) hS (fun r_4678 w_4676 H locs hq_4677 hP hS => ?_)
                  obtain ⟨hr_4679, he_4680⟩ := hq_4677
                  subst hr_4679
                  rw [he_4680] at hP
                  have hm1 := Nat.mod_lt (hv_k k 1) hNp.1
                  refine dk_zald (a := D.bt) hx hb hK hP ha_4662 (hv_k k 1 % N9) rfl (by omega) (by omega) de_M_isAsked_225 ?_
                  rw [bs_in (μ := μ) (r := r0) (i := j) hm1]
                  refine bo_if_eq (b := (bs_f μ r0 N9 j (hv_k k 1 % N9))) (tgt := 250) hx hb de_M_isAsked_226 (by decide) (fun c_4681 => ?_) (fun c_4681 => ?_)
                  · refine lv_iconst (v := nI 0) hx hb de_M_isAsked_250 (by decide) ?_
                    exact dk_zret hQ hx hb hr hlocks hP hS (Nat.le_refl _) (Nat.le_refl _) (by decide +kernel) (⟨bo_of0 (by rw [am_b, ← e8, ← hN9, c_4681]; simp), ⟨_, hmv2⟩, hg2⟩) de_M_isAsked_251
                  · refine lv_aload_n hx hb de_M_isAsked_229 rfl (lv_at hl 0 rfl) ?_
                    refine dk_get (a := h) (v := .ref D.bt) (C := kn_M) (T := kt_M) (N := 22) hx hb hts ki_M hown hK hP hh_4648 rfl 21 (by decide) (hts _ wi_735) (fun _ h9 => h9) rfl de_M_isAsked_230 ?_
                    refine lv_iload_n hx hb de_M_isAsked_233 rfl (lv_at hl 2 rfl) ?_
                    refine lv_ldc2 (v := fa_L 2) hx hb hown (hts _ wi_898) de_M_isAsked_234 ?_
                    refine lv_iload hx hb de_M_isAsked_237 (lv_at hl 5 rfl) ?_
                    refine dk_calli (va_runS (As := [.int (nI k), .long (fa_L 2), .int (nI N9)]) (rest := [.ref D.bt]) ⟨hx, hb, hml, hown, hts⟩ (c_M_bit l G v2 k 2 N9 (by decide) hNp.1 (by omega)) (va_cwS 3 hts (wd_gS wi_896 wi_894 wi_895 wi_8) rfl rfl rfl (by decide +kernel) ⟨Nat.le_of_ble_eq_true rfl, Nat.le_of_ble_eq_true rfl⟩) (dk_preS hE hP hS) rfl rfl hl.1 rfl (lv_room (Nat.le_of_ble_eq_true rfl)) de_M_isAsked_239 ⟨(by first | exact Nat.le_of_ble_eq_true rfl | (simp only [Nat.zero_add]; omega) | omega), (by first | exact Nat.le_of_ble_eq_true rfl | (simp only [Nat.zero_add]; omega) | omega)⟩) hS (fun r_4684 w_4682 H locs hq_4683 hP hS => ?_)
                    obtain ⟨hr_4685, he_4686⟩ := hq_4683
                    subst hr_4685
                    rw [he_4686] at hP
                    have hm2 := Nat.mod_lt (hv_k k 2) hNp.1
                    refine dk_zald (a := D.bt) hx hb hK hP ha_4662 (hv_k k 2 % N9) rfl (by omega) (by omega) de_M_isAsked_242 ?_
                    rw [bs_in (μ := μ) (r := r0) (i := j) hm2]
                    refine bo_if_eq (b := (bs_f μ r0 N9 j (hv_k k 2 % N9))) (tgt := 250) hx hb de_M_isAsked_243 (by decide) (fun c_4687 => ?_) (fun c_4687 => ?_)
                    · refine lv_iconst (v := nI 0) hx hb de_M_isAsked_250 (by decide) ?_
                      exact dk_zret hQ hx hb hr hlocks hP hS (Nat.le_refl _) (Nat.le_refl _) (by decide +kernel) (⟨bo_of0 (by rw [am_b, ← e8, ← hN9, c_4687]; simp), ⟨_, hmv2⟩, hg2⟩) de_M_isAsked_251
                    · refine lv_iconst (v := nI 1) hx hb de_M_isAsked_246 (by decide) ?_
                      refine lv_goto (tgt := 251) hx hb de_M_isAsked_247 (by decide) ?_
                      exact dk_zret hQ hx hb hr hlocks hP hS (Nat.le_refl _) (Nat.le_refl _) (by decide +kernel) (⟨bo_of1 (by rw [am_b, ← e8, ← hN9, c_4669, c_4675, c_4681, c_4687]; rfl), ⟨_, hmv2⟩, hg2⟩) de_M_isAsked_251
            · refine lv_aload_n hx hb de_M_isAsked_62 rfl (lv_at hl 0 rfl) ?_
              refine dk_get (a := h) (v := .ref D.rf) (C := kn_M) (T := kt_M) (N := 22) hx hb hts ki_M hown hK hP hh_4648 rfl 10 (by decide) (hts _ wi_724) (fun _ h9 => h9) rfl de_M_isAsked_63 ?_
              refine lv_iload hx hb de_M_isAsked_66 (lv_at hl 6 rfl) ?_
              refine dk_iald (a := D.rf) hx hb hK hP ha_4651 j rfl (by omega) (by omega) de_M_isAsked_68 ?_
              refine lv_iload_n hx hb de_M_isAsked_69 rfl (lv_at hl 1 rfl) ?_
              refine lv_icmp_eq (tgt := 76) hx hb de_M_isAsked_70 (by decide) (fun c_4688 => ?_) (fun c_4688 => ?_)
              · have e7 : μ.rf j = some r0 := hreq.mp c_4688
                refine lv_aload_n hx hb de_M_isAsked_76 rfl (lv_at hl 0 rfl) ?_
                refine dk_get (a := h) (v := .ref D.kf) (C := kn_M) (T := kt_M) (N := 22) hx hb hts ki_M hown hK hP hh_4648 rfl 8 (by decide) (hts _ wi_722) (fun _ h9 => h9) rfl de_M_isAsked_77 ?_
                refine lv_iload hx hb de_M_isAsked_80 (lv_at hl 6 rfl) ?_
                refine dk_iald (a := D.kf) hx hb hK hP ha_4649 j rfl (by omega) (by omega) de_M_isAsked_82 ?_
                refine lv_iload_n hx hb de_M_isAsked_83 rfl (lv_at hl 3 rfl) ?_
                refine nx_icmp_ge (a := μ.kf j) (b := as_l μ r0 j) (tgt := 95) hx hb (by omega) (by omega) de_M_isAsked_84 (by decide) (fun c_4689 => ?_) (fun c_4689 => ?_)
                · refine lv_aload_n hx hb de_M_isAsked_95 rfl (lv_at hl 0 rfl) ?_
                  refine dk_get (a := h) (v := .ref D.kf) (C := kn_M) (T := kt_M) (N := 22) hx hb hts ki_M hown hK hP hh_4648 rfl 8 (by decide) (hts _ wi_722) (fun _ h9 => h9) rfl de_M_isAsked_96 ?_
                  refine lv_iload hx hb de_M_isAsked_99 (lv_at hl 6 rfl) ?_
                  refine dk_iald (a := D.kf) hx hb hK hP ha_4649 j rfl (by omega) (by omega) de_M_isAsked_101 ?_
                  refine lv_iload hx hb de_M_isAsked_102 (lv_at hl 4 rfl) ?_
                  refine lv_icmp_le (tgt := 116) hx hb de_M_isAsked_104 (by decide) (fun c_4690 => ?_) (fun c_4690 => ?_)
                  · refine lv_aload_n hx hb de_M_isAsked_116 rfl (lv_at hl 0 rfl) ?_
                    refine dk_get (a := h) (v := .ref D.bt) (C := kn_M) (T := kt_M) (N := 22) hx hb hts ki_M hown hK hP hh_4648 rfl 21 (by decide) (hts _ wi_735) (fun _ h9 => h9) rfl de_M_isAsked_117 ?_
                    refine lv_aload_n hx hb de_M_isAsked_120 rfl (lv_at hl 0 rfl) ?_
                    refine dk_get (a := h) (v := .ref D.kf) (C := kn_M) (T := kt_M) (N := 22) hx hb hts ki_M hown hK hP hh_4648 rfl 8 (by decide) (hts _ wi_722) (fun _ h9 => h9) rfl de_M_isAsked_121 ?_
                    refine lv_iload hx hb de_M_isAsked_124 (lv_at hl 6 rfl) ?_
                    refine dk_iald (a := D.kf) hx hb hK hP ha_4649 j rfl (by omega) (by omega) de_M_isAsked_126 ?_
                    refine lv_ldc2 (v := fa_L 0) hx hb hown (hts _ wi_893) de_M_isAsked_127 ?_
                    refine lv_iload hx hb de_M_isAsked_130 (lv_at hl 5 rfl) ?_
                    refine dk_calli (va_runS (As := [.int (nI (μ.kf j)), .long (fa_L 0), .int (nI N9)]) (rest := [.ref D.bt]) ⟨hx, hb, hml, hown, hts⟩ (c_M_bit l G v2 (μ.kf j) 0 N9 (by decide) hNp.1 (by omega)) (va_cwS 3 hts (wd_gS wi_896 wi_894 wi_895 wi_8) rfl rfl rfl (by decide +kernel) ⟨Nat.le_of_ble_eq_true rfl, Nat.le_of_ble_eq_true rfl⟩) (dk_preS hE hP hS) rfl rfl hl.1 rfl (lv_room (Nat.le_of_ble_eq_true rfl)) de_M_isAsked_132 ⟨(by first | exact Nat.le_of_ble_eq_true rfl | (simp only [Nat.zero_add]; omega) | omega), (by first | exact Nat.le_of_ble_eq_true rfl | (simp only [Nat.zero_add]; omega) | omega)⟩) hS (fun r_4693 w_4691 H locs hq_4692 hP hS => ?_)
                    obtain ⟨hr_4694, he_4695⟩ := hq_4692
                    subst hr_4694
                    rw [he_4695] at hP
                    have hm0 := Nat.mod_lt (hv_k (μ.kf j) 0) hNp.1
                    refine lv_iconst (v := nI 1) hx hb de_M_isAsked_135 (by decide) ?_
                    refine dk_zast (a := D.bt) (x := (bo_i true)) hx hb hK hP hS ha_4662 (hv_k (μ.kf j) 0 % N9) rfl (by omega) (by omega) (bo_vn true) de_M_isAsked_136 (fun H locs w_4696 hw_4697 hP hS => ?_)
                    rw [up_bo] at hw_4697
                    have h_4698 : w_4696 D.bt = some (114, dk_cz G 6000 (fun i9 => bo_i ((va_up (bs_B μ r0 N9 j) (hv_k (μ.kf j) 0 % N9) true) i9))) := dk_here hw_4697
                    have h_4699 : w_4696 h = some (100, .inr (cx_M, [.int (nI μ.er), .int (nI μ.n), .int (nI μ.sq), .int (nI μ.sf), .int (nI μ.rs), .int (rI μ.ba), .int (nI μ.pr), .int (nI μ.mi), .ref D.kf, .ref D.nf, .ref D.rf, .ref D.lf, .ref D.sv, .ref D.bk, .ref D.od, .ref D.vf, .ref D.bv, .ref D.df, .ref D.ss, .ref D.bd, .ref D.ks, .ref D.bt])) := dk_keep hw_4697 ha_4662 hh_4648 (by decide)
                    have h_4700 : w_4696 D.kf = some (101, dk_ci G 700 (fun i9 => nI (μ.kf i9))) := dk_keep hw_4697 ha_4662 ha_4649 (by decide)
                    have h_4701 : w_4696 D.nf = some (102, dk_ci G 700 (fun i9 => nI (μ.nf i9))) := dk_keep hw_4697 ha_4662 ha_4650 (by decide)
                    have h_4702 : w_4696 D.rf = some (103, dk_ci G 700 (fun i9 => rI (μ.rf i9))) := dk_keep hw_4697 ha_4662 ha_4651 (by decide)
                    have h_4703 : w_4696 D.lf = some (104, dk_ci G 5000 (fun i9 => rI (μ.lf i9))) := dk_keep hw_4697 ha_4662 ha_4652 (by decide)
                    have h_4704 : w_4696 D.sv = some (105, dk_ci G 6 (fun i9 => nI (μ.sv i9))) := dk_keep hw_4697 ha_4662 ha_4653 (by decide)
                    have h_4705 : w_4696 D.bk = some (106, dk_ci G 16 (fun i9 => nI (μ.bk i9))) := dk_keep hw_4697 ha_4662 ha_4654 (by decide)
                    have h_4706 : w_4696 D.od = some (107, dk_ci G 700 (fun i9 => nI (μ.od i9))) := dk_keep hw_4697 ha_4662 ha_4655 (by decide)
                    have h_4707 : w_4696 D.vf = some (108, dk_cl G 700 (fun i9 => μ.vf i9)) := dk_keep hw_4697 ha_4662 ha_4656 (by decide)
                    have h_4708 : w_4696 D.bv = some (109, dk_cl G 16 (fun i9 => μ.bv i9)) := dk_keep hw_4697 ha_4662 ha_4657 (by decide)
                    have h_4709 : w_4696 D.df = some (110, dk_cz G 700 (fun i9 => bo_i (μ.df i9))) := dk_keep hw_4697 ha_4662 ha_4658 (by decide)
                    have h_4710 : w_4696 D.ss = some (111, dk_cz G 6 (fun i9 => bo_i (μ.ss i9))) := dk_keep hw_4697 ha_4662 ha_4659 (by decide)
                    have h_4711 : w_4696 D.bd = some (112, dk_cz G 16 (fun i9 => bo_i (μ.bd i9))) := dk_keep hw_4697 ha_4662 ha_4660 (by decide)
                    have h_4712 : w_4696 D.ks = some (113, dk_cz G 700 (fun i9 => bo_i (μ.ks i9))) := dk_keep hw_4697 ha_4662 ha_4661 (by decide)
                    refine lv_aload_n hx hb de_M_isAsked_137 rfl (lv_at hl 0 rfl) ?_
                    refine dk_get (a := h) (v := .ref D.bt) (C := kn_M) (T := kt_M) (N := 22) hx hb hts ki_M hown hK hP h_4699 rfl 21 (by decide) (hts _ wi_735) (fun _ h9 => h9) rfl de_M_isAsked_138 ?_
                    refine lv_aload_n hx hb de_M_isAsked_141 rfl (lv_at hl 0 rfl) ?_
                    refine dk_get (a := h) (v := .ref D.kf) (C := kn_M) (T := kt_M) (N := 22) hx hb hts ki_M hown hK hP h_4699 rfl 8 (by decide) (hts _ wi_722) (fun _ h9 => h9) rfl de_M_isAsked_142 ?_
                    refine lv_iload hx hb de_M_isAsked_145 (lv_at hl 6 rfl) ?_
                    refine dk_iald (a := D.kf) hx hb hK hP h_4700 j rfl (by omega) (by omega) de_M_isAsked_147 ?_
                    refine lv_ldc2 (v := fa_L 1) hx hb hown (hts _ wi_897) de_M_isAsked_148 ?_
                    refine lv_iload hx hb de_M_isAsked_151 (lv_at hl 5 rfl) ?_
                    refine dk_calli (va_runS (As := [.int (nI (μ.kf j)), .long (fa_L 1), .int (nI N9)]) (rest := [.ref D.bt]) ⟨hx, hb, hml, hown, hts⟩ (c_M_bit l G w_4696 (μ.kf j) 1 N9 (by decide) hNp.1 (by omega)) (va_cwS 3 hts (wd_gS wi_896 wi_894 wi_895 wi_8) rfl rfl rfl (by decide +kernel) ⟨Nat.le_of_ble_eq_true rfl, Nat.le_of_ble_eq_true rfl⟩) (dk_preS hE hP hS) rfl rfl hl.1 rfl (lv_room (Nat.le_of_ble_eq_true rfl)) de_M_isAsked_153 ⟨(by first | exact Nat.le_of_ble_eq_true rfl | (simp only [Nat.zero_add]; omega) | omega), (by first | exact Nat.le_of_ble_eq_true rfl | (simp only [Nat.zero_add]; omega) | omega)⟩) hS (fun r_4715 w_4713 H locs hq_4714 hP hS => ?_)
                    obtain ⟨hr_4716, he_4717⟩ := hq_4714
                    subst hr_4716
                    rw [he_4717] at hP
                    have hm1 := Nat.mod_lt (hv_k (μ.kf j) 1) hNp.1
                    refine lv_iconst (v := nI 1) hx hb de_M_isAsked_156 (by decide) ?_
                    refine dk_zast (a := D.bt) (x := (bo_i true)) hx hb hK hP hS h_4698 (hv_k (μ.kf j) 1 % N9) rfl (by omega) (by omega) (bo_vn true) de_M_isAsked_157 (fun H locs w_4718 hw_4719 hP hS => ?_)
                    rw [up_bo] at hw_4719
                    have h_4720 : w_4718 D.bt = some (114, dk_cz G 6000 (fun i9 => bo_i ((va_up (va_up (bs_B μ r0 N9 j) (hv_k (μ.kf j) 0 % N9) true) (hv_k (μ.kf j) 1 % N9) true) i9))) := dk_here hw_4719
                    have h_4721 : w_4718 h = some (100, .inr (cx_M, [.int (nI μ.er), .int (nI μ.n), .int (nI μ.sq), .int (nI μ.sf), .int (nI μ.rs), .int (rI μ.ba), .int (nI μ.pr), .int (nI μ.mi), .ref D.kf, .ref D.nf, .ref D.rf, .ref D.lf, .ref D.sv, .ref D.bk, .ref D.od, .ref D.vf, .ref D.bv, .ref D.df, .ref D.ss, .ref D.bd, .ref D.ks, .ref D.bt])) := dk_keep hw_4719 h_4698 h_4699 (by decide)
                    have h_4722 : w_4718 D.kf = some (101, dk_ci G 700 (fun i9 => nI (μ.kf i9))) := dk_keep hw_4719 h_4698 h_4700 (by decide)
                    have h_4723 : w_4718 D.nf = some (102, dk_ci G 700 (fun i9 => nI (μ.nf i9))) := dk_keep hw_4719 h_4698 h_4701 (by decide)
                    have h_4724 : w_4718 D.rf = some (103, dk_ci G 700 (fun i9 => rI (μ.rf i9))) := dk_keep hw_4719 h_4698 h_4702 (by decide)
                    have h_4725 : w_4718 D.lf = some (104, dk_ci G 5000 (fun i9 => rI (μ.lf i9))) := dk_keep hw_4719 h_4698 h_4703 (by decide)
                    have h_4726 : w_4718 D.sv = some (105, dk_ci G 6 (fun i9 => nI (μ.sv i9))) := dk_keep hw_4719 h_4698 h_4704 (by decide)
                    have h_4727 : w_4718 D.bk = some (106, dk_ci G 16 (fun i9 => nI (μ.bk i9))) := dk_keep hw_4719 h_4698 h_4705 (by decide)
                    have h_4728 : w_4718 D.od = some (107, dk_ci G 700 (fun i9 => nI (μ.od i9))) := dk_keep hw_4719 h_4698 h_4706 (by decide)
                    have h_4729 : w_4718 D.vf = some (108, dk_cl G 700 (fun i9 => μ.vf i9)) := dk_keep hw_4719 h_4698 h_4707 (by decide)
                    have h_4730 : w_4718 D.bv = some (109, dk_cl G 16 (fun i9 => μ.bv i9)) := dk_keep hw_4719 h_4698 h_4708 (by decide)
                    have h_4731 : w_4718 D.df = some (110, dk_cz G 700 (fun i9 => bo_i (μ.df i9))) := dk_keep hw_4719 h_4698 h_4709 (by decide)
                    have h_4732 : w_4718 D.ss = some (111, dk_cz G 6 (fun i9 => bo_i (μ.ss i9))) := dk_keep hw_4719 h_4698 h_4710 (by decide)
                    have h_4733 : w_4718 D.bd = some (112, dk_cz G 16 (fun i9 => bo_i (μ.bd i9))) := dk_keep hw_4719 h_4698 h_4711 (by decide)
                    have h_4734 : w_4718 D.ks = some (113, dk_cz G 700 (fun i9 => bo_i (μ.ks i9))) := dk_keep hw_4719 h_4698 h_4712 (by decide)
                    refine lv_aload_n hx hb de_M_isAsked_158 rfl (lv_at hl 0 rfl) ?_
                    refine dk_get (a := h) (v := .ref D.bt) (C := kn_M) (T := kt_M) (N := 22) hx hb hts ki_M hown hK hP h_4721 rfl 21 (by decide) (hts _ wi_735) (fun _ h9 => h9) rfl de_M_isAsked_159 ?_
                    refine lv_aload_n hx hb de_M_isAsked_162 rfl (lv_at hl 0 rfl) ?_
                    refine dk_get (a := h) (v := .ref D.kf) (C := kn_M) (T := kt_M) (N := 22) hx hb hts ki_M hown hK hP h_4721 rfl 8 (by decide) (hts _ wi_722) (fun _ h9 => h9) rfl de_M_isAsked_163 ?_
                    refine lv_iload hx hb de_M_isAsked_166 (lv_at hl 6 rfl) ?_
                    refine dk_iald (a := D.kf) hx hb hK hP h_4722 j rfl (by omega) (by omega) de_M_isAsked_168 ?_
                    refine lv_ldc2 (v := fa_L 2) hx hb hown (hts _ wi_898) de_M_isAsked_169 ?_
                    refine lv_iload hx hb de_M_isAsked_172 (lv_at hl 5 rfl) ?_
                    refine dk_calli (va_runS (As := [.int (nI (μ.kf j)), .long (fa_L 2), .int (nI N9)]) (rest := [.ref D.bt]) ⟨hx, hb, hml, hown, hts⟩ (c_M_bit l G w_4718 (μ.kf j) 2 N9 (by decide) hNp.1 (by omega)) (va_cwS 3 hts (wd_gS wi_896 wi_894 wi_895 wi_8) rfl rfl rfl (by decide +kernel) ⟨Nat.le_of_ble_eq_true rfl, Nat.le_of_ble_eq_true rfl⟩) (dk_preS hE hP hS) rfl rfl hl.1 rfl (lv_room (Nat.le_of_ble_eq_true rfl)) de_M_isAsked_174 ⟨(by first | exact Nat.le_of_ble_eq_true rfl | (simp only [Nat.zero_add]; omega) | omega), (by first | exact Nat.le_of_ble_eq_true rfl | (simp only [Nat.zero_add]; omega) | omega)⟩) hS (fun r_4737 w_4735 H locs hq_4736 hP hS => ?_)
                    obtain ⟨hr_4738, he_4739⟩ := hq_4736
                    subst hr_4738
                    rw [he_4739] at hP
                    have hm2 := Nat.mod_lt (hv_k (μ.kf j) 2) hNp.1
                    refine lv_iconst (v := nI 1) hx hb de_M_isAsked_177 (by decide) ?_
                    refine dk_zast (a := D.bt) (x := (bo_i true)) hx hb hK hP hS h_4720 (hv_k (μ.kf j) 2 % N9) rfl (by omega) (by omega) (bo_vn true) de_M_isAsked_178 (fun H locs w_4740 hw_4741 hP hS => ?_)
                    rw [up_bo] at hw_4741
                    have h_4742 : w_4740 D.bt = some (114, dk_cz G 6000 (fun i9 => bo_i ((va_up (va_up (va_up (bs_B μ r0 N9 j) (hv_k (μ.kf j) 0 % N9) true) (hv_k (μ.kf j) 1 % N9) true) (hv_k (μ.kf j) 2 % N9) true) i9))) := dk_here hw_4741
                    have h_4743 : w_4740 h = some (100, .inr (cx_M, [.int (nI μ.er), .int (nI μ.n), .int (nI μ.sq), .int (nI μ.sf), .int (nI μ.rs), .int (rI μ.ba), .int (nI μ.pr), .int (nI μ.mi), .ref D.kf, .ref D.nf, .ref D.rf, .ref D.lf, .ref D.sv, .ref D.bk, .ref D.od, .ref D.vf, .ref D.bv, .ref D.df, .ref D.ss, .ref D.bd, .ref D.ks, .ref D.bt])) := dk_keep hw_4741 h_4720 h_4721 (by decide)
                    have h_4744 : w_4740 D.kf = some (101, dk_ci G 700 (fun i9 => nI (μ.kf i9))) := dk_keep hw_4741 h_4720 h_4722 (by decide)
                    have h_4745 : w_4740 D.nf = some (102, dk_ci G 700 (fun i9 => nI (μ.nf i9))) := dk_keep hw_4741 h_4720 h_4723 (by decide)
                    have h_4746 : w_4740 D.rf = some (103, dk_ci G 700 (fun i9 => rI (μ.rf i9))) := dk_keep hw_4741 h_4720 h_4724 (by decide)
                    have h_4747 : w_4740 D.lf = some (104, dk_ci G 5000 (fun i9 => rI (μ.lf i9))) := dk_keep hw_4741 h_4720 h_4725 (by decide)
                    have h_4748 : w_4740 D.sv = some (105, dk_ci G 6 (fun i9 => nI (μ.sv i9))) := dk_keep hw_4741 h_4720 h_4726 (by decide)
                    have h_4749 : w_4740 D.bk = some (106, dk_ci G 16 (fun i9 => nI (μ.bk i9))) := dk_keep hw_4741 h_4720 h_4727 (by decide)
                    have h_4750 : w_4740 D.od = some (107, dk_ci G 700 (fun i9 => nI (μ.od i9))) := dk_keep hw_4741 h_4720 h_4728 (by decide)
                    have h_4751 : w_4740 D.vf = some (108, dk_cl G 700 (fun i9 => μ.vf i9)) := dk_keep hw_4741 h_4720 h_4729 (by decide)
                    have h_4752 : w_4740 D.bv = some (109, dk_cl G 16 (fun i9 => μ.bv i9)) := dk_keep hw_4741 h_4720 h_4730 (by decide)
                    have h_4753 : w_4740 D.df = some (110, dk_cz G 700 (fun i9 => bo_i (μ.df i9))) := dk_keep hw_4741 h_4720 h_4731 (by decide)
                    have h_4754 : w_4740 D.ss = some (111, dk_cz G 6 (fun i9 => bo_i (μ.ss i9))) := dk_keep hw_4741 h_4720 h_4732 (by decide)
                    have h_4755 : w_4740 D.bd = some (112, dk_cz G 16 (fun i9 => bo_i (μ.bd i9))) := dk_keep hw_4741 h_4720 h_4733 (by decide)
                    have h_4756 : w_4740 D.ks = some (113, dk_cz G 700 (fun i9 => bo_i (μ.ks i9))) := dk_keep hw_4741 h_4720 h_4734 (by decide)
                    have hm_4757 : md_at G w_4740 h D ((μ.bt' (bs_B μ r0 N9 j)).bt' (va_up (va_up (va_up (bs_B μ r0 N9 j) (hv_k (μ.kf j) 0 % N9) true) (hv_k (μ.kf j) 1 % N9) true) (hv_k (μ.kf j) 2 % N9) true)) := ⟨h_4743, h_4744, h_4745, h_4746, h_4747, h_4748, h_4749, h_4750, h_4751, h_4752, h_4753, h_4754, h_4755, h_4756, h_4742⟩
                    refine lv_iinc (v := nI (j + 1)) (lv' := [(6, .int (nI (j + 1))), (0, .ref h), (1, .int (nI r0)), (2, .int (nI k)), (3, .int (nI (as_l μ r0 j))), (4, .int (rI (as_m μ r0 j))), (5, .int (nI N9))]) hx hb de_M_isAsked_179 hl (k := 6) rfl (nx_inc j) (by decide) rfl (fun ls hl => ?_)
                    refine lv_goto (tgt := 53) hx hb de_M_isAsked_182 (by decide) ?_
                    replace hl : lv_has ls 7 [(6, .int (nI (j + 1))), (0, .ref h), (1, .int (nI r0)), (2, .int (nI k)), (3, .int (nI (as_l μ r0 (j + 1)))), (4, .int (rI (as_m μ r0 (j + 1)))), (5, .int (nI N9))] := by rw [as_lk e7 c_4689, as_mk e7 ham c_4690 b1]; exact hl
                    exact ih2 (j + 1) (by omega) (by omega) _ _ _ (by rw [bs_By e7 hm0 hm1 hm2]; exact hm_4757) (hg2.tr ((((dk_fr.rf).tr ((dk_fr.up (T := md_T) ha_4662 (by unfold md_T; omega)).eq hw_4697)).tr ((dk_fr.up (T := md_T) h_4698 (by unfold md_T; omega)).eq hw_4719)).tr ((dk_fr.up (T := md_T) h_4720 (by unfold md_T; omega)).eq hw_4741))) hP hS _ (lv_sub hl [1, 2, 3, 4, 5, 6, 0] rfl)
                  · refine lv_aload_n hx hb de_M_isAsked_107 rfl (lv_at hl 0 rfl) ?_
                    refine dk_get (a := h) (v := .ref D.kf) (C := kn_M) (T := kt_M) (N := 22) hx hb hts ki_M hown hK hP hh_4648 rfl 8 (by decide) (hts _ wi_722) (fun _ h9 => h9) rfl de_M_isAsked_108 ?_
                    refine lv_iload hx hb de_M_isAsked_111 (lv_at hl 6 rfl) ?_
                    refine dk_iald (a := D.kf) hx hb hK hP ha_4649 j rfl (by omega) (by omega) de_M_isAsked_113 ?_
                    refine lv_istore (lv' := [(4, .int (nI (μ.kf j))), (0, .ref h), (1, .int (nI r0)), (2, .int (nI k)), (3, .int (nI (as_l μ r0 j))), (5, .int (nI N9)), (6, .int (nI j))]) hx hb de_M_isAsked_114 hl (by decide) rfl (fun ls hl => ?_)
                    refine lv_aload_n hx hb de_M_isAsked_116 rfl (lv_at hl 1 rfl) ?_
                    refine dk_get (a := h) (v := .ref D.bt) (C := kn_M) (T := kt_M) (N := 22) hx hb hts ki_M hown hK hP hh_4648 rfl 21 (by decide) (hts _ wi_735) (fun _ h9 => h9) rfl de_M_isAsked_117 ?_
                    refine lv_aload_n hx hb de_M_isAsked_120 rfl (lv_at hl 1 rfl) ?_
                    refine dk_get (a := h) (v := .ref D.kf) (C := kn_M) (T := kt_M) (N := 22) hx hb hts ki_M hown hK hP hh_4648 rfl 8 (by decide) (hts _ wi_722) (fun _ h9 => h9) rfl de_M_isAsked_121 ?_
                    refine lv_iload hx hb de_M_isAsked_124 (lv_at hl 6 rfl) ?_
                    refine dk_iald (a := D.kf) hx hb hK hP ha_4649 j rfl (by omega) (by omega) de_M_isAsked_126 ?_
                    refine lv_ldc2 (v := fa_L 0) hx hb hown (hts _ wi_893) de_M_isAsked_127 ?_
                    refine lv_iload hx hb de_M_isAsked_130 (lv_at hl 5 rfl) ?_
                    refine dk_calli (va_runS (As := [.int (nI (μ.kf j)), .long (fa_L 0), .int (nI N9)]) (rest := [.ref D.bt]) ⟨hx, hb, hml, hown, hts⟩ (c_M_bit l G v2 (μ.kf j) 0 N9 (by decide) hNp.1 (by omega)) (va_cwS 3 hts (wd_gS wi_896 wi_894 wi_895 wi_8) rfl rfl rfl (by decide +kernel) ⟨Nat.le_of_ble_eq_true rfl, Nat.le_of_ble_eq_true rfl⟩) (dk_preS hE hP hS) rfl rfl hl.1 rfl (lv_room (Nat.le_of_ble_eq_true rfl)) de_M_isAsked_132 ⟨(by first | exact Nat.le_of_ble_eq_true rfl | (simp only [Nat.zero_add]; omega) | omega), (by first | exact Nat.le_of_ble_eq_true rfl | (simp only [Nat.zero_add]; omega) | omega)⟩) hS (fun r_4760 w_4758 H locs hq_4759 hP hS => ?_)
                    obtain ⟨hr_4761, he_4762⟩ := hq_4759
                    subst hr_4761
                    rw [he_4762] at hP
                    have hm0 := Nat.mod_lt (hv_k (μ.kf j) 0) hNp.1
                    refine lv_iconst (v := nI 1) hx hb de_M_isAsked_135 (by decide) ?_
                    refine dk_zast (a := D.bt) (x := (bo_i true)) hx hb hK hP hS ha_4662 (hv_k (μ.kf j) 0 % N9) rfl (by omega) (by omega) (bo_vn true) de_M_isAsked_136 (fun H locs w_4763 hw_4764 hP hS => ?_)
                    rw [up_bo] at hw_4764
                    have h_4765 : w_4763 D.bt = some (114, dk_cz G 6000 (fun i9 => bo_i ((va_up (bs_B μ r0 N9 j) (hv_k (μ.kf j) 0 % N9) true) i9))) := dk_here hw_4764
                    have h_4766 : w_4763 h = some (100, .inr (cx_M, [.int (nI μ.er), .int (nI μ.n), .int (nI μ.sq), .int (nI μ.sf), .int (nI μ.rs), .int (rI μ.ba), .int (nI μ.pr), .int (nI μ.mi), .ref D.kf, .ref D.nf, .ref D.rf, .ref D.lf, .ref D.sv, .ref D.bk, .ref D.od, .ref D.vf, .ref D.bv, .ref D.df, .ref D.ss, .ref D.bd, .ref D.ks, .ref D.bt])) := dk_keep hw_4764 ha_4662 hh_4648 (by decide)
                    have h_4767 : w_4763 D.kf = some (101, dk_ci G 700 (fun i9 => nI (μ.kf i9))) := dk_keep hw_4764 ha_4662 ha_4649 (by decide)
                    have h_4768 : w_4763 D.nf = some (102, dk_ci G 700 (fun i9 => nI (μ.nf i9))) := dk_keep hw_4764 ha_4662 ha_4650 (by decide)
                    have h_4769 : w_4763 D.rf = some (103, dk_ci G 700 (fun i9 => rI (μ.rf i9))) := dk_keep hw_4764 ha_4662 ha_4651 (by decide)
                    have h_4770 : w_4763 D.lf = some (104, dk_ci G 5000 (fun i9 => rI (μ.lf i9))) := dk_keep hw_4764 ha_4662 ha_4652 (by decide)
                    have h_4771 : w_4763 D.sv = some (105, dk_ci G 6 (fun i9 => nI (μ.sv i9))) := dk_keep hw_4764 ha_4662 ha_4653 (by decide)
                    have h_4772 : w_4763 D.bk = some (106, dk_ci G 16 (fun i9 => nI (μ.bk i9))) := dk_keep hw_4764 ha_4662 ha_4654 (by decide)
                    have h_4773 : w_4763 D.od = some (107, dk_ci G 700 (fun i9 => nI (μ.od i9))) := dk_keep hw_4764 ha_4662 ha_4655 (by decide)
                    have h_4774 : w_4763 D.vf = some (108, dk_cl G 700 (fun i9 => μ.vf i9)) := dk_keep hw_4764 ha_4662 ha_4656 (by decide)
                    have h_4775 : w_4763 D.bv = some (109, dk_cl G 16 (fun i9 => μ.bv i9)) := dk_keep hw_4764 ha_4662 ha_4657 (by decide)
                    have h_4776 : w_4763 D.df = some (110, dk_cz G 700 (fun i9 => bo_i (μ.df i9))) := dk_keep hw_4764 ha_4662 ha_4658 (by decide)
                    have h_4777 : w_4763 D.ss = some (111, dk_cz G 6 (fun i9 => bo_i (μ.ss i9))) := dk_keep hw_4764 ha_4662 ha_4659 (by decide)
                    have h_4778 : w_4763 D.bd = some (112, dk_cz G 16 (fun i9 => bo_i (μ.bd i9))) := dk_keep hw_4764 ha_4662 ha_4660 (by decide)
                    have h_4779 : w_4763 D.ks = some (113, dk_cz G 700 (fun i9 => bo_i (μ.ks i9))) := dk_keep hw_4764 ha_4662 ha_4661 (by decide)
                    refine lv_aload_n hx hb de_M_isAsked_137 rfl (lv_at hl 1 rfl) ?_
                    refine dk_get (a := h) (v := .ref D.bt) (C := kn_M) (T := kt_M) (N := 22) hx hb hts ki_M hown hK hP h_4766 rfl 21 (by decide) (hts _ wi_735) (fun _ h9 => h9) rfl de_M_isAsked_138 ?_
                    refine lv_aload_n hx hb de_M_isAsked_141 rfl (lv_at hl 1 rfl) ?_
                    refine dk_get (a := h) (v := .ref D.kf) (C := kn_M) (T := kt_M) (N := 22) hx hb hts ki_M hown hK hP h_4766 rfl 8 (by decide) (hts _ wi_722) (fun _ h9 => h9) rfl de_M_isAsked_142 ?_
                    refine lv_iload hx hb de_M_isAsked_145 (lv_at hl 6 rfl) ?_
                    refine dk_iald (a := D.kf) hx hb hK hP h_4767 j rfl (by omega) (by omega) de_M_isAsked_147 ?_
                    refine lv_ldc2 (v := fa_L 1) hx hb hown (hts _ wi_897) de_M_isAsked_148 ?_
                    refine lv_iload hx hb de_M_isAsked_151 (lv_at hl 5 rfl) ?_
                    refine dk_calli (va_runS (As := [.int (nI (μ.kf j)), .long (fa_L 1), .int (nI N9)]) (rest := [.ref D.bt]) ⟨hx, hb, hml, hown, hts⟩ (c_M_bit l G w_4763 (μ.kf j) 1 N9 (by decide) hNp.1 (by omega)) (va_cwS 3 hts (wd_gS wi_896 wi_894 wi_895 wi_8) rfl rfl rfl (by decide +kernel) ⟨Nat.le_of_ble_eq_true rfl, Nat.le_of_ble_eq_true rfl⟩) (dk_preS hE hP hS) rfl rfl hl.1 rfl (lv_room (Nat.le_of_ble_eq_true rfl)) de_M_isAsked_153 ⟨(by first | exact Nat.le_of_ble_eq_true rfl | (simp only [Nat.zero_add]; omega) | omega), (by first | exact Nat.le_of_ble_eq_true rfl | (simp only [Nat.zero_add]; omega) | omega)⟩) hS (fun r_4782 w_4780 H locs hq_4781 hP hS => ?_)
                    obtain ⟨hr_4783, he_4784⟩ := hq_4781
                    subst hr_4783
                    rw [he_4784] at hP
                    have hm1 := Nat.mod_lt (hv_k (μ.kf j) 1) hNp.1
                    refine lv_iconst (v := nI 1) hx hb de_M_isAsked_156 (by decide) ?_
                    refine dk_zast (a := D.bt) (x := (bo_i true)) hx hb hK hP hS h_4765 (hv_k (μ.kf j) 1 % N9) rfl (by omega) (by omega) (bo_vn true) de_M_isAsked_157 (fun H locs w_4785 hw_4786 hP hS => ?_)
                    rw [up_bo] at hw_4786
                    have h_4787 : w_4785 D.bt = some (114, dk_cz G 6000 (fun i9 => bo_i ((va_up (va_up (bs_B μ r0 N9 j) (hv_k (μ.kf j) 0 % N9) true) (hv_k (μ.kf j) 1 % N9) true) i9))) := dk_here hw_4786
                    have h_4788 : w_4785 h = some (100, .inr (cx_M, [.int (nI μ.er), .int (nI μ.n), .int (nI μ.sq), .int (nI μ.sf), .int (nI μ.rs), .int (rI μ.ba), .int (nI μ.pr), .int (nI μ.mi), .ref D.kf, .ref D.nf, .ref D.rf, .ref D.lf, .ref D.sv, .ref D.bk, .ref D.od, .ref D.vf, .ref D.bv, .ref D.df, .ref D.ss, .ref D.bd, .ref D.ks, .ref D.bt])) := dk_keep hw_4786 h_4765 h_4766 (by decide)
                    have h_4789 : w_4785 D.kf = some (101, dk_ci G 700 (fun i9 => nI (μ.kf i9))) := dk_keep hw_4786 h_4765 h_4767 (by decide)
                    have h_4790 : w_4785 D.nf = some (102, dk_ci G 700 (fun i9 => nI (μ.nf i9))) := dk_keep hw_4786 h_4765 h_4768 (by decide)
                    have h_4791 : w_4785 D.rf = some (103, dk_ci G 700 (fun i9 => rI (μ.rf i9))) := dk_keep hw_4786 h_4765 h_4769 (by decide)
                    have h_4792 : w_4785 D.lf = some (104, dk_ci G 5000 (fun i9 => rI (μ.lf i9))) := dk_keep hw_4786 h_4765 h_4770 (by decide)
                    have h_4793 : w_4785 D.sv = some (105, dk_ci G 6 (fun i9 => nI (μ.sv i9))) := dk_keep hw_4786 h_4765 h_4771 (by decide)
                    have h_4794 : w_4785 D.bk = some (106, dk_ci G 16 (fun i9 => nI (μ.bk i9))) := dk_keep hw_4786 h_4765 h_4772 (by decide)
                    have h_4795 : w_4785 D.od = some (107, dk_ci G 700 (fun i9 => nI (μ.od i9))) := dk_keep hw_4786 h_4765 h_4773 (by decide)
                    have h_4796 : w_4785 D.vf = some (108, dk_cl G 700 (fun i9 => μ.vf i9)) := dk_keep hw_4786 h_4765 h_4774 (by decide)
                    have h_4797 : w_4785 D.bv = some (109, dk_cl G 16 (fun i9 => μ.bv i9)) := dk_keep hw_4786 h_4765 h_4775 (by decide)
                    have h_4798 : w_4785 D.df = some (110, dk_cz G 700 (fun i9 => bo_i (μ.df i9))) := dk_keep hw_4786 h_4765 h_4776 (by decide)
                    have h_4799 : w_4785 D.ss = some (111, dk_cz G 6 (fun i9 => bo_i (μ.ss i9))) := dk_keep hw_4786 h_4765 h_4777 (by decide)
                    have h_4800 : w_4785 D.bd = some (112, dk_cz G 16 (fun i9 => bo_i (μ.bd i9))) := dk_keep hw_4786 h_4765 h_4778 (by decide)
                    have h_4801 : w_4785 D.ks = some (113, dk_cz G 700 (fun i9 => bo_i (μ.ks i9))) := dk_keep hw_4786 h_4765 h_4779 (by decide)
                    refine lv_aload_n hx hb de_M_isAsked_158 rfl (lv_at hl 1 rfl) ?_
                    refine dk_get (a := h) (v := .ref D.bt) (C := kn_M) (T := kt_M) (N := 22) hx hb hts ki_M hown hK hP h_4788 rfl 21 (by decide) (hts _ wi_735) (fun _ h9 => h9) rfl de_M_isAsked_159 ?_
                    refine lv_aload_n hx hb de_M_isAsked_162 rfl (lv_at hl 1 rfl) ?_
                    refine dk_get (a := h) (v := .ref D.kf) (C := kn_M) (T := kt_M) (N := 22) hx hb hts ki_M hown hK hP h_4788 rfl 8 (by decide) (hts _ wi_722) (fun _ h9 => h9) rfl de_M_isAsked_163 ?_
                    refine lv_iload hx hb de_M_isAsked_166 (lv_at hl 6 rfl) ?_
                    refine dk_iald (a := D.kf) hx hb hK hP h_4789 j rfl (by omega) (by omega) de_M_isAsked_168 ?_
                    refine lv_ldc2 (v := fa_L 2) hx hb hown (hts _ wi_898) de_M_isAsked_169 ?_
                    refine lv_iload hx hb de_M_isAsked_172 (lv_at hl 5 rfl) ?_
                    refine dk_calli (va_runS (As := [.int (nI (μ.kf j)), .long (fa_L 2), .int (nI N9)]) (rest := [.ref D.bt]) ⟨hx, hb, hml, hown, hts⟩ (c_M_bit l G w_4785 (μ.kf j) 2 N9 (by decide) hNp.1 (by omega)) (va_cwS 3 hts (wd_gS wi_896 wi_894 wi_895 wi_8) rfl rfl rfl (by decide +kernel) ⟨Nat.le_of_ble_eq_true rfl, Nat.le_of_ble_eq_true rfl⟩) (dk_preS hE hP hS) rfl rfl hl.1 rfl (lv_room (Nat.le_of_ble_eq_true rfl)) de_M_isAsked_174 ⟨(by first | exact Nat.le_of_ble_eq_true rfl | (simp only [Nat.zero_add]; omega) | omega), (by first | exact Nat.le_of_ble_eq_true rfl | (simp only [Nat.zero_add]; omega) | omega)⟩) hS (fun r_4804 w_4802 H locs hq_4803 hP hS => ?_)
                    obtain ⟨hr_4805, he_4806⟩ := hq_4803
                    subst hr_4805
                    rw [he_4806] at hP
                    have hm2 := Nat.mod_lt (hv_k (μ.kf j) 2) hNp.1
                    refine lv_iconst (v := nI 1) hx hb de_M_isAsked_177 (by decide) ?_
                    refine dk_zast (a := D.bt) (x := (bo_i true)) hx hb hK hP hS h_4787 (hv_k (μ.kf j) 2 % N9) rfl (by omega) (by omega) (bo_vn true) de_M_isAsked_178 (fun H locs w_4807 hw_4808 hP hS => ?_)
                    rw [up_bo] at hw_4808
                    have h_4809 : w_4807 D.bt = some (114, dk_cz G 6000 (fun i9 => bo_i ((va_up (va_up (va_up (bs_B μ r0 N9 j) (hv_k (μ.kf j) 0 % N9) true) (hv_k (μ.kf j) 1 % N9) true) (hv_k (μ.kf j) 2 % N9) true) i9))) := dk_here hw_4808
                    have h_4810 : w_4807 h = some (100, .inr (cx_M, [.int (nI μ.er), .int (nI μ.n), .int (nI μ.sq), .int (nI μ.sf), .int (nI μ.rs), .int (rI μ.ba), .int (nI μ.pr), .int (nI μ.mi), .ref D.kf, .ref D.nf, .ref D.rf, .ref D.lf, .ref D.sv, .ref D.bk, .ref D.od, .ref D.vf, .ref D.bv, .ref D.df, .ref D.ss, .ref D.bd, .ref D.ks, .ref D.bt])) := dk_keep hw_4808 h_4787 h_4788 (by decide)
                    have h_4811 : w_4807 D.kf = some (101, dk_ci G 700 (fun i9 => nI (μ.kf i9))) := dk_keep hw_4808 h_4787 h_4789 (by decide)
                    have h_4812 : w_4807 D.nf = some (102, dk_ci G 700 (fun i9 => nI (μ.nf i9))) := dk_keep hw_4808 h_4787 h_4790 (by decide)
                    have h_4813 : w_4807 D.rf = some (103, dk_ci G 700 (fun i9 => rI (μ.rf i9))) := dk_keep hw_4808 h_4787 h_4791 (by decide)
                    have h_4814 : w_4807 D.lf = some (104, dk_ci G 5000 (fun i9 => rI (μ.lf i9))) := dk_keep hw_4808 h_4787 h_4792 (by decide)
                    have h_4815 : w_4807 D.sv = some (105, dk_ci G 6 (fun i9 => nI (μ.sv i9))) := dk_keep hw_4808 h_4787 h_4793 (by decide)
                    have h_4816 : w_4807 D.bk = some (106, dk_ci G 16 (fun i9 => nI (μ.bk i9))) := dk_keep hw_4808 h_4787 h_4794 (by decide)
                    have h_4817 : w_4807 D.od = some (107, dk_ci G 700 (fun i9 => nI (μ.od i9))) := dk_keep hw_4808 h_4787 h_4795 (by decide)
                    have h_4818 : w_4807 D.vf = some (108, dk_cl G 700 (fun i9 => μ.vf i9)) := dk_keep hw_4808 h_4787 h_4796 (by decide)
                    have h_4819 : w_4807 D.bv = some (109, dk_cl G 16 (fun i9 => μ.bv i9)) := dk_keep hw_4808 h_4787 h_4797 (by decide)
                    have h_4820 : w_4807 D.df = some (110, dk_cz G 700 (fun i9 => bo_i (μ.df i9))) := dk_keep hw_4808 h_4787 h_4798 (by decide)
                    have h_4821 : w_4807 D.ss = some (111, dk_cz G 6 (fun i9 => bo_i (μ.ss i9))) := dk_keep hw_4808 h_4787 h_4799 (by decide)
                    have h_4822 : w_4807 D.bd = some (112, dk_cz G 16 (fun i9 => bo_i (μ.bd i9))) := dk_keep hw_4808 h_4787 h_4800 (by decide)
                    have h_4823 : w_4807 D.ks = some (113, dk_cz G 700 (fun i9 => bo_i (μ.ks i9))) := dk_keep hw_4808 h_4787 h_4801 (by decide)
                    have hm_4824 : md_at G w_4807 h D ((μ.bt' (bs_B μ r0 N9 j)).bt' (va_up (va_up (va_up (bs_B μ r0 N9 j) (hv_k (μ.kf j) 0 % N9) true) (hv_k (μ.kf j) 1 % N9) true) (hv_k (μ.kf j) 2 % N9) true)) := ⟨h_4810, h_4811, h_4812, h_4813, h_4814, h_4815, h_4816, h_4817, h_4818, h_4819, h_4820, h_4821, h_4822, h_4823, h_4809⟩
                    refine lv_iinc (v := nI (j + 1)) (lv' := [(6, .int (nI (j + 1))), (4, .int (nI (μ.kf j))), (0, .ref h), (1, .int (nI r0)), (2, .int (nI k)), (3, .int (nI (as_l μ r0 j))), (5, .int (nI N9))]) hx hb de_M_isAsked_179 hl (k := 6) rfl (nx_inc j) (by decide) rfl (fun ls hl => ?_)
                    refine lv_goto (tgt := 53) hx hb de_M_isAsked_182 (by decide) ?_
                    replace hl : lv_has ls 7 [(6, .int (nI (j + 1))), (4, .int (rI (as_m μ r0 (j + 1)))), (0, .ref h), (1, .int (nI r0)), (2, .int (nI k)), (3, .int (nI (as_l μ r0 (j + 1)))), (5, .int (nI N9))] := by rw [as_lk e7 c_4689, as_my e7 ham b1 c_4690]; exact hl
                    exact ih2 (j + 1) (by omega) (by omega) _ _ _ (by rw [bs_By e7 hm0 hm1 hm2]; exact hm_4824) (hg2.tr ((((dk_fr.rf).tr ((dk_fr.up (T := md_T) ha_4662 (by unfold md_T; omega)).eq hw_4764)).tr ((dk_fr.up (T := md_T) h_4765 (by unfold md_T; omega)).eq hw_4786)).tr ((dk_fr.up (T := md_T) h_4787 (by unfold md_T; omega)).eq hw_4808))) hP hS _ (lv_sub hl [2, 3, 4, 5, 1, 6, 0] rfl)
                · refine lv_aload_n hx hb de_M_isAsked_87 rfl (lv_at hl 0 rfl) ?_
                  refine dk_get (a := h) (v := .ref D.kf) (C := kn_M) (T := kt_M) (N := 22) hx hb hts ki_M hown hK hP hh_4648 rfl 8 (by decide) (hts _ wi_722) (fun _ h9 => h9) rfl de_M_isAsked_88 ?_
                  refine lv_iload hx hb de_M_isAsked_91 (lv_at hl 6 rfl) ?_
                  refine dk_iald (a := D.kf) hx hb hK hP ha_4649 j rfl (by omega) (by omega) de_M_isAsked_93 ?_
                  refine lv_istore_n (lv' := [(3, .int (nI (μ.kf j))), (0, .ref h), (1, .int (nI r0)), (2, .int (nI k)), (4, .int (rI (as_m μ r0 j))), (5, .int (nI N9)), (6, .int (nI j))]) hx hb de_M_isAsked_94 rfl hl (by decide) rfl (fun ls hl => ?_)
                  refine lv_aload_n hx hb de_M_isAsked_95 rfl (lv_at hl 1 rfl) ?_
                  refine dk_get (a := h) (v := .ref D.kf) (C := kn_M) (T := kt_M) (N := 22) hx hb hts ki_M hown hK hP hh_4648 rfl 8 (by decide) (hts _ wi_722) (fun _ h9 => h9) rfl de_M_isAsked_96 ?_
                  refine lv_iload hx hb de_M_isAsked_99 (lv_at hl 6 rfl) ?_
                  refine dk_iald (a := D.kf) hx hb hK hP ha_4649 j rfl (by omega) (by omega) de_M_isAsked_101 ?_
                  refine lv_iload hx hb de_M_isAsked_102 (lv_at hl 4 rfl) ?_
                  refine lv_icmp_le (tgt := 116) hx hb de_M_isAsked_104 (by decide) (fun c_4825 => ?_) (fun c_4825 => ?_)
                  · refine lv_aload_n hx hb de_M_isAsked_116 rfl (lv_at hl 1 rfl) ?_
                    refine dk_get (a := h) (v := .ref D.bt) (C := kn_M) (T := kt_M) (N := 22) hx hb hts ki_M hown hK hP hh_4648 rfl 21 (by decide) (hts _ wi_735) (fun _ h9 => h9) rfl de_M_isAsked_117 ?_
                    refine lv_aload_n hx hb de_M_isAsked_120 rfl (lv_at hl 1 rfl) ?_
                    refine dk_get (a := h) (v := .ref D.kf) (C := kn_M) (T := kt_M) (N := 22) hx hb hts ki_M hown hK hP hh_4648 rfl 8 (by decide) (hts _ wi_722) (fun _ h9 => h9) rfl de_M_isAsked_121 ?_
                    refine lv_iload hx hb de_M_isAsked_124 (lv_at hl 6 rfl) ?_
                    refine dk_iald (a := D.kf) hx hb hK hP ha_4649 j rfl (by omega) (by omega) de_M_isAsked_126 ?_
                    refine lv_ldc2 (v := fa_L 0) hx hb hown (hts _ wi_893) de_M_isAsked_127 ?_
                    refine lv_iload hx hb de_M_isAsked_130 (lv_at hl 5 rfl) ?_
                    refine dk_calli (va_runS (As := [.int (nI (μ.kf j)), .long (fa_L 0), .int (nI N9)]) (rest := [.ref D.bt]) ⟨hx, hb, hml, hown, hts⟩ (c_M_bit l G v2 (μ.kf j) 0 N9 (by decide) hNp.1 (by omega)) (va_cwS 3 hts (wd_gS wi_896 wi_894 wi_895 wi_8) rfl rfl rfl (by decide +kernel) ⟨Nat.le_of_ble_eq_true rfl, Nat.le_of_ble_eq_true rfl⟩) (dk_preS hE hP hS) rfl rfl hl.1 rfl (lv_room (Nat.le_of_ble_eq_true rfl)) de_M_isAsked_132 ⟨(by first | exact Nat.le_of_ble_eq_true rfl | (simp only [Nat.zero_add]; omega) | omega), (by first | exact Nat.le_of_ble_eq_true rfl | (simp only [Nat.zero_add]; omega) | omega)⟩) hS (fun r_4828 w_4826 H locs hq_4827 hP hS => ?_)
                    obtain ⟨hr_4829, he_4830⟩ := hq_4827
                    subst hr_4829
                    rw [he_4830] at hP
                    have hm0 := Nat.mod_lt (hv_k (μ.kf j) 0) hNp.1
                    refine lv_iconst (v := nI 1) hx hb de_M_isAsked_135 (by decide) ?_
                    refine dk_zast (a := D.bt) (x := (bo_i true)) hx hb hK hP hS ha_4662 (hv_k (μ.kf j) 0 % N9) rfl (by omega) (by omega) (bo_vn true) de_M_isAsked_136 (fun H locs w_4831 hw_4832 hP hS => ?_)
                    rw [up_bo] at hw_4832
                    have h_4833 : w_4831 D.bt = some (114, dk_cz G 6000 (fun i9 => bo_i ((va_up (bs_B μ r0 N9 j) (hv_k (μ.kf j) 0 % N9) true) i9))) := dk_here hw_4832
                    have h_4834 : w_4831 h = some (100, .inr (cx_M, [.int (nI μ.er), .int (nI μ.n), .int (nI μ.sq), .int (nI μ.sf), .int (nI μ.rs), .int (rI μ.ba), .int (nI μ.pr), .int (nI μ.mi), .ref D.kf, .ref D.nf, .ref D.rf, .ref D.lf, .ref D.sv, .ref D.bk, .ref D.od, .ref D.vf, .ref D.bv, .ref D.df, .ref D.ss, .ref D.bd, .ref D.ks, .ref D.bt])) := dk_keep hw_4832 ha_4662 hh_4648 (by decide)
                    have h_4835 : w_4831 D.kf = some (101, dk_ci G 700 (fun i9 => nI (μ.kf i9))) := dk_keep hw_4832 ha_4662 ha_4649 (by decide)
                    have h_4836 : w_4831 D.nf = some (102, dk_ci G 700 (fun i9 => nI (μ.nf i9))) := dk_keep hw_4832 ha_4662 ha_4650 (by decide)
                    have h_4837 : w_4831 D.rf = some (103, dk_ci G 700 (fun i9 => rI (μ.rf i9))) := dk_keep hw_4832 ha_4662 ha_4651 (by decide)
                    have h_4838 : w_4831 D.lf = some (104, dk_ci G 5000 (fun i9 => rI (μ.lf i9))) := dk_keep hw_4832 ha_4662 ha_4652 (by decide)
                    have h_4839 : w_4831 D.sv = some (105, dk_ci G 6 (fun i9 => nI (μ.sv i9))) := dk_keep hw_4832 ha_4662 ha_4653 (by decide)
                    have h_4840 : w_4831 D.bk = some (106, dk_ci G 16 (fun i9 => nI (μ.bk i9))) := dk_keep hw_4832 ha_4662 ha_4654 (by decide)
                    have h_4841 : w_4831 D.od = some (107, dk_ci G 700 (fun i9 => nI (μ.od i9))) := dk_keep hw_4832 ha_4662 ha_4655 (by decide)
                    have h_4842 : w_4831 D.vf = some (108, dk_cl G 700 (fun i9 => μ.vf i9)) := dk_keep hw_4832 ha_4662 ha_4656 (by decide)
                    have h_4843 : w_4831 D.bv = some (109, dk_cl G 16 (fun i9 => μ.bv i9)) := dk_keep hw_4832 ha_4662 ha_4657 (by decide)
                    have h_4844 : w_4831 D.df = some (110, dk_cz G 700 (fun i9 => bo_i (μ.df i9))) := dk_keep hw_4832 ha_4662 ha_4658 (by decide)
                    have h_4845 : w_4831 D.ss = some (111, dk_cz G 6 (fun i9 => bo_i (μ.ss i9))) := dk_keep hw_4832 ha_4662 ha_4659 (by decide)
                    have h_4846 : w_4831 D.bd = some (112, dk_cz G 16 (fun i9 => bo_i (μ.bd i9))) := dk_keep hw_4832 ha_4662 ha_4660 (by decide)
                    have h_4847 : w_4831 D.ks = some (113, dk_cz G 700 (fun i9 => bo_i (μ.ks i9))) := dk_keep hw_4832 ha_4662 ha_4661 (by decide)
                    refine lv_aload_n hx hb de_M_isAsked_137 rfl (lv_at hl 1 rfl) ?_
                    refine dk_get (a := h) (v := .ref D.bt) (C := kn_M) (T := kt_M) (N := 22) hx hb hts ki_M hown hK hP h_4834 rfl 21 (by decide) (hts _ wi_735) (fun _ h9 => h9) rfl de_M_isAsked_138 ?_
                    refine lv_aload_n hx hb de_M_isAsked_141 rfl (lv_at hl 1 rfl) ?_
                    refine dk_get (a := h) (v := .ref D.kf) (C := kn_M) (T := kt_M) (N := 22) hx hb hts ki_M hown hK hP h_4834 rfl 8 (by decide) (hts _ wi_722) (fun _ h9 => h9) rfl de_M_isAsked_142 ?_
                    refine lv_iload hx hb de_M_isAsked_145 (lv_at hl 6 rfl) ?_
                    refine dk_iald (a := D.kf) hx hb hK hP h_4835 j rfl (by omega) (by omega) de_M_isAsked_147 ?_
                    refine lv_ldc2 (v := fa_L 1) hx hb hown (hts _ wi_897) de_M_isAsked_148 ?_
                    refine lv_iload hx hb de_M_isAsked_151 (lv_at hl 5 rfl) ?_
                    refine dk_calli (va_runS (As := [.int (nI (μ.kf j)), .long (fa_L 1), .int (nI N9)]) (rest := [.ref D.bt]) ⟨hx, hb, hml, hown, hts⟩ (c_M_bit l G w_4831 (μ.kf j) 1 N9 (by decide) hNp.1 (by omega)) (va_cwS 3 hts (wd_gS wi_896 wi_894 wi_895 wi_8) rfl rfl rfl (by decide +kernel) ⟨Nat.le_of_ble_eq_true rfl, Nat.le_of_ble_eq_true rfl⟩) (dk_preS hE hP hS) rfl rfl hl.1 rfl (lv_room (Nat.le_of_ble_eq_true rfl)) de_M_isAsked_153 ⟨(by first | exact Nat.le_of_ble_eq_true rfl | (simp only [Nat.zero_add]; omega) | omega), (by first | exact Nat.le_of_ble_eq_true rfl | (simp only [Nat.zero_add]; omega) | omega)⟩) hS (fun r_4850 w_4848 H locs hq_4849 hP hS => ?_)
                    obtain ⟨hr_4851, he_4852⟩ := hq_4849
                    subst hr_4851
                    rw [he_4852] at hP
                    have hm1 := Nat.mod_lt (hv_k (μ.kf j) 1) hNp.1
                    refine lv_iconst (v := nI 1) hx hb de_M_isAsked_156 (by decide) ?_
                    refine dk_zast (a := D.bt) (x := (bo_i true)) hx hb hK hP hS h_4833 (hv_k (μ.kf j) 1 % N9) rfl (by omega) (by omega) (bo_vn true) de_M_isAsked_157 (fun H locs w_4853 hw_4854 hP hS => ?_)
                    rw [up_bo] at hw_4854
                    have h_4855 : w_4853 D.bt = some (114, dk_cz G 6000 (fun i9 => bo_i ((va_up (va_up (bs_B μ r0 N9 j) (hv_k (μ.kf j) 0 % N9) true) (hv_k (μ.kf j) 1 % N9) true) i9))) := dk_here hw_4854
                    have h_4856 : w_4853 h = some (100, .inr (cx_M, [.int (nI μ.er), .int (nI μ.n), .int (nI μ.sq), .int (nI μ.sf), .int (nI μ.rs), .int (rI μ.ba), .int (nI μ.pr), .int (nI μ.mi), .ref D.kf, .ref D.nf, .ref D.rf, .ref D.lf, .ref D.sv, .ref D.bk, .ref D.od, .ref D.vf, .ref D.bv, .ref D.df, .ref D.ss, .ref D.bd, .ref D.ks, .ref D.bt])) := dk_keep hw_4854 h_4833 h_4834 (by decide)
                    have h_4857 : w_4853 D.kf = some (101, dk_ci G 700 (fun i9 => nI (μ.kf i9))) := dk_keep hw_4854 h_4833 h_4835 (by decide)
                    have h_4858 : w_4853 D.nf = some (102, dk_ci G 700 (fun i9 => nI (μ.nf i9))) := dk_keep hw_4854 h_4833 h_4836 (by decide)
                    have h_4859 : w_4853 D.rf = some (103, dk_ci G 700 (fun i9 => rI (μ.rf i9))) := dk_keep hw_4854 h_4833 h_4837 (by decide)
                    have h_4860 : w_4853 D.lf = some (104, dk_ci G 5000 (fun i9 => rI (μ.lf i9))) := dk_keep hw_4854 h_4833 h_4838 (by decide)
                    have h_4861 : w_4853 D.sv = some (105, dk_ci G 6 (fun i9 => nI (μ.sv i9))) := dk_keep hw_4854 h_4833 h_4839 (by decide)
                    have h_4862 : w_4853 D.bk = some (106, dk_ci G 16 (fun i9 => nI (μ.bk i9))) := dk_keep hw_4854 h_4833 h_4840 (by decide)
                    have h_4863 : w_4853 D.od = some (107, dk_ci G 700 (fun i9 => nI (μ.od i9))) := dk_keep hw_4854 h_4833 h_4841 (by decide)
                    have h_4864 : w_4853 D.vf = some (108, dk_cl G 700 (fun i9 => μ.vf i9)) := dk_keep hw_4854 h_4833 h_4842 (by decide)
                    have h_4865 : w_4853 D.bv = some (109, dk_cl G 16 (fun i9 => μ.bv i9)) := dk_keep hw_4854 h_4833 h_4843 (by decide)
                    have h_4866 : w_4853 D.df = some (110, dk_cz G 700 (fun i9 => bo_i (μ.df i9))) := dk_keep hw_4854 h_4833 h_4844 (by decide)
                    have h_4867 : w_4853 D.ss = some (111, dk_cz G 6 (fun i9 => bo_i (μ.ss i9))) := dk_keep hw_4854 h_4833 h_4845 (by decide)
                    have h_4868 : w_4853 D.bd = some (112, dk_cz G 16 (fun i9 => bo_i (μ.bd i9))) := dk_keep hw_4854 h_4833 h_4846 (by decide)
                    have h_4869 : w_4853 D.ks = some (113, dk_cz G 700 (fun i9 => bo_i (μ.ks i9))) := dk_keep hw_4854 h_4833 h_4847 (by decide)
                    refine lv_aload_n hx hb de_M_isAsked_158 rfl (lv_at hl 1 rfl) ?_
                    refine dk_get (a := h) (v := .ref D.bt) (C := kn_M) (T := kt_M) (N := 22) hx hb hts ki_M hown hK hP h_4856 rfl 21 (by decide) (hts _ wi_735) (fun _ h9 => h9) rfl de_M_isAsked_159 ?_
                    refine lv_aload_n hx hb de_M_isAsked_162 rfl (lv_at hl 1 rfl) ?_
                    refine dk_get (a := h) (v := .ref D.kf) (C := kn_M) (T := kt_M) (N := 22) hx hb hts ki_M hown hK hP h_4856 rfl 8 (by decide) (hts _ wi_722) (fun _ h9 => h9) rfl de_M_isAsked_163 ?_
                    refine lv_iload hx hb de_M_isAsked_166 (lv_at hl 6 rfl) ?_
                    refine dk_iald (a := D.kf) hx hb hK hP h_4857 j rfl (by omega) (by omega) de_M_isAsked_168 ?_
                    refine lv_ldc2 (v := fa_L 2) hx hb hown (hts _ wi_898) de_M_isAsked_169 ?_
                    refine lv_iload hx hb de_M_isAsked_172 (lv_at hl 5 rfl) ?_
                    refine dk_calli (va_runS (As := [.int (nI (μ.kf j)), .long (fa_L 2), .int (nI N9)]) (rest := [.ref D.bt]) ⟨hx, hb, hml, hown, hts⟩ (c_M_bit l G w_4853 (μ.kf j) 2 N9 (by decide) hNp.1 (by omega)) (va_cwS 3 hts (wd_gS wi_896 wi_894 wi_895 wi_8) rfl rfl rfl (by decide +kernel) ⟨Nat.le_of_ble_eq_true rfl, Nat.le_of_ble_eq_true rfl⟩) (dk_preS hE hP hS) rfl rfl hl.1 rfl (lv_room (Nat.le_of_ble_eq_true rfl)) de_M_isAsked_174 ⟨(by first | exact Nat.le_of_ble_eq_true rfl | (simp only [Nat.zero_add]; omega) | omega), (by first | exact Nat.le_of_ble_eq_true rfl | (simp only [Nat.zero_add]; omega) | omega)⟩) hS (fun r_4872 w_4870 H locs hq_4871 hP hS => ?_)
                    obtain ⟨hr_4873, he_4874⟩ := hq_4871
                    subst hr_4873
                    rw [he_4874] at hP
                    have hm2 := Nat.mod_lt (hv_k (μ.kf j) 2) hNp.1
                    refine lv_iconst (v := nI 1) hx hb de_M_isAsked_177 (by decide) ?_
                    refine dk_zast (a := D.bt) (x := (bo_i true)) hx hb hK hP hS h_4855 (hv_k (μ.kf j) 2 % N9) rfl (by omega) (by omega) (bo_vn true) de_M_isAsked_178 (fun H locs w_4875 hw_4876 hP hS => ?_)
                    rw [up_bo] at hw_4876
                    have h_4877 : w_4875 D.bt = some (114, dk_cz G 6000 (fun i9 => bo_i ((va_up (va_up (va_up (bs_B μ r0 N9 j) (hv_k (μ.kf j) 0 % N9) true) (hv_k (μ.kf j) 1 % N9) true) (hv_k (μ.kf j) 2 % N9) true) i9))) := dk_here hw_4876
                    have h_4878 : w_4875 h = some (100, .inr (cx_M, [.int (nI μ.er), .int (nI μ.n), .int (nI μ.sq), .int (nI μ.sf), .int (nI μ.rs), .int (rI μ.ba), .int (nI μ.pr), .int (nI μ.mi), .ref D.kf, .ref D.nf, .ref D.rf, .ref D.lf, .ref D.sv, .ref D.bk, .ref D.od, .ref D.vf, .ref D.bv, .ref D.df, .ref D.ss, .ref D.bd, .ref D.ks, .ref D.bt])) := dk_keep hw_4876 h_4855 h_4856 (by decide)
                    have h_4879 : w_4875 D.kf = some (101, dk_ci G 700 (fun i9 => nI (μ.kf i9))) := dk_keep hw_4876 h_4855 h_4857 (by decide)
                    have h_4880 : w_4875 D.nf = some (102, dk_ci G 700 (fun i9 => nI (μ.nf i9))) := dk_keep hw_4876 h_4855 h_4858 (by decide)
                    have h_4881 : w_4875 D.rf = some (103, dk_ci G 700 (fun i9 => rI (μ.rf i9))) := dk_keep hw_4876 h_4855 h_4859 (by decide)
                    have h_4882 : w_4875 D.lf = some (104, dk_ci G 5000 (fun i9 => rI (μ.lf i9))) := dk_keep hw_4876 h_4855 h_4860 (by decide)
                    have h_4883 : w_4875 D.sv = some (105, dk_ci G 6 (fun i9 => nI (μ.sv i9))) := dk_keep hw_4876 h_4855 h_4861 (by decide)
                    have h_4884 : w_4875 D.bk = some (106, dk_ci G 16 (fun i9 => nI (μ.bk i9))) := dk_keep hw_4876 h_4855 h_4862 (by decide)
                    have h_4885 : w_4875 D.od = some (107, dk_ci G 700 (fun i9 => nI (μ.od i9))) := dk_keep hw_4876 h_4855 h_4863 (by decide)
                    have h_4886 : w_4875 D.vf = some (108, dk_cl G 700 (fun i9 => μ.vf i9)) := dk_keep hw_4876 h_4855 h_4864 (by decide)
                    have h_4887 : w_4875 D.bv = some (109, dk_cl G 16 (fun i9 => μ.bv i9)) := dk_keep hw_4876 h_4855 h_4865 (by decide)
                    have h_4888 : w_4875 D.df = some (110, dk_cz G 700 (fun i9 => bo_i (μ.df i9))) := dk_keep hw_4876 h_4855 h_4866 (by decide)
                    have h_4889 : w_4875 D.ss = some (111, dk_cz G 6 (fun i9 => bo_i (μ.ss i9))) := dk_keep hw_4876 h_4855 h_4867 (by decide)
                    have h_4890 : w_4875 D.bd = some (112, dk_cz G 16 (fun i9 => bo_i (μ.bd i9))) := dk_keep hw_4876 h_4855 h_4868 (by decide)
                    have h_4891 : w_4875 D.ks = some (113, dk_cz G 700 (fun i9 => bo_i (μ.ks i9))) := dk_keep hw_4876 h_4855 h_4869 (by decide)
                    have hm_4892 : md_at G w_4875 h D ((μ.bt' (bs_B μ r0 N9 j)).bt' (va_up (va_up (va_up (bs_B μ r0 N9 j) (hv_k (μ.kf j) 0 % N9) true) (hv_k (μ.kf j) 1 % N9) true) (hv_k (μ.kf j) 2 % N9) true)) := ⟨h_4878, h_4879, h_4880, h_4881, h_4882, h_4883, h_4884, h_4885, h_4886, h_4887, h_4888, h_4889, h_4890, h_4891, h_4877⟩
                    refine lv_iinc (v := nI (j + 1)) (lv' := [(6, .int (nI (j + 1))), (3, .int (nI (μ.kf j))), (0, .ref h), (1, .int (nI r0)), (2, .int (nI k)), (4, .int (rI (as_m μ r0 j))), (5, .int (nI N9))]) hx hb de_M_isAsked_179 hl (k := 6) rfl (nx_inc j) (by decide) rfl (fun ls hl => ?_)
                    refine lv_goto (tgt := 53) hx hb de_M_isAsked_182 (by decide) ?_
                    replace hl : lv_has ls 7 [(6, .int (nI (j + 1))), (3, .int (nI (as_l μ r0 (j + 1)))), (0, .ref h), (1, .int (nI r0)), (2, .int (nI k)), (4, .int (rI (as_m μ r0 (j + 1)))), (5, .int (nI N9))] := by rw [as_ly e7 c_4689, as_mk e7 ham c_4825 b1]; exact hl
                    exact ih2 (j + 1) (by omega) (by omega) _ _ _ (by rw [bs_By e7 hm0 hm1 hm2]; exact hm_4892) (hg2.tr ((((dk_fr.rf).tr ((dk_fr.up (T := md_T) ha_4662 (by unfold md_T; omega)).eq hw_4832)).tr ((dk_fr.up (T := md_T) h_4833 (by unfold md_T; omega)).eq hw_4854)).tr ((dk_fr.up (T := md_T) h_4855 (by unfold md_T; omega)).eq hw_4876))) hP hS _ (lv_sub hl [2, 3, 4, 1, 5, 6, 0] rfl)
                  · refine lv_aload_n hx hb de_M_isAsked_107 rfl (lv_at hl 1 rfl) ?_
                    refine dk_get (a := h) (v := .ref D.kf) (C := kn_M) (T := kt_M) (N := 22) hx hb hts ki_M hown hK hP hh_4648 rfl 8 (by decide) (hts _ wi_722) (fun _ h9 => h9) rfl de_M_isAsked_108 ?_
                    refine lv_iload hx hb de_M_isAsked_111 (lv_at hl 6 rfl) ?_
                    refine dk_iald (a := D.kf) hx hb hK hP ha_4649 j rfl (by omega) (by omega) de_M_isAsked_113 ?_
                    refine lv_istore (lv' := [(4, .int (nI (μ.kf j))), (3, .int (nI (μ.kf j))), (0, .ref h), (1, .int (nI r0)), (2, .int (nI k)), (5, .int (nI N9)), (6, .int (nI j))]) hx hb de_M_isAsked_114 hl (by decide) rfl (fun ls hl => ?_)
                    refine lv_aload_n hx hb de_M_isAsked_116 rfl (lv_at hl 2 rfl) ?_
                    refine dk_get (a := h) (v := .ref D.bt) (C := kn_M) (T := kt_M) (N := 22) hx hb hts ki_M hown hK hP hh_4648 rfl 21 (by decide) (hts _ wi_735) (fun _ h9 => h9) rfl de_M_isAsked_117 ?_
                    refine lv_aload_n hx hb de_M_isAsked_120 rfl (lv_at hl 2 rfl) ?_
                    refine dk_get (a := h) (v := .ref D.kf) (C := kn_M) (T := kt_M) (N := 22) hx hb hts ki_M hown hK hP hh_4648 rfl 8 (by decide) (hts _ wi_722) (fun _ h9 => h9) rfl de_M_isAsked_121 ?_
                    refine lv_iload hx hb de_M_isAsked_124 (lv_at hl 6 rfl) ?_
                    refine dk_iald (a := D.kf) hx hb hK hP ha_4649 j rfl (by omega) (by omega) de_M_isAsked_126 ?_
                    refine lv_ldc2 (v := fa_L 0) hx hb hown (hts _ wi_893) de_M_isAsked_127 ?_
                    refine lv_iload hx hb de_M_isAsked_130 (lv_at hl 5 rfl) ?_
                    refine dk_calli (va_runS (As := [.int (nI (μ.kf j)), .long (fa_L 0), .int (nI N9)]) (rest := [.ref D.bt]) ⟨hx, hb, hml, hown, hts⟩ (c_M_bit l G v2 (μ.kf j) 0 N9 (by decide) hNp.1 (by omega)) (va_cwS 3 hts (wd_gS wi_896 wi_894 wi_895 wi_8) rfl rfl rfl (by decide +kernel) ⟨Nat.le_of_ble_eq_true rfl, Nat.le_of_ble_eq_true rfl⟩) (dk_preS hE hP hS) rfl rfl hl.1 rfl (lv_room (Nat.le_of_ble_eq_true rfl)) de_M_isAsked_132 ⟨(by first | exact Nat.le_of_ble_eq_true rfl | (simp only [Nat.zero_add]; omega) | omega), (by first | exact Nat.le_of_ble_eq_true rfl | (simp only [Nat.zero_add]; omega) | omega)⟩) hS (fun r_4895 w_4893 H locs hq_4894 hP hS => ?_)
                    obtain ⟨hr_4896, he_4897⟩ := hq_4894
                    subst hr_4896
                    rw [he_4897] at hP
                    have hm0 := Nat.mod_lt (hv_k (μ.kf j) 0) hNp.1
                    refine lv_iconst (v := nI 1) hx hb de_M_isAsked_135 (by decide) ?_
                    refine dk_zast (a := D.bt) (x := (bo_i true)) hx hb hK hP hS ha_4662 (hv_k (μ.kf j) 0 % N9) rfl (by omega) (by omega) (bo_vn true) de_M_isAsked_136 (fun H locs w_4898 hw_4899 hP hS => ?_)
                    rw [up_bo] at hw_4899
                    have h_4900 : w_4898 D.bt = some (114, dk_cz G 6000 (fun i9 => bo_i ((va_up (bs_B μ r0 N9 j) (hv_k (μ.kf j) 0 % N9) true) i9))) := dk_here hw_4899
                    have h_4901 : w_4898 h = some (100, .inr (cx_M, [.int (nI μ.er), .int (nI μ.n), .int (nI μ.sq), .int (nI μ.sf), .int (nI μ.rs), .int (rI μ.ba), .int (nI μ.pr), .int (nI μ.mi), .ref D.kf, .ref D.nf, .ref D.rf, .ref D.lf, .ref D.sv, .ref D.bk, .ref D.od, .ref D.vf, .ref D.bv, .ref D.df, .ref D.ss, .ref D.bd, .ref D.ks, .ref D.bt])) := dk_keep hw_4899 ha_4662 hh_4648 (by decide)
                    have h_4902 : w_4898 D.kf = some (101, dk_ci G 700 (fun i9 => nI (μ.kf i9))) := dk_keep hw_4899 ha_4662 ha_4649 (by decide)
                    have h_4903 : w_4898 D.nf = some (102, dk_ci G 700 (fun i9 => nI (μ.nf i9))) := dk_keep hw_4899 ha_4662 ha_4650 (by decide)
                    have h_4904 : w_4898 D.rf = some (103, dk_ci G 700 (fun i9 => rI (μ.rf i9))) := dk_keep hw_4899 ha_4662 ha_4651 (by decide)
                    have h_4905 : w_4898 D.lf = some (104, dk_ci G 5000 (fun i9 => rI (μ.lf i9))) := dk_keep hw_4899 ha_4662 ha_4652 (by decide)
                    have h_4906 : w_4898 D.sv = some (105, dk_ci G 6 (fun i9 => nI (μ.sv i9))) := dk_keep hw_4899 ha_4662 ha_4653 (by decide)
                    have h_4907 : w_4898 D.bk = some (106, dk_ci G 16 (fun i9 => nI (μ.bk i9))) := dk_keep hw_4899 ha_4662 ha_4654 (by decide)
                    have h_4908 : w_4898 D.od = some (107, dk_ci G 700 (fun i9 => nI (μ.od i9))) := dk_keep hw_4899 ha_4662 ha_4655 (by decide)
                    have h_4909 : w_4898 D.vf = some (108, dk_cl G 700 (fun i9 => μ.vf i9)) := dk_keep hw_4899 ha_4662 ha_4656 (by decide)
                    have h_4910 : w_4898 D.bv = some (109, dk_cl G 16 (fun i9 => μ.bv i9)) := dk_keep hw_4899 ha_4662 ha_4657 (by decide)
                    have h_4911 : w_4898 D.df = some (110, dk_cz G 700 (fun i9 => bo_i (μ.df i9))) := dk_keep hw_4899 ha_4662 ha_4658 (by decide)
                    have h_4912 : w_4898 D.ss = some (111, dk_cz G 6 (fun i9 => bo_i (μ.ss i9))) := dk_keep hw_4899 ha_4662 ha_4659 (by decide)
                    have h_4913 : w_4898 D.bd = some (112, dk_cz G 16 (fun i9 => bo_i (μ.bd i9))) := dk_keep hw_4899 ha_4662 ha_4660 (by decide)
                    have h_4914 : w_4898 D.ks = some (113, dk_cz G 700 (fun i9 => bo_i (μ.ks i9))) := dk_keep hw_4899 ha_4662 ha_4661 (by decide)
                    refine lv_aload_n hx hb de_M_isAsked_137 rfl (lv_at hl 2 rfl) ?_
                    refine dk_get (a := h) (v := .ref D.bt) (C := kn_M) (T := kt_M) (N := 22) hx hb hts ki_M hown hK hP h_4901 rfl 21 (by decide) (hts _ wi_735) (fun _ h9 => h9) rfl de_M_isAsked_138 ?_
                    refine lv_aload_n hx hb de_M_isAsked_141 rfl (lv_at hl 2 rfl) ?_
                    refine dk_get (a := h) (v := .ref D.kf) (C := kn_M) (T := kt_M) (N := 22) hx hb hts ki_M hown hK hP h_4901 rfl 8 (by decide) (hts _ wi_722) (fun _ h9 => h9) rfl de_M_isAsked_142 ?_
                    refine lv_iload hx hb de_M_isAsked_145 (lv_at hl 6 rfl) ?_
                    refine dk_iald (a := D.kf) hx hb hK hP h_4902 j rfl (by omega) (by omega) de_M_isAsked_147 ?_
                    refine lv_ldc2 (v := fa_L 1) hx hb hown (hts _ wi_897) de_M_isAsked_148 ?_
                    refine lv_iload hx hb de_M_isAsked_151 (lv_at hl 5 rfl) ?_
                    refine dk_calli (va_runS (As := [.int (nI (μ.kf j)), .long (fa_L 1), .int (nI N9)]) (rest := [.ref D.bt]) ⟨hx, hb, hml, hown, hts⟩ (c_M_bit l G w_4898 (μ.kf j) 1 N9 (by decide) hNp.1 (by omega)) (va_cwS 3 hts (wd_gS wi_896 wi_894 wi_895 wi_8) rfl rfl rfl (by decide +kernel) ⟨Nat.le_of_ble_eq_true rfl, Nat.le_of_ble_eq_true rfl⟩) (dk_preS hE hP hS) rfl rfl hl.1 rfl (lv_room (Nat.le_of_ble_eq_true rfl)) de_M_isAsked_153 ⟨(by first | exact Nat.le_of_ble_eq_true rfl | (simp only [Nat.zero_add]; omega) | omega), (by first | exact Nat.le_of_ble_eq_true rfl | (simp only [Nat.zero_add]; omega) | omega)⟩) hS (fun r_4917 w_4915 H locs hq_4916 hP hS => ?_)
                    obtain ⟨hr_4918, he_4919⟩ := hq_4916
                    subst hr_4918
                    rw [he_4919] at hP
                    have hm1 := Nat.mod_lt (hv_k (μ.kf j) 1) hNp.1
                    refine lv_iconst (v := nI 1) hx hb de_M_isAsked_156 (by decide) ?_
                    refine dk_zast (a := D.bt) (x := (bo_i true)) hx hb hK hP hS h_4900 (hv_k (μ.kf j) 1 % N9) rfl (by omega) (by omega) (bo_vn true) de_M_isAsked_157 (fun H locs w_4920 hw_4921 hP hS => ?_)
                    rw [up_bo] at hw_4921
                    have h_4922 : w_4920 D.bt = some (114, dk_cz G 6000 (fun i9 => bo_i ((va_up (va_up (bs_B μ r0 N9 j) (hv_k (μ.kf j) 0 % N9) true) (hv_k (μ.kf j) 1 % N9) true) i9))) := dk_here hw_4921
                    have h_4923 : w_4920 h = some (100, .inr (cx_M, [.int (nI μ.er), .int (nI μ.n), .int (nI μ.sq), .int (nI μ.sf), .int (nI μ.rs), .int (rI μ.ba), .int (nI μ.pr), .int (nI μ.mi), .ref D.kf, .ref D.nf, .ref D.rf, .ref D.lf, .ref D.sv, .ref D.bk, .ref D.od, .ref D.vf, .ref D.bv, .ref D.df, .ref D.ss, .ref D.bd, .ref D.ks, .ref D.bt])) := dk_keep hw_4921 h_4900 h_4901 (by decide)
                    have h_4924 : w_4920 D.kf = some (101, dk_ci G 700 (fun i9 => nI (μ.kf i9))) := dk_keep hw_4921 h_4900 h_4902 (by decide)
                    have h_4925 : w_4920 D.nf = some (102, dk_ci G 700 (fun i9 => nI (μ.nf i9))) := dk_keep hw_4921 h_4900 h_4903 (by decide)
                    have h_4926 : w_4920 D.rf = some (103, dk_ci G 700 (fun i9 => rI (μ.rf i9))) := dk_keep hw_4921 h_4900 h_4904 (by decide)
                    have h_4927 : w_4920 D.lf = some (104, dk_ci G 5000 (fun i9 => rI (μ.lf i9))) := dk_keep hw_4921 h_4900 h_4905 (by decide)
                    have h_4928 : w_4920 D.sv = some (105, dk_ci G 6 (fun i9 => nI (μ.sv i9))) := dk_keep hw_4921 h_4900 h_4906 (by decide)
                    have h_4929 : w_4920 D.bk = some (106, dk_ci G 16 (fun i9 => nI (μ.bk i9))) := dk_keep hw_4921 h_4900 h_4907 (by decide)
                    have h_4930 : w_4920 D.od = some (107, dk_ci G 700 (fun i9 => nI (μ.od i9))) := dk_keep hw_4921 h_4900 h_4908 (by decide)
                    have h_4931 : w_4920 D.vf = some (108, dk_cl G 700 (fun i9 => μ.vf i9)) := dk_keep hw_4921 h_4900 h_4909 (by decide)
                    have h_4932 : w_4920 D.bv = some (109, dk_cl G 16 (fun i9 => μ.bv i9)) := dk_keep hw_4921 h_4900 h_4910 (by decide)
                    have h_4933 : w_4920 D.df = some (110, dk_cz G 700 (fun i9 => bo_i (μ.df i9))) := dk_keep hw_4921 h_4900 h_4911 (by decide)
                    have h_4934 : w_4920 D.ss = some (111, dk_cz G 6 (fun i9 => bo_i (μ.ss i9))) := dk_keep hw_4921 h_4900 h_4912 (by decide)
                    have h_4935 : w_4920 D.bd = some (112, dk_cz G 16 (fun i9 => bo_i (μ.bd i9))) := dk_keep hw_4921 h_4900 h_4913 (by decide)
                    have h_4936 : w_4920 D.ks = some (113, dk_cz G 700 (fun i9 => bo_i (μ.ks i9))) := dk_keep hw_4921 h_4900 h_4914 (by decide)
                    refine lv_aload_n hx hb de_M_isAsked_158 rfl (lv_at hl 2 rfl) ?_
                    refine dk_get (a := h) (v := .ref D.bt) (C := kn_M) (T := kt_M) (N := 22) hx hb hts ki_M hown hK hP h_4923 rfl 21 (by decide) (hts _ wi_735) (fun _ h9 => h9) rfl de_M_isAsked_159 ?_
                    refine lv_aload_n hx hb de_M_isAsked_162 rfl (lv_at hl 2 rfl) ?_
                    refine dk_get (a := h) (v := .ref D.kf) (C := kn_M) (T := kt_M) (N := 22) hx hb hts ki_M hown hK hP h_4923 rfl 8 (by decide) (hts _ wi_722) (fun _ h9 => h9) rfl de_M_isAsked_163 ?_
                    refine lv_iload hx hb de_M_isAsked_166 (lv_at hl 6 rfl) ?_
                    refine dk_iald (a := D.kf) hx hb hK hP h_4924 j rfl (by omega) (by omega) de_M_isAsked_168 ?_
                    refine lv_ldc2 (v := fa_L 2) hx hb hown (hts _ wi_898) de_M_isAsked_169 ?_
                    refine lv_iload hx hb de_M_isAsked_172 (lv_at hl 5 rfl) ?_
                    refine dk_calli (va_runS (As := [.int (nI (μ.kf j)), .long (fa_L 2), .int (nI N9)]) (rest := [.ref D.bt]) ⟨hx, hb, hml, hown, hts⟩ (c_M_bit l G w_4920 (μ.kf j) 2 N9 (by decide) hNp.1 (by omega)) (va_cwS 3 hts (wd_gS wi_896 wi_894 wi_895 wi_8) rfl rfl rfl (by decide +kernel) ⟨Nat.le_of_ble_eq_true rfl, Nat.le_of_ble_eq_true rfl⟩) (dk_preS hE hP hS) rfl rfl hl.1 rfl (lv_room (Nat.le_of_ble_eq_true rfl)) de_M_isAsked_174 ⟨(by first | exact Nat.le_of_ble_eq_true rfl | (simp only [Nat.zero_add]; omega) | omega), (by first | exact Nat.le_of_ble_eq_true rfl | (simp only [Nat.zero_add]; omega) | omega)⟩) hS (fun r_4939 w_4937 H locs hq_4938 hP hS => ?_)
                    obtain ⟨hr_4940, he_4941⟩ := hq_4938
                    subst hr_4940
                    rw [he_4941] at hP
                    have hm2 := Nat.mod_lt (hv_k (μ.kf j) 2) hNp.1
                    refine lv_iconst (v := nI 1) hx hb de_M_isAsked_177 (by decide) ?_
                    refine dk_zast (a := D.bt) (x := (bo_i true)) hx hb hK hP hS h_4922 (hv_k (μ.kf j) 2 % N9) rfl (by omega) (by omega) (bo_vn true) de_M_isAsked_178 (fun H locs w_4942 hw_4943 hP hS => ?_)
                    rw [up_bo] at hw_4943
                    have h_4944 : w_4942 D.bt = some (114, dk_cz G 6000 (fun i9 => bo_i ((va_up (va_up (va_up (bs_B μ r0 N9 j) (hv_k (μ.kf j) 0 % N9) true) (hv_k (μ.kf j) 1 % N9) true) (hv_k (μ.kf j) 2 % N9) true) i9))) := dk_here hw_4943
                    have h_4945 : w_4942 h = some (100, .inr (cx_M, [.int (nI μ.er), .int (nI μ.n), .int (nI μ.sq), .int (nI μ.sf), .int (nI μ.rs), .int (rI μ.ba), .int (nI μ.pr), .int (nI μ.mi), .ref D.kf, .ref D.nf, .ref D.rf, .ref D.lf, .ref D.sv, .ref D.bk, .ref D.od, .ref D.vf, .ref D.bv, .ref D.df, .ref D.ss, .ref D.bd, .ref D.ks, .ref D.bt])) := dk_keep hw_4943 h_4922 h_4923 (by decide)
                    have h_4946 : w_4942 D.kf = some (101, dk_ci G 700 (fun i9 => nI (μ.kf i9))) := dk_keep hw_4943 h_4922 h_4924 (by decide)
                    have h_4947 : w_4942 D.nf = some (102, dk_ci G 700 (fun i9 => nI (μ.nf i9))) := dk_keep hw_4943 h_4922 h_4925 (by decide)
                    have h_4948 : w_4942 D.rf = some (103, dk_ci G 700 (fun i9 => rI (μ.rf i9))) := dk_keep hw_4943 h_4922 h_4926 (by decide)
                    have h_4949 : w_4942 D.lf = some (104, dk_ci G 5000 (fun i9 => rI (μ.lf i9))) := dk_keep hw_4943 h_4922 h_4927 (by decide)
                    have h_4950 : w_4942 D.sv = some (105, dk_ci G 6 (fun i9 => nI (μ.sv i9))) := dk_keep hw_4943 h_4922 h_4928 (by decide)
                    have h_4951 : w_4942 D.bk = some (106, dk_ci G 16 (fun i9 => nI (μ.bk i9))) := dk_keep hw_4943 h_4922 h_4929 (by decide)
                    have h_4952 : w_4942 D.od = some (107, dk_ci G 700 (fun i9 => nI (μ.od i9))) := dk_keep hw_4943 h_4922 h_4930 (by decide)
                    have h_4953 : w_4942 D.vf = some (108, dk_cl G 700 (fun i9 => μ.vf i9)) := dk_keep hw_4943 h_4922 h_4931 (by decide)
                    have h_4954 : w_4942 D.bv = some (109, dk_cl G 16 (fun i9 => μ.bv i9)) := dk_keep hw_4943 h_4922 h_4932 (by decide)
                    have h_4955 : w_4942 D.df = some (110, dk_cz G 700 (fun i9 => bo_i (μ.df i9))) := dk_keep hw_4943 h_4922 h_4933 (by decide)
                    have h_4956 : w_4942 D.ss = some (111, dk_cz G 6 (fun i9 => bo_i (μ.ss i9))) := dk_keep hw_4943 h_4922 h_4934 (by decide)
                    have h_4957 : w_4942 D.bd = some (112, dk_cz G 16 (fun i9 => bo_i (μ.bd i9))) := dk_keep hw_4943 h_4922 h_4935 (by decide)
                    have h_4958 : w_4942 D.ks = some (113, dk_cz G 700 (fun i9 => bo_i (μ.ks i9))) := dk_keep hw_4943 h_4922 h_4936 (by decide)
                    have hm_4959 : md_at G w_4942 h D ((μ.bt' (bs_B μ r0 N9 j)).bt' (va_up (va_up (va_up (bs_B μ r0 N9 j) (hv_k (μ.kf j) 0 % N9) true) (hv_k (μ.kf j) 1 % N9) true) (hv_k (μ.kf j) 2 % N9) true)) := ⟨h_4945, h_4946, h_4947, h_4948, h_4949, h_4950, h_4951, h_4952, h_4953, h_4954, h_4955, h_4956, h_4957, h_4958, h_4944⟩
                    refine lv_iinc (v := nI (j + 1)) (lv' := [(6, .int (nI (j + 1))), (4, .int (nI (μ.kf j))), (3, .int (nI (μ.kf j))), (0, .ref h), (1, .int (nI r0)), (2, .int (nI k)), (5, .int (nI N9))]) hx hb de_M_isAsked_179 hl (k := 6) rfl (nx_inc j) (by decide) rfl (fun ls hl => ?_)
                    refine lv_goto (tgt := 53) hx hb de_M_isAsked_182 (by decide) ?_
                    replace hl : lv_has ls 7 [(6, .int (nI (j + 1))), (4, .int (rI (as_m μ r0 (j + 1)))), (3, .int (nI (as_l μ r0 (j + 1)))), (0, .ref h), (1, .int (nI r0)), (2, .int (nI k)), (5, .int (nI N9))] := by rw [as_ly e7 c_4689, as_my e7 ham b1 c_4825]; exact hl
                    exact ih2 (j + 1) (by omega) (by omega) _ _ _ (by rw [bs_By e7 hm0 hm1 hm2]; exact hm_4959) (hg2.tr ((((dk_fr.rf).tr ((dk_fr.up (T := md_T) ha_4662 (by unfold md_T; omega)).eq hw_4899)).tr ((dk_fr.up (T := md_T) h_4900 (by unfold md_T; omega)).eq hw_4921)).tr ((dk_fr.up (T := md_T) h_4922 (by unfold md_T; omega)).eq hw_4943))) hP hS _ (lv_sub hl [3, 4, 5, 2, 1, 6, 0] rfl)
              · have e7 : ¬ μ.rf j = some r0 := fun z => c_4688 (hreq.mpr z)
                refine lv_goto (tgt := 179) hx hb de_M_isAsked_73 (by decide) ?_
                refine lv_iinc (v := nI (j + 1)) (lv' := [(6, .int (nI (j + 1))), (0, .ref h), (1, .int (nI r0)), (2, .int (nI k)), (3, .int (nI (as_l μ r0 j))), (4, .int (rI (as_m μ r0 j))), (5, .int (nI N9))]) hx hb de_M_isAsked_179 hl (k := 6) rfl (nx_inc j) (by decide) rfl (fun ls hl => ?_)
                refine lv_goto (tgt := 53) hx hb de_M_isAsked_182 (by decide) ?_
                rw [← as_ln e7, ← as_mn e7] at hl
                exact ih2 (j + 1) (by omega) (by omega) _ _ _ (by rw [bs_Bn e7]; exact hmv2) hg2 hP hS _ (lv_sub hl [1, 2, 3, 4, 5, 6, 0] rfl)
        exact lp2 (μ.n + 1) 0 (by omega) (Nat.zero_le _) _ _ _ (by rw [bs_B0, ← e9]; exact hmv) hg hP hS _ (lv_sub hl [1, 2, 3, 4, 5, 6, 0] rfl)
      · refine lv_aload_n hx hb de_M_isAsked_36 rfl (lv_at hl 0 rfl) ?_
        refine dk_get (a := h) (v := .ref D.bt) (C := kn_M) (T := kt_M) (N := 22) hx hb hts ki_M hown hK hP hh_4614 rfl 21 (by decide) (hts _ wi_735) (fun _ h9 => h9) rfl de_M_isAsked_37 ?_
        refine lv_iload hx hb de_M_isAsked_40 (lv_at hl 6 rfl) ?_
        refine lv_iconst (v := nI 0) hx hb de_M_isAsked_42 (by decide) ?_
        refine dk_zast (a := D.bt) (x := (bo_i false)) hx hb hK hP hS ha_4628 i rfl (by omega) (by omega) (bo_vn false) de_M_isAsked_43 (fun H locs w_4630 hw_4631 hP hS => ?_)
        rw [up_bo] at hw_4631
        have h_4632 : w_4630 D.bt = some (114, dk_cz G 6000 (fun i9 => bo_i ((va_up (fun b => if b < i then false else μ.bt b) i false) i9))) := dk_here hw_4631
        have h_4633 : w_4630 h = some (100, .inr (cx_M, [.int (nI μ.er), .int (nI μ.n), .int (nI μ.sq), .int (nI μ.sf), .int (nI μ.rs), .int (rI μ.ba), .int (nI μ.pr), .int (nI μ.mi), .ref D.kf, .ref D.nf, .ref D.rf, .ref D.lf, .ref D.sv, .ref D.bk, .ref D.od, .ref D.vf, .ref D.bv, .ref D.df, .ref D.ss, .ref D.bd, .ref D.ks, .ref D.bt])) := dk_keep hw_4631 ha_4628 hh_4614 (by decide)
        have h_4634 : w_4630 D.kf = some (101, dk_ci G 700 (fun i9 => nI (μ.kf i9))) := dk_keep hw_4631 ha_4628 ha_4615 (by decide)
        have h_4635 : w_4630 D.nf = some (102, dk_ci G 700 (fun i9 => nI (μ.nf i9))) := dk_keep hw_4631 ha_4628 ha_4616 (by decide)
        have h_4636 : w_4630 D.rf = some (103, dk_ci G 700 (fun i9 => rI (μ.rf i9))) := dk_keep hw_4631 ha_4628 ha_4617 (by decide)
        have h_4637 : w_4630 D.lf = some (104, dk_ci G 5000 (fun i9 => rI (μ.lf i9))) := dk_keep hw_4631 ha_4628 ha_4618 (by decide)
        have h_4638 : w_4630 D.sv = some (105, dk_ci G 6 (fun i9 => nI (μ.sv i9))) := dk_keep hw_4631 ha_4628 ha_4619 (by decide)
        have h_4639 : w_4630 D.bk = some (106, dk_ci G 16 (fun i9 => nI (μ.bk i9))) := dk_keep hw_4631 ha_4628 ha_4620 (by decide)
        have h_4640 : w_4630 D.od = some (107, dk_ci G 700 (fun i9 => nI (μ.od i9))) := dk_keep hw_4631 ha_4628 ha_4621 (by decide)
        have h_4641 : w_4630 D.vf = some (108, dk_cl G 700 (fun i9 => μ.vf i9)) := dk_keep hw_4631 ha_4628 ha_4622 (by decide)
        have h_4642 : w_4630 D.bv = some (109, dk_cl G 16 (fun i9 => μ.bv i9)) := dk_keep hw_4631 ha_4628 ha_4623 (by decide)
        have h_4643 : w_4630 D.df = some (110, dk_cz G 700 (fun i9 => bo_i (μ.df i9))) := dk_keep hw_4631 ha_4628 ha_4624 (by decide)
        have h_4644 : w_4630 D.ss = some (111, dk_cz G 6 (fun i9 => bo_i (μ.ss i9))) := dk_keep hw_4631 ha_4628 ha_4625 (by decide)
        have h_4645 : w_4630 D.bd = some (112, dk_cz G 16 (fun i9 => bo_i (μ.bd i9))) := dk_keep hw_4631 ha_4628 ha_4626 (by decide)
        have h_4646 : w_4630 D.ks = some (113, dk_cz G 700 (fun i9 => bo_i (μ.ks i9))) := dk_keep hw_4631 ha_4628 ha_4627 (by decide)
        have hm_4647 : md_at G w_4630 h D ((μ.bt' (fun b => if b < i then false else μ.bt b)).bt' (va_up (fun b => if b < i then false else μ.bt b) i false)) := ⟨h_4633, h_4634, h_4635, h_4636, h_4637, h_4638, h_4639, h_4640, h_4641, h_4642, h_4643, h_4644, h_4645, h_4646, h_4632⟩
        refine lv_iinc (v := nI (i + 1)) (lv' := [(6, .int (nI (i + 1))), (0, .ref h), (1, .int (nI r0)), (2, .int (nI k)), (3, .int (nI 1024)), (4, .int (rI none)), (5, .int (nI N9))]) hx hb de_M_isAsked_44 hl (k := 6) rfl (nx_inc i) (by decide) rfl (fun ls hl => ?_)
        refine lv_goto (tgt := 29) hx hb de_M_isAsked_47 (by decide) ?_
        exact ih (i + 1) (by omega) (by omega) _ _ _ (by rw [bs_cs]; exact hm_4647) (hg.tr ((dk_fr.rf).tr ((dk_fr.up (T := md_T) ha_4628 (by unfold md_T; omega)).eq hw_4631))) hP hS _ (lv_sub hl [1, 2, 3, 4, 5, 6, 0] rfl)
  replace hl : lv_has ls 7 [(6, .int (nI 0)), (5, .int (nI N9)), (4, .int (rI none)), (3, .int (nI 1024)), (0, .ref h), (1, .int (nI r0)), (2, .int (nI k))] := hl
  exact lp (N9 + 1) 0 (by omega) (Nat.zero_le _) _ _ _ (by rw [bs_c0]; exact hm) dk_fr.rf hP hS _ (lv_sub hl [4, 5, 6, 3, 2, 1, 0] rfl)
