/-! RunKeeperModel: probing (printed by gen/c_md7.py) -/
def sm_b (μ : md_S) (r k : Nat) : Nat → Bool
  | 0 => false
  | j + 1 => sm_b μ r k j || (decide (μ.rf j = some r) && decide (μ.kf j = k))
def pm_q (μ : md_S) (k r : Nat) (q : Nat × Nat) : Nat × Nat := if am_b μ r k = true then (q.1 + 1, if sm_b μ r k μ.n = true then q.2 else q.2 + 1) else q
/-- the runs below n of level l, the latest first, up to the run o -/
def pm_r (μ : md_S) (k : Nat) (o : Option Nat) (l : Nat) : Nat → Nat × Nat → Bool × (Nat × Nat)
  | 0, q => (false, q)
  | r + 1, q => if μ.lf r = some l then (if o = some r then (true, pm_q μ k r q) else pm_r μ k o l r (pm_q μ k r q)) else pm_r μ k o l r q
def pm_l (μ : md_S) (k : Nat) (o : Option Nat) : Nat → Nat × Nat → Nat × Nat
  | 0, q => q
  | n + 1, q => if (pm_r μ k o (5 - n) μ.rs q).1 = true then (pm_r μ k o (5 - n) μ.rs q).2 else pm_l μ k o n (pm_r μ k o (5 - n) μ.rs q).2
def pm_c (μ : md_S) (k : Nat) (o : Option Nat) (i : Nat) (x : Bool × (Nat × Nat)) : Nat × Nat := if x.1 = true then x.2 else pm_l μ k o (6 - (i + 1)) x.2
theorem pm_s {μ : md_S} {k : Nat} {o : Option Nat} {i : Nat} {q : Nat × Nat} (hi : i < 6) : pm_l μ k o (6 - i) q = pm_c μ k o i (pm_r μ k o i μ.rs q) := by
  have e : 6 - i = (6 - (i + 1)) + 1 := by omega
  have e2 : 5 - (6 - (i + 1)) = i := by omega
  rw [e]
  simp only [pm_l, pm_c, e2]
theorem pm_n {μ : md_S} {k : Nat} {o : Option Nat} {l r : Nat} {q : Nat × Nat} (h : ¬ μ.lf r = some l) : pm_r μ k o l (r + 1) q = pm_r μ k o l r q := if_neg h
theorem pm_g {μ : md_S} {k : Nat} {o : Option Nat} {l r : Nat} {q : Nat × Nat} (h : μ.lf r = some l) (h1 : ¬ o = some r) : pm_r μ k o l (r + 1) q = pm_r μ k o l r (pm_q μ k r q) := by rw [pm_r, if_pos h, if_neg h1]
theorem pm_y {μ : md_S} {k : Nat} {o : Option Nat} {l r : Nat} {q : Nat × Nat} (h : μ.lf r = some l) (h1 : o = some r) : pm_r μ k o l (r + 1) q = (true, pm_q μ k r q) := by rw [pm_r, if_pos h, if_pos h1]
/-- what is probed for the found entry b of the run o -/
def pm_K (μ : md_S) (k : Nat) (o : Option Nat) (b : Option Nat) : Nat × Nat := match b with
  | none => pm_l μ k o 6 (0, 0)
  | some _ => match o with
    | none => (0, 0)
    | some r => pm_l μ k (some r) 6 (0, 0)
theorem pm_K0 {μ : md_S} {k : Nat} {o b : Option Nat} (h : b = none) : pm_K μ k o b = pm_l μ k o 6 (0, 0) := by subst h; rfl
theorem pm_K1 {μ : md_S} {k q r : Nat} {o b : Option Nat} (h : b = some q) (h1 : o = some r) : pm_K μ k o b = pm_l μ k o 6 (0, 0) := by subst h; subst h1; rfl
theorem pm_K2 {μ : md_S} {k q : Nat} {o b : Option Nat} (h : b = some q) (h1 : o = none) : pm_K μ k o b = (0, 0) := by subst h; subst h1; rfl
theorem am_c {μ ν : md_S} {r k : Nat} (h1 : ν.rf = μ.rf) (h2 : ν.kf = μ.kf) (h3 : ν.n = μ.n) : am_b ν r k = am_b μ r k := by
  have a1 : ∀ j, as_l ν r j = as_l μ r j := by
    intro j
    induction j with
    | zero => rfl
    | succ j ih => simp only [as_l, ih, h1, h2]
  have a2 : ∀ j, as_m ν r j = as_m μ r j := by
    intro j
    induction j with
    | zero => rfl
    | succ j ih => simp only [as_m, ih, h1, h2]
  have a3 : ∀ nb j b, bs_f ν r nb j b = bs_f μ r nb j b := by
    intro nb j b
    induction j with
    | zero => rfl
    | succ j ih => simp only [bs_f, ih, h1, h2]
  have a4 : am_n ν r = am_n μ r := by simp only [am_n, h1, h3]
  simp only [am_b, a1, a2, a3, a4, h3]
abbrev rm_M_probe : Room := { frames := 2, cells := 0, slots := 0, locals := 49 }
set_option maxHeartbeats 4000000 in
set_option maxRecDepth 100000 in
theorem c_M_probe (l : Launch) (G : dk_G) (w : dk_H) (h : Nat) (D : md_D) (μ : md_S) (hm : md_at G w h D μ) (hmo : md_ok μ) (k : Nat) (hk0 : k < 1024) (b : Option Nat) (hbn : ∀ q, b = some q → q < μ.n) (hlive : ∀ r l, r < μ.rs → μ.lf r = some l → 0 < ct_f (fun k9 => decide (μ.rf k9 = some r)) μ.n) : dk_Mv l my_M_probe (wd_c my_M_probe mb_M_probe 7 none) rm_M_probe G w [.ref h, .int (nI k), .int (rI b)] (fun w1 => (∃ B, md_at G w1 h D (((μ.pr' (pm_K μ k (b.bind μ.rf) b).1).mi' (pm_K μ k (b.bind μ.rf) b).2).bt' B)) ∧ dk_fr md_T w w1) 0 0 := by
  obtain ⟨ok1, ok2, ok3, ok4, ok5, ok6, ok7, ok8, ok9, ok10, ok11⟩ := id hmo
  have hbneg := rI_neg (a := b) (fun q hq => by have := hbn q hq; omega)
  refine dk_enter (lv := [(0, .ref h), (1, .int (nI k)), (2, .int (rI b))]) (by decide) (Nat.le_of_ble_eq_true rfl) rfl (fun p e s m args below meth c ls Q hQ C hP hS hl => ?_)
  obtain ⟨hx, hb, hr, hml, hlocks, hown, hnm, hts, hE⟩ := C
  have hK := hE.1
  have hN := hE.2.1
  have hh_4960 : w h = some (100, .inr (cx_M, [.int (nI μ.er), .int (nI μ.n), .int (nI μ.sq), .int (nI μ.sf), .int (nI μ.rs), .int (rI μ.ba), .int (nI μ.pr), .int (nI μ.mi), .ref D.kf, .ref D.nf, .ref D.rf, .ref D.lf, .ref D.sv, .ref D.bk, .ref D.od, .ref D.vf, .ref D.bv, .ref D.df, .ref D.ss, .ref D.bd, .ref D.ks, .ref D.bt])) := hm.o
  refine lv_aload_n hx hb de_M_probe_0 rfl (lv_at hl 0 rfl) ?_
  refine lv_iconst (v := nI 0) hx hb de_M_probe_1 (by decide) ?_
  refine dk_put (a := h) (v := .int (nI 0)) (ty := .int) (C := kn_M) (T := kt_M) (N := 22) hx hb hts ki_M ky_M kk_M kd_M hown hK hP hS hh_4960 rfl 6 (by decide) (hts _ wi_720) (fun _ h9 => h9) rfl (by decide +kernel) rfl rfl (Nat.le_of_ble_eq_true rfl) de_M_probe_2 (fun H locs w_4961 hw_4962 hP hS => ?_)
  have h_4963 : w_4961 h = some (100, .inr (cx_M, [.int (nI μ.er), .int (nI μ.n), .int (nI μ.sq), .int (nI μ.sf), .int (nI μ.rs), .int (rI μ.ba), .int (nI 0), .int (nI μ.mi), .ref D.kf, .ref D.nf, .ref D.rf, .ref D.lf, .ref D.sv, .ref D.bk, .ref D.od, .ref D.vf, .ref D.bv, .ref D.df, .ref D.ss, .ref D.bd, .ref D.ks, .ref D.bt])) := dk_here hw_4962
  have h_4964 : w_4961 D.kf = some (101, dk_ci G 700 (fun i9 => nI (μ.kf i9))) := dk_keep hw_4962 hh_4960 hm.kf (by decide)
  have h_4965 : w_4961 D.nf = some (102, dk_ci G 700 (fun i9 => nI (μ.nf i9))) := dk_keep hw_4962 hh_4960 hm.nf (by decide)
  have h_4966 : w_4961 D.rf = some (103, dk_ci G 700 (fun i9 => rI (μ.rf i9))) := dk_keep hw_4962 hh_4960 hm.rf (by decide)
  have h_4967 : w_4961 D.lf = some (104, dk_ci G 5000 (fun i9 => rI (μ.lf i9))) := dk_keep hw_4962 hh_4960 hm.lf (by decide)
  have h_4968 : w_4961 D.sv = some (105, dk_ci G 6 (fun i9 => nI (μ.sv i9))) := dk_keep hw_4962 hh_4960 hm.sv (by decide)
  have h_4969 : w_4961 D.bk = some (106, dk_ci G 16 (fun i9 => nI (μ.bk i9))) := dk_keep hw_4962 hh_4960 hm.bk (by decide)
  have h_4970 : w_4961 D.od = some (107, dk_ci G 700 (fun i9 => nI (μ.od i9))) := dk_keep hw_4962 hh_4960 hm.od (by decide)
  have h_4971 : w_4961 D.vf = some (108, dk_cl G 700 (fun i9 => μ.vf i9)) := dk_keep hw_4962 hh_4960 hm.vf (by decide)
  have h_4972 : w_4961 D.bv = some (109, dk_cl G 16 (fun i9 => μ.bv i9)) := dk_keep hw_4962 hh_4960 hm.bv (by decide)
  have h_4973 : w_4961 D.df = some (110, dk_cz G 700 (fun i9 => bo_i (μ.df i9))) := dk_keep hw_4962 hh_4960 hm.df (by decide)
  have h_4974 : w_4961 D.ss = some (111, dk_cz G 6 (fun i9 => bo_i (μ.ss i9))) := dk_keep hw_4962 hh_4960 hm.ss (by decide)
  have h_4975 : w_4961 D.bd = some (112, dk_cz G 16 (fun i9 => bo_i (μ.bd i9))) := dk_keep hw_4962 hh_4960 hm.bd (by decide)
  have h_4976 : w_4961 D.ks = some (113, dk_cz G 700 (fun i9 => bo_i (μ.ks i9))) := dk_keep hw_4962 hh_4960 hm.ks (by decide)
  have h_4977 : w_4961 D.bt = some (114, dk_cz G 6000 (fun i9 => bo_i (μ.bt i9))) := dk_keep hw_4962 hh_4960 hm.bt (by decide)
  refine lv_aload_n hx hb de_M_probe_5 rfl (lv_at hl 0 rfl) ?_
  refine lv_iconst (v := nI 0) hx hb de_M_probe_6 (by decide) ?_
  refine dk_put (a := h) (v := .int (nI 0)) (ty := .int) (C := kn_M) (T := kt_M) (N := 22) hx hb hts ki_M ky_M kk_M kd_M hown hK hP hS h_4963 rfl 7 (by decide) (hts _ wi_721) (fun _ h9 => h9) rfl (by decide +kernel) rfl rfl (Nat.le_of_ble_eq_true rfl) de_M_probe_7 (fun H locs w_4978 hw_4979 hP hS => ?_)
  have h_4980 : w_4978 h = some (100, .inr (cx_M, [.int (nI μ.er), .int (nI μ.n), .int (nI μ.sq), .int (nI μ.sf), .int (nI μ.rs), .int (rI μ.ba), .int (nI 0), .int (nI 0), .ref D.kf, .ref D.nf, .ref D.rf, .ref D.lf, .ref D.sv, .ref D.bk, .ref D.od, .ref D.vf, .ref D.bv, .ref D.df, .ref D.ss, .ref D.bd, .ref D.ks, .ref D.bt])) := dk_here hw_4979
  have h_4981 : w_4978 D.kf = some (101, dk_ci G 700 (fun i9 => nI (μ.kf i9))) := dk_keep hw_4979 h_4963 h_4964 (by decide)
  have h_4982 : w_4978 D.nf = some (102, dk_ci G 700 (fun i9 => nI (μ.nf i9))) := dk_keep hw_4979 h_4963 h_4965 (by decide)
  have h_4983 : w_4978 D.rf = some (103, dk_ci G 700 (fun i9 => rI (μ.rf i9))) := dk_keep hw_4979 h_4963 h_4966 (by decide)
  have h_4984 : w_4978 D.lf = some (104, dk_ci G 5000 (fun i9 => rI (μ.lf i9))) := dk_keep hw_4979 h_4963 h_4967 (by decide)
  have h_4985 : w_4978 D.sv = some (105, dk_ci G 6 (fun i9 => nI (μ.sv i9))) := dk_keep hw_4979 h_4963 h_4968 (by decide)
  have h_4986 : w_4978 D.bk = some (106, dk_ci G 16 (fun i9 => nI (μ.bk i9))) := dk_keep hw_4979 h_4963 h_4969 (by decide)
  have h_4987 : w_4978 D.od = some (107, dk_ci G 700 (fun i9 => nI (μ.od i9))) := dk_keep hw_4979 h_4963 h_4970 (by decide)
  have h_4988 : w_4978 D.vf = some (108, dk_cl G 700 (fun i9 => μ.vf i9)) := dk_keep hw_4979 h_4963 h_4971 (by decide)
  have h_4989 : w_4978 D.bv = some (109, dk_cl G 16 (fun i9 => μ.bv i9)) := dk_keep hw_4979 h_4963 h_4972 (by decide)
  have h_4990 : w_4978 D.df = some (110, dk_cz G 700 (fun i9 => bo_i (μ.df i9))) := dk_keep hw_4979 h_4963 h_4973 (by decide)
  have h_4991 : w_4978 D.ss = some (111, dk_cz G 6 (fun i9 => bo_i (μ.ss i9))) := dk_keep hw_4979 h_4963 h_4974 (by decide)
  have h_4992 : w_4978 D.bd = some (112, dk_cz G 16 (fun i9 => bo_i (μ.bd i9))) := dk_keep hw_4979 h_4963 h_4975 (by decide)
  have h_4993 : w_4978 D.ks = some (113, dk_cz G 700 (fun i9 => bo_i (μ.ks i9))) := dk_keep hw_4979 h_4963 h_4976 (by decide)
  have h_4994 : w_4978 D.bt = some (114, dk_cz G 6000 (fun i9 => bo_i (μ.bt i9))) := dk_keep hw_4979 h_4963 h_4977 (by decide)
  have hm_4995 : md_at G w_4978 h D ((μ.pr' 0).mi' 0) := ⟨h_4980, h_4981, h_4982, h_4983, h_4984, h_4985, h_4986, h_4987, h_4988, h_4989, h_4990, h_4991, h_4992, h_4993, h_4994⟩
  have hh_4996 : w_4978 h = some (100, .inr (cx_M, [.int (nI μ.er), .int (nI μ.n), .int (nI μ.sq), .int (nI μ.sf), .int (nI μ.rs), .int (rI μ.ba), .int (nI 0), .int (nI 0), .ref D.kf, .ref D.nf, .ref D.rf, .ref D.lf, .ref D.sv, .ref D.bk, .ref D.od, .ref D.vf, .ref D.bv, .ref D.df, .ref D.ss, .ref D.bd, .ref D.ks, .ref D.bt])) := hm_4995.o
  have ha_4997 : w_4978 D.kf = some (101, dk_ci G 700 (fun i9 => nI (μ.kf i9))) := hm_4995.kf
  have ha_4998 : w_4978 D.nf = some (102, dk_ci G 700 (fun i9 => nI (μ.nf i9))) := hm_4995.nf
  have ha_4999 : w_4978 D.rf = some (103, dk_ci G 700 (fun i9 => rI (μ.rf i9))) := hm_4995.rf
  have ha_5000 : w_4978 D.lf = some (104, dk_ci G 5000 (fun i9 => rI (μ.lf i9))) := hm_4995.lf
  have ha_5001 : w_4978 D.sv = some (105, dk_ci G 6 (fun i9 => nI (μ.sv i9))) := hm_4995.sv
  have ha_5002 : w_4978 D.bk = some (106, dk_ci G 16 (fun i9 => nI (μ.bk i9))) := hm_4995.bk
  have ha_5003 : w_4978 D.od = some (107, dk_ci G 700 (fun i9 => nI (μ.od i9))) := hm_4995.od
  have ha_5004 : w_4978 D.vf = some (108, dk_cl G 700 (fun i9 => μ.vf i9)) := hm_4995.vf
  have ha_5005 : w_4978 D.bv = some (109, dk_cl G 16 (fun i9 => μ.bv i9)) := hm_4995.bv
  have ha_5006 : w_4978 D.df = some (110, dk_cz G 700 (fun i9 => bo_i (μ.df i9))) := hm_4995.df
  have ha_5007 : w_4978 D.ss = some (111, dk_cz G 6 (fun i9 => bo_i (μ.ss i9))) := hm_4995.ss
  have ha_5008 : w_4978 D.bd = some (112, dk_cz G 16 (fun i9 => bo_i (μ.bd i9))) := hm_4995.bd
  have ha_5009 : w_4978 D.ks = some (113, dk_cz G 700 (fun i9 => bo_i (μ.ks i9))) := hm_4995.ks
  have ha_5010 : w_4978 D.bt = some (114, dk_cz G 6000 (fun i9 => bo_i (μ.bt i9))) := hm_4995.bt
  refine lv_iload_n hx hb de_M_probe_10 rfl (lv_at hl 2 rfl) ?_
  refine lv_if_lt (tgt := 24) hx hb de_M_probe_11 (by decide) (fun c_5011 => ?_) (fun c_5011 => ?_)
  · refine lv_iconst (v := nI 0) hx hb de_M_probe_24 (by decide) ?_
    refine lv_istore_n (lv' := [(3, .int (nI 0)), (0, .ref h), (1, .int (nI k)), (2, .int (rI b))]) hx hb de_M_probe_25 rfl hl (by decide) rfl (fun ls hl => ?_)
    have lp : ∀ (zk : Nat) (i : Nat) (p9 : Nat) (m9 : Nat) (B : Nat → Bool), 6 - i < zk → (i ≤ 6) → (pm_l μ k (b.bind μ.rf) (6 - i) (p9, m9) = (pm_K μ k (b.bind μ.rf) b)) → ∀ (H : Heap) (locs : List Loc) (v : dk_H), (md_at G v h D (((μ.pr' p9).mi' m9).bt' B)) → (dk_fr md_T w v) → dk_P G v H → dk_S G s.heap H locs → ∀ (ls : Array Slot), lv_has ls 7 [(0, .ref h), (1, .int (nI k)), (2, .int (rI b)), (3, .int (nI i))] → W p l e rm_M_probe s m args below meth c H locs 0 0 Q (F0 m 26 ls []) := by
      intro zk
      induction zk with
      | zero =>
        intro i p9 m9 B hk
        exact absurd hk (by omega)
      | succ zk ih =>
        intro i p9 m9 B hk hi hres
        intro H locs v hmv hg hP hS
        intro ls hl
        have hh_5012 : v h = some (100, .inr (cx_M, [.int (nI μ.er), .int (nI μ.n), .int (nI μ.sq), .int (nI μ.sf), .int (nI μ.rs), .int (rI μ.ba), .int (nI p9), .int (nI m9), .ref D.kf, .ref D.nf, .ref D.rf, .ref D.lf, .ref D.sv, .ref D.bk, .ref D.od, .ref D.vf, .ref D.bv, .ref D.df, .ref D.ss, .ref D.bd, .ref D.ks, .ref D.bt])) := hmv.o
        have ha_5013 : v D.kf = some (101, dk_ci G 700 (fun i9 => nI (μ.kf i9))) := hmv.kf
        have ha_5014 : v D.nf = some (102, dk_ci G 700 (fun i9 => nI (μ.nf i9))) := hmv.nf
        have ha_5015 : v D.rf = some (103, dk_ci G 700 (fun i9 => rI (μ.rf i9))) := hmv.rf
        have ha_5016 : v D.lf = some (104, dk_ci G 5000 (fun i9 => rI (μ.lf i9))) := hmv.lf
        have ha_5017 : v D.sv = some (105, dk_ci G 6 (fun i9 => nI (μ.sv i9))) := hmv.sv
        have ha_5018 : v D.bk = some (106, dk_ci G 16 (fun i9 => nI (μ.bk i9))) := hmv.bk
        have ha_5019 : v D.od = some (107, dk_ci G 700 (fun i9 => nI (μ.od i9))) := hmv.od
        have ha_5020 : v D.vf = some (108, dk_cl G 700 (fun i9 => μ.vf i9)) := hmv.vf
        have ha_5021 : v D.bv = some (109, dk_cl G 16 (fun i9 => μ.bv i9)) := hmv.bv
        have ha_5022 : v D.df = some (110, dk_cz G 700 (fun i9 => bo_i (μ.df i9))) := hmv.df
        have ha_5023 : v D.ss = some (111, dk_cz G 6 (fun i9 => bo_i (μ.ss i9))) := hmv.ss
        have ha_5024 : v D.bd = some (112, dk_cz G 16 (fun i9 => bo_i (μ.bd i9))) := hmv.bd
        have ha_5025 : v D.ks = some (113, dk_cz G 700 (fun i9 => bo_i (μ.ks i9))) := hmv.ks
        have ha_5026 : v D.bt = some (114, dk_cz G 6000 (fun i9 => bo_i (B i9))) := hmv.bt
        refine lv_iload_n hx hb de_M_probe_26 rfl (lv_at hl 3 rfl) ?_
        refine lv_bipush (v := nI 6) hx hb de_M_probe_27 (by decide) ?_
        refine nx_icmp_ge (a := i) (b := 6) (tgt := 176) hx hb (by omega) (by omega) de_M_probe_29 (by decide) (fun c_5027 => ?_) (fun c_5027 => ?_)
        · have e9 : i = 6 := by omega
          subst e9
          have e8 : (pm_K μ k (b.bind μ.rf) b) = (p9, m9) := hres.symm
          exact dk_vret hQ hx hb hr hlocks hP hS (Nat.le_refl _) (Nat.le_refl _) (⟨⟨B, by rw [e8]; exact hmv⟩, hg⟩) de_M_probe_176
        · refine lv_aload_n hx hb de_M_probe_32 rfl (lv_at hl 0 rfl) ?_
          refine dk_get (a := h) (v := .int (nI μ.rs)) (C := kn_M) (T := kt_M) (N := 22) hx hb hts ki_M hown hK hP hh_5012 rfl 4 (by decide) (hts _ wi_718) (fun _ h9 => h9) rfl de_M_probe_33 ?_
          refine lv_iconst (v := nI 1) hx hb de_M_probe_36 (by decide) ?_
          refine lv_isub hx hb de_M_probe_37 ?_
          refine lv_istore (lv' := [(4, .int (mI μ.rs)), (0, .ref h), (1, .int (nI k)), (2, .int (rI b)), (3, .int (nI i))]) hx hb de_M_probe_38 hl (by decide) rfl (fun ls hl => ?_)
          have lp2 : ∀ (zk2 : Nat) (n2 : Nat) (p2 : Nat) (m2 : Nat) (B2 : Nat → Bool), n2 < zk2 → (n2 ≤ μ.rs) → (pm_c μ k (b.bind μ.rf) i (pm_r μ k (b.bind μ.rf) i n2 (p2, m2)) = (pm_K μ k (b.bind μ.rf) b)) → ∀ (H : Heap) (locs : List Loc) (v2 : dk_H), (md_at G v2 h D (((μ.pr' p2).mi' m2).bt' B2)) → (dk_fr md_T w v2) → dk_P G v2 H → dk_S G s.heap H locs → ∀ (ls : Array Slot), lv_has ls 7 [(0, .ref h), (1, .int (nI k)), (2, .int (rI b)), (3, .int (nI i)), (4, .int (mI n2))] → W p l e rm_M_probe s m args below meth c H locs 0 0 Q (F0 m 40 ls []) := by
            intro zk2
            induction zk2 with
            | zero =>
              intro n2 p2 m2 B2 hk
              exact absurd hk (by omega)
            | succ zk2 ih2 =>
              intro n2 p2 m2 B2 hk hn2 hres2
              intro H locs v2 hmv2 hg2 hP hS
              intro ls hl
              have hh_5028 : v2 h = some (100, .inr (cx_M, [.int (nI μ.er), .int (nI μ.n), .int (nI μ.sq), .int (nI μ.sf), .int (nI μ.rs), .int (rI μ.ba), .int (nI p2), .int (nI m2), .ref D.kf, .ref D.nf, .ref D.rf, .ref D.lf, .ref D.sv, .ref D.bk, .ref D.od, .ref D.vf, .ref D.bv, .ref D.df, .ref D.ss, .ref D.bd, .ref D.ks, .ref D.bt])) := hmv2.o
              have ha_5029 : v2 D.kf = some (101, dk_ci G 700 (fun i9 => nI (μ.kf i9))) := hmv2.kf
              have ha_5030 : v2 D.nf = some (102, dk_ci G 700 (fun i9 => nI (μ.nf i9))) := hmv2.nf
              have ha_5031 : v2 D.rf = some (103, dk_ci G 700 (fun i9 => rI (μ.rf i9))) := hmv2.rf
              have ha_5032 : v2 D.lf = some (104, dk_ci G 5000 (fun i9 => rI (μ.lf i9))) := hmv2.lf
              have ha_5033 : v2 D.sv = some (105, dk_ci G 6 (fun i9 => nI (μ.sv i9))) := hmv2.sv
              have ha_5034 : v2 D.bk = some (106, dk_ci G 16 (fun i9 => nI (μ.bk i9))) := hmv2.bk
              have ha_5035 : v2 D.od = some (107, dk_ci G 700 (fun i9 => nI (μ.od i9))) := hmv2.od
              have ha_5036 : v2 D.vf = some (108, dk_cl G 700 (fun i9 => μ.vf i9)) := hmv2.vf
              have ha_5037 : v2 D.bv = some (109, dk_cl G 16 (fun i9 => μ.bv i9)) := hmv2.bv
              have ha_5038 : v2 D.df = some (110, dk_cz G 700 (fun i9 => bo_i (μ.df i9))) := hmv2.df
              have ha_5039 : v2 D.ss = some (111, dk_cz G 6 (fun i9 => bo_i (μ.ss i9))) := hmv2.ss
              have ha_5040 : v2 D.bd = some (112, dk_cz G 16 (fun i9 => bo_i (μ.bd i9))) := hmv2.bd
              have ha_5041 : v2 D.ks = some (113, dk_cz G 700 (fun i9 => bo_i (μ.ks i9))) := hmv2.ks
              have ha_5042 : v2 D.bt = some (114, dk_cz G 6000 (fun i9 => bo_i (B2 i9))) := hmv2.bt
              refine lv_iload hx hb de_M_probe_40 (lv_at hl 4 rfl) ?_
              refine lv_if_lt (tgt := 170) hx hb de_M_probe_42 (by decide) (fun c_5043 => ?_) (fun c_5043 => ?_)
              · have e7 : n2 = 0 := mI_0 (by omega) c_5043
                subst e7
                refine lv_iinc (v := nI (i + 1)) (lv' := [(3, .int (nI (i + 1))), (0, .ref h), (1, .int (nI k)), (2, .int (rI b)), (4, .int (mI 0))]) hx hb de_M_probe_170 hl (k := 3) rfl (nx_inc i) (by decide) rfl (fun ls hl => ?_)
                refine lv_goto (tgt := 26) hx hb de_M_probe_173 (by decide) ?_
                exact ih (i + 1) p2 m2 B2 (by omega) (by omega) (by rw [← hres2]; rfl) _ _ _ hmv2 hg2 hP hS _ (lv_sub hl [1, 2, 3, 0] rfl)
              · obtain ⟨r, hr⟩ := mI_p c_5043
                subst hr
                rw [show mI (r + 1) = nI r from nI_s1 r] at hl
                have hleq := rI_eq (a := μ.lf r) (b := some i) (fun q hq => by have := ok4 r q hq; omega) (fun q hq => by cases hq; omega)
                refine lv_aload_n hx hb de_M_probe_45 rfl (lv_at hl 0 rfl) ?_
                refine dk_get (a := h) (v := .ref D.lf) (C := kn_M) (T := kt_M) (N := 22) hx hb hts ki_M hown hK hP hh_5028 rfl 11 (by decide) (hts _ wi_725) (fun _ h9 => h9) rfl de_M_probe_46 ?_
                refine lv_iload hx hb de_M_probe_49 (lv_at hl 4 rfl) ?_
                refine dk_iald (a := D.lf) hx hb hK hP ha_5032 r rfl (by omega) (by omega) de_M_probe_51 ?_
                refine lv_iload_n hx hb de_M_probe_52 rfl (lv_at hl 3 rfl) ?_
                refine lv_icmp_eq (tgt := 59) hx hb de_M_probe_53 (by decide) (fun c_5044 => ?_) (fun c_5044 => ?_)
                · have e7 : μ.lf r = some i := hleq.mp c_5044
                  have hmo2 : md_ok (((μ.pr' p2).mi' m2).bt' B2) := ⟨ok1, ok2, ok3, ok4, ok5, ok6, ok7, ok8, ok9, ok10, ok11⟩
                  refine lv_aload_n hx hb de_M_probe_59 rfl (lv_at hl 0 rfl) ?_
                  refine lv_iload hx hb de_M_probe_60 (lv_at hl 4 rfl) ?_
                  refine lv_iload_n hx hb de_M_probe_62 rfl (lv_at hl 1 rfl) ?_
                  refine dk_calli (va_runV (As := [.int (nI r), .int (nI k)]) (rest := []) ⟨hx, hb, hml, hown, hts⟩ (c_M_isAsked l G v2 h D (((μ.pr' p2).mi' m2).bt' B2) hmv2 hmo2 r k (by omega) hk0 (hlive r i (by omega) e7)) (cwV 2 hts (wd_gV (C := "RunKeeperModel") wi_892 wi_889 wi_891 (wd_p (q := (⟨"RunKeeperModel", "isAsked", "(II)Z"⟩, 22)) (by decide +kernel) (by decide +kernel)) wi_8) rfl rfl rfl (by decide +kernel) ⟨Nat.le_of_ble_eq_true rfl, Nat.le_of_ble_eq_true rfl⟩) (dk_preV (kn_M, kt_M, 22) hE hP hS hh_5028 rfl) rfl rfl hl.1 rfl (lv_room (Nat.le_of_ble_eq_true rfl)) de_M_probe_63 ⟨(by first | exact Nat.le_of_ble_eq_true rfl | (simp only [Nat.zero_add]; omega) | omega), (by first | exact Nat.le_of_ble_eq_true rfl | (simp only [Nat.zero_add]; omega) | omega)⟩) hS (fun r_5047 w_5045 H locs hq_5046 hP hS => ?_)
                  obtain ⟨hr9, ⟨B3, hm3⟩, hf3⟩ := hq_5046
                  subst hr9
                  rw [am_c (μ := μ) (ν := (((μ.pr' p2).mi' m2).bt' B2)) rfl rfl rfl]
                  replace hm3 : md_at G w_5045 h D (((μ.pr' p2).mi' m2).bt' B3) := hm3
                  have hh_5048 : w_5045 h = some (100, .inr (cx_M, [.int (nI μ.er), .int (nI μ.n), .int (nI μ.sq), .int (nI μ.sf), .int (nI μ.rs), .int (rI μ.ba), .int (nI p2), .int (nI m2), .ref D.kf, .ref D.nf, .ref D.rf, .ref D.lf, .ref D.sv, .ref D.bk, .ref D.od, .ref D.vf, .ref D.bv, .ref D.df, .ref D.ss, .ref D.bd, .ref D.ks, .ref D.bt])) := hm3.o
                  have ha_5049 : w_5045 D.kf = some (101, dk_ci G 700 (fun i9 => nI (μ.kf i9))) := hm3.kf
                  have ha_5050 : w_5045 D.nf = some (102, dk_ci G 700 (fun i9 => nI (μ.nf i9))) := hm3.nf
                  have ha_5051 : w_5045 D.rf = some (103, dk_ci G 700 (fun i9 => rI (μ.rf i9))) := hm3.rf
                  have ha_5052 : w_5045 D.lf = some (104, dk_ci G 5000 (fun i9 => rI (μ.lf i9))) := hm3.lf
                  have ha_5053 : w_5045 D.sv = some (105, dk_ci G 6 (fun i9 => nI (μ.sv i9))) := hm3.sv
                  have ha_5054 : w_5045 D.bk = some (106, dk_ci G 16 (fun i9 => nI (μ.bk i9))) := hm3.bk
                  have ha_5055 : w_5045 D.od = some (107, dk_ci G 700 (fun i9 => nI (μ.od i9))) := hm3.od
                  have ha_5056 : w_5045 D.vf = some (108, dk_cl G 700 (fun i9 => μ.vf i9)) := hm3.vf
                  have ha_5057 : w_5045 D.bv = some (109, dk_cl G 16 (fun i9 => μ.bv i9)) := hm3.bv
                  have ha_5058 : w_5045 D.df = some (110, dk_cz G 700 (fun i9 => bo_i (μ.df i9))) := hm3.df
                  have ha_5059 : w_5045 D.ss = some (111, dk_cz G 6 (fun i9 => bo_i (μ.ss i9))) := hm3.ss
                  have ha_5060 : w_5045 D.bd = some (112, dk_cz G 16 (fun i9 => bo_i (μ.bd i9))) := hm3.bd
                  have ha_5061 : w_5045 D.ks = some (113, dk_cz G 700 (fun i9 => bo_i (μ.ks i9))) := hm3.ks
                  have ha_5062 : w_5045 D.bt = some (114, dk_cz G 6000 (fun i9 => bo_i (B3 i9))) := hm3.bt
                  refine bo_if_eq (b := (am_b μ r k)) (tgt := 148) hx hb de_M_probe_66 (by decide) (fun c_5063 => ?_) (fun c_5063 => ?_)
                  · have e4 : pm_q μ k r (p2, m2) = (p2, m2) := if_neg (by rw [c_5063]; decide)
                    refine lv_iload_n hx hb de_M_probe_148 rfl (lv_at hl 2 rfl) ?_
                    refine lv_if_lt (tgt := 164) hx hb de_M_probe_149 (by decide) (fun c_5064 => ?_) (fun c_5064 => ?_)
                    · have e6 : b = none := hbneg.mp c_5064
                      refine lv_iinc (v := mI r) (lv' := [(4, .int (mI r)), (0, .ref h), (1, .int (nI k)), (2, .int (rI b)), (3, .int (nI i))]) hx hb de_M_probe_164 hl (k := 4) rfl (nI_p1 r) (by decide) rfl (fun ls hl => ?_)
                      refine lv_goto (tgt := 40) hx hb de_M_probe_167 (by decide) ?_
                      exact ih2 r p2 m2 B3 (by omega) (by omega) (by rw [← hres2, pm_g e7 (by rw [e6]; exact fun z => by cases z), e4]) _ _ _ hm3 (hg2.tr hf3) hP hS _ (lv_sub hl [1, 2, 3, 4, 0] rfl)
                    · obtain ⟨q9, hq9⟩ := rI_so c_5064
                      have hq8 := hbn q9 hq9
                      rw [hq9] at hl
                      replace hl : lv_has ls 7 [(0, .ref h), (1, .int (nI k)), (2, .int (nI q9)), (3, .int (nI i)), (4, .int (nI r))] := hl
                      have hreq := rI_eq (a := μ.rf q9) (b := some r) (fun q hq => by have := ok3 q9 q hq; omega) (fun q hq => by cases hq; omega)
                      refine lv_aload_n hx hb de_M_probe_152 rfl (lv_at hl 0 rfl) ?_
                      refine dk_get (a := h) (v := .ref D.rf) (C := kn_M) (T := kt_M) (N := 22) hx hb hts ki_M hown hK hP hh_5048 rfl 10 (by decide) (hts _ wi_724) (fun _ h9 => h9) rfl de_M_probe_153 ?_
                      refine lv_iload_n hx hb de_M_probe_156 rfl (lv_at hl 2 rfl) ?_
                      refine dk_iald (a := D.rf) hx hb hK hP ha_5051 q9 rfl (by omega) (by omega) de_M_probe_157 ?_
                      refine lv_iload hx hb de_M_probe_158 (lv_at hl 4 rfl) ?_
                      refine lv_icmp_ne (tgt := 164) hx hb de_M_probe_160 (by decide) (fun c_5065 => ?_) (fun c_5065 => ?_)
                      · have e6 : ¬ b.bind μ.rf = some r := fun z => by rw [hq9] at z; exact c_5065 (hreq.mpr z)
                        rw [← show rI (some q9) = nI q9 from rfl, ← hq9] at hl
                        replace hl : lv_has ls 7 [(0, .ref h), (1, .int (nI k)), (2, .int (rI b)), (3, .int (nI i)), (4, .int (nI r))] := hl
                        refine lv_iinc (v := mI r) (lv' := [(4, .int (mI r)), (0, .ref h), (1, .int (nI k)), (2, .int (rI b)), (3, .int (nI i))]) hx hb de_M_probe_164 hl (k := 4) rfl (nI_p1 r) (by decide) rfl (fun ls hl => ?_)
                        refine lv_goto (tgt := 40) hx hb de_M_probe_167 (by decide) ?_
                        exact ih2 r p2 m2 B3 (by omega) (by omega) (by rw [← hres2, pm_g e7 (by exact e6), e4]) _ _ _ hm3 (hg2.tr hf3) hP hS _ (lv_sub hl [1, 2, 3, 4, 0] rfl)
                      · have e6 : b.bind μ.rf = some r := by rw [hq9]; exact hreq.mp c_5065
                        have e5 : (pm_K μ k (b.bind μ.rf) b) = (p2, m2) := by rw [← hres2, pm_y e7 e6, e4]; rfl
                        exact dk_vret hQ hx hb hr hlocks hP hS (Nat.le_refl _) (Nat.le_refl _) (⟨⟨B3, by rw [e5]; exact hm3⟩, hg2.tr hf3⟩) de_M_probe_163
                  · refine lv_aload_n hx hb de_M_probe_69 rfl (lv_at hl 0 rfl) ?_
                    refine lv_dup hx hb de_M_probe_70 rfl ?_
                    refine dk_get (a := h) (v := .int (nI p2)) (C := kn_M) (T := kt_M) (N := 22) hx hb hts ki_M hown hK hP hh_5048 rfl 6 (by decide) (hts _ wi_720) (fun _ h9 => h9) rfl de_M_probe_71 ?_
                    refine lv_iconst (v := nI 1) hx hb de_M_probe_74 (by decide) ?_
                    refine nx_iadd (a := p2) (b := 1) hx hb de_M_probe_75 ?_
                    refine dk_put (a := h) (v := .int (nI (p2 + 1))) (ty := .int) (C := kn_M) (T := kt_M) (N := 22) hx hb hts ki_M ky_M kk_M kd_M hown hK hP hS hh_5048 rfl 6 (by decide) (hts _ wi_720) (fun _ h9 => h9) rfl (by decide +kernel) rfl rfl (Nat.le_of_ble_eq_true rfl) de_M_probe_76 (fun H locs w_5066 hw_5067 hP hS => ?_)
                    have h_5068 : w_5066 h = some (100, .inr (cx_M, [.int (nI μ.er), .int (nI μ.n), .int (nI μ.sq), .int (nI μ.sf), .int (nI μ.rs), .int (rI μ.ba), .int (nI (p2 + 1)), .int (nI m2), .ref D.kf, .ref D.nf, .ref D.rf, .ref D.lf, .ref D.sv, .ref D.bk, .ref D.od, .ref D.vf, .ref D.bv, .ref D.df, .ref D.ss, .ref D.bd, .ref D.ks, .ref D.bt])) := dk_here hw_5067
                    have h_5069 : w_5066 D.kf = some (101, dk_ci G 700 (fun i9 => nI (μ.kf i9))) := dk_keep hw_5067 hh_5048 ha_5049 (by decide)
                    have h_5070 : w_5066 D.nf = some (102, dk_ci G 700 (fun i9 => nI (μ.nf i9))) := dk_keep hw_5067 hh_5048 ha_5050 (by decide)
                    have h_5071 : w_5066 D.rf = some (103, dk_ci G 700 (fun i9 => rI (μ.rf i9))) := dk_keep hw_5067 hh_5048 ha_5051 (by decide)
                    have h_5072 : w_5066 D.lf = some (104, dk_ci G 5000 (fun i9 => rI (μ.lf i9))) := dk_keep hw_5067 hh_5048 ha_5052 (by decide)
                    have h_5073 : w_5066 D.sv = some (105, dk_ci G 6 (fun i9 => nI (μ.sv i9))) := dk_keep hw_5067 hh_5048 ha_5053 (by decide)
                    have h_5074 : w_5066 D.bk = some (106, dk_ci G 16 (fun i9 => nI (μ.bk i9))) := dk_keep hw_5067 hh_5048 ha_5054 (by decide)
                    have h_5075 : w_5066 D.od = some (107, dk_ci G 700 (fun i9 => nI (μ.od i9))) := dk_keep hw_5067 hh_5048 ha_5055 (by decide)
                    have h_5076 : w_5066 D.vf = some (108, dk_cl G 700 (fun i9 => μ.vf i9)) := dk_keep hw_5067 hh_5048 ha_5056 (by decide)
                    have h_5077 : w_5066 D.bv = some (109, dk_cl G 16 (fun i9 => μ.bv i9)) := dk_keep hw_5067 hh_5048 ha_5057 (by decide)
                    have h_5078 : w_5066 D.df = some (110, dk_cz G 700 (fun i9 => bo_i (μ.df i9))) := dk_keep hw_5067 hh_5048 ha_5058 (by decide)
                    have h_5079 : w_5066 D.ss = some (111, dk_cz G 6 (fun i9 => bo_i (μ.ss i9))) := dk_keep hw_5067 hh_5048 ha_5059 (by decide)
                    have h_5080 : w_5066 D.bd = some (112, dk_cz G 16 (fun i9 => bo_i (μ.bd i9))) := dk_keep hw_5067 hh_5048 ha_5060 (by decide)
                    have h_5081 : w_5066 D.ks = some (113, dk_cz G 700 (fun i9 => bo_i (μ.ks i9))) := dk_keep hw_5067 hh_5048 ha_5061 (by decide)
                    have h_5082 : w_5066 D.bt = some (114, dk_cz G 6000 (fun i9 => bo_i (B3 i9))) := dk_keep hw_5067 hh_5048 ha_5062 (by decide)
                    have hm_5083 : md_at G w_5066 h D ((((μ.pr' p2).mi' m2).bt' B3).pr' (p2 + 1)) := ⟨h_5068, h_5069, h_5070, h_5071, h_5072, h_5073, h_5074, h_5075, h_5076, h_5077, h_5078, h_5079, h_5080, h_5081, h_5082⟩
                    have hh_5084 : w_5066 h = some (100, .inr (cx_M, [.int (nI μ.er), .int (nI μ.n), .int (nI μ.sq), .int (nI μ.sf), .int (nI μ.rs), .int (rI μ.ba), .int (nI (p2 + 1)), .int (nI m2), .ref D.kf, .ref D.nf, .ref D.rf, .ref D.lf, .ref D.sv, .ref D.bk, .ref D.od, .ref D.vf, .ref D.bv, .ref D.df, .ref D.ss, .ref D.bd, .ref D.ks, .ref D.bt])) := hm_5083.o
                    have ha_5085 : w_5066 D.kf = some (101, dk_ci G 700 (fun i9 => nI (μ.kf i9))) := hm_5083.kf
                    have ha_5086 : w_5066 D.nf = some (102, dk_ci G 700 (fun i9 => nI (μ.nf i9))) := hm_5083.nf
                    have ha_5087 : w_5066 D.rf = some (103, dk_ci G 700 (fun i9 => rI (μ.rf i9))) := hm_5083.rf
                    have ha_5088 : w_5066 D.lf = some (104, dk_ci G 5000 (fun i9 => rI (μ.lf i9))) := hm_5083.lf
                    have ha_5089 : w_5066 D.sv = some (105, dk_ci G 6 (fun i9 => nI (μ.sv i9))) := hm_5083.sv
                    have ha_5090 : w_5066 D.bk = some (106, dk_ci G 16 (fun i9 => nI (μ.bk i9))) := hm_5083.bk
                    have ha_5091 : w_5066 D.od = some (107, dk_ci G 700 (fun i9 => nI (μ.od i9))) := hm_5083.od
                    have ha_5092 : w_5066 D.vf = some (108, dk_cl G 700 (fun i9 => μ.vf i9)) := hm_5083.vf
                    have ha_5093 : w_5066 D.bv = some (109, dk_cl G 16 (fun i9 => μ.bv i9)) := hm_5083.bv
                    have ha_5094 : w_5066 D.df = some (110, dk_cz G 700 (fun i9 => bo_i (μ.df i9))) := hm_5083.df
                    have ha_5095 : w_5066 D.ss = some (111, dk_cz G 6 (fun i9 => bo_i (μ.ss i9))) := hm_5083.ss
                    have ha_5096 : w_5066 D.bd = some (112, dk_cz G 16 (fun i9 => bo_i (μ.bd i9))) := hm_5083.bd
                    have ha_5097 : w_5066 D.ks = some (113, dk_cz G 700 (fun i9 => bo_i (μ.ks i9))) := hm_5083.ks
                    have ha_5098 : w_5066 D.bt = some (114, dk_cz G 6000 (fun i9 => bo_i (B3 i9))) := hm_5083.bt
                    refine lv_iconst (v := nI 0) hx hb de_M_probe_79 (by decide) ?_
                    refine lv_istore (lv' := [(5, .int (nI 0)), (0, .ref h), (1, .int (nI k)), (2, .int (rI b)), (3, .int (nI i)), (4, .int (nI r))]) hx hb de_M_probe_80 hl (by decide) rfl (fun ls hl => ?_)
                    refine lv_iconst (v := nI 0) hx hb de_M_probe_82 (by decide) ?_
                    refine lv_istore (lv' := [(6, .int (nI 0)), (5, .int (nI 0)), (0, .ref h), (1, .int (nI k)), (2, .int (rI b)), (3, .int (nI i)), (4, .int (nI r))]) hx hb de_M_probe_83 hl (by decide) rfl (fun ls hl => ?_)
                    have lp3 : ∀ (zk3 : Nat) (j : Nat), μ.n - j < zk3 → (j ≤ μ.n) → ∀ (ls : Array Slot), lv_has ls 7 [(0, .ref h), (1, .int (nI k)), (2, .int (rI b)), (3, .int (nI i)), (4, .int (nI r)), (5, .int (bo_i (sm_b μ r k j))), (6, .int (nI j))] → W p l e rm_M_probe s m args below meth c H locs (0 + 0) (0 + 0) Q (F0 m 85 ls []) := by
                      intro zk3
                      induction zk3 with
                      | zero =>
                        intro j hk
                        exact absurd hk (by omega)
                      | succ zk3 ih3 =>
                        intro j hk hj
                        intro ls hl
                        have b1 := ok1 j
                        have hreq3 := rI_eq (a := μ.rf j) (b := some r) (fun q hq => by have := ok3 j q hq; omega) (fun q hq => by cases hq; omega)
                        refine lv_iload hx hb de_M_probe_85 (lv_at hl 6 rfl) ?_
                        refine lv_aload_n hx hb de_M_probe_87 rfl (lv_at hl 0 rfl) ?_
                        refine dk_get (a := h) (v := .int (nI μ.n)) (C := kn_M) (T := kt_M) (N := 22) hx hb hts ki_M hown hK hP hh_5084 rfl 1 (by decide) (hts _ wi_715) (fun _ h9 => h9) rfl de_M_probe_88 ?_
                        refine nx_icmp_ge (a := j) (b := μ.n) (tgt := 133) hx hb (by omega) (by omega) de_M_probe_91 (by decide) (fun c_5099 => ?_) (fun c_5099 => ?_)
                        · have e2 : j = μ.n := by omega
                          refine lv_iload hx hb de_M_probe_133 (lv_at hl 5 rfl) ?_
                          refine bo_if_ne (b := (sm_b μ r k j)) (tgt := 148) hx hb de_M_probe_135 (by decide) (fun c_5102 => ?_) (fun c_5102 => ?_)
                          · have e4 : pm_q μ k r (p2, m2) = (p2 + 1, m2) := by rw [pm_q, if_pos c_5063, ← e2, c_5102]; rfl
                            refine lv_iload_n hx hb de_M_probe_148 rfl (lv_at hl 2 rfl) ?_
                            refine lv_if_lt (tgt := 164) hx hb de_M_probe_149 (by decide) (fun c_5103 => ?_) (fun c_5103 => ?_)
                            · have e6 : b = none := hbneg.mp c_5103
                              refine lv_iinc (v := mI r) (lv' := [(4, .int (mI r)), (0, .ref h), (1, .int (nI k)), (2, .int (rI b)), (3, .int (nI i)), (5, .int (bo_i (sm_b μ r k j))), (6, .int (nI j))]) hx hb de_M_probe_164 hl (k := 4) rfl (nI_p1 r) (by decide) rfl (fun ls hl => ?_)
                              refine lv_goto (tgt := 40) hx hb de_M_probe_167 (by decide) ?_
                              exact ih2 r (p2 + 1) m2 B3 (by omega) (by omega) (by rw [← hres2, pm_g e7 (by rw [e6]; exact fun z => by cases z), e4]) _ _ _ hm_5083 ((hg2.tr hf3).tr ((dk_fr.rf).tr ((dk_fr.up (T := md_T) hh_5048 (by unfold md_T; omega)).eq hw_5067))) hP hS _ (lv_sub hl [1, 2, 3, 4, 0] rfl)
                            · obtain ⟨q9, hq9⟩ := rI_so c_5103
                              have hq8 := hbn q9 hq9
                              rw [hq9] at hl
                              replace hl : lv_has ls 7 [(0, .ref h), (1, .int (nI k)), (2, .int (nI q9)), (3, .int (nI i)), (4, .int (nI r)), (5, .int (bo_i (sm_b μ r k j))), (6, .int (nI j))] := hl
                              have hreq := rI_eq (a := μ.rf q9) (b := some r) (fun q hq => by have := ok3 q9 q hq; omega) (fun q hq => by cases hq; omega)
                              refine lv_aload_n hx hb de_M_probe_152 rfl (lv_at hl 0 rfl) ?_
                              refine dk_get (a := h) (v := .ref D.rf) (C := kn_M) (T := kt_M) (N := 22) hx hb hts ki_M hown hK hP hh_5084 rfl 10 (by decide) (hts _ wi_724) (fun _ h9 => h9) rfl de_M_probe_153 ?_
                              refine lv_iload_n hx hb de_M_probe_156 rfl (lv_at hl 2 rfl) ?_
                              refine dk_iald (a := D.rf) hx hb hK hP ha_5087 q9 rfl (by omega) (by omega) de_M_probe_157 ?_
                              refine lv_iload hx hb de_M_probe_158 (lv_at hl 4 rfl) ?_
                              refine lv_icmp_ne (tgt := 164) hx hb de_M_probe_160 (by decide) (fun c_5104 => ?_) (fun c_5104 => ?_)
                              · have e6 : ¬ b.bind μ.rf = some r := fun z => by rw [hq9] at z; exact c_5104 (hreq.mpr z)
                                rw [← show rI (some q9) = nI q9 from rfl, ← hq9] at hl
                                replace hl : lv_has ls 7 [(0, .ref h), (1, .int (nI k)), (2, .int (rI b)), (3, .int (nI i)), (4, .int (nI r)), (5, .int (bo_i (sm_b μ r k j))), (6, .int (nI j))] := hl
                                refine lv_iinc (v := mI r) (lv' := [(4, .int (mI r)), (0, .ref h), (1, .int (nI k)), (2, .int (rI b)), (3, .int (nI i)), (5, .int (bo_i (sm_b μ r k j))), (6, .int (nI j))]) hx hb de_M_probe_164 hl (k := 4) rfl (nI_p1 r) (by decide) rfl (fun ls hl => ?_)
                                refine lv_goto (tgt := 40) hx hb de_M_probe_167 (by decide) ?_
                                exact ih2 r (p2 + 1) m2 B3 (by omega) (by omega) (by rw [← hres2, pm_g e7 (by exact e6), e4]) _ _ _ hm_5083 ((hg2.tr hf3).tr ((dk_fr.rf).tr ((dk_fr.up (T := md_T) hh_5048 (by unfold md_T; omega)).eq hw_5067))) hP hS _ (lv_sub hl [1, 2, 3, 4, 0] rfl)
                              · have e6 : b.bind μ.rf = some r := by rw [hq9]; exact hreq.mp c_5104
                                have e5 : (pm_K μ k (b.bind μ.rf) b) = (p2 + 1, m2) := by rw [← hres2, pm_y e7 e6, e4]; rfl
                                exact dk_vret hQ hx hb hr hlocks hP hS (Nat.le_refl _) (Nat.le_refl _) (⟨⟨B3, by rw [e5]; exact hm_5083⟩, (hg2.tr hf3).tr ((dk_fr.rf).tr ((dk_fr.up (T := md_T) hh_5048 (by unfold md_T; omega)).eq hw_5067))⟩) de_M_probe_163
                          · have e4 : pm_q μ k r (p2, m2) = (p2 + 1, m2 + 1) := by rw [pm_q, if_pos c_5063, ← e2, c_5102]; rfl
                            refine lv_aload_n hx hb de_M_probe_138 rfl (lv_at hl 0 rfl) ?_
                            refine lv_dup hx hb de_M_probe_139 rfl ?_
                            refine dk_get (a := h) (v := .int (nI m2)) (C := kn_M) (T := kt_M) (N := 22) hx hb hts ki_M hown hK hP hh_5084 rfl 7 (by decide) (hts _ wi_721) (fun _ h9 => h9) rfl de_M_probe_140 ?_
                            refine lv_iconst (v := nI 1) hx hb de_M_probe_143 (by decide) ?_
                            refine nx_iadd (a := m2) (b := 1) hx hb de_M_probe_144 ?_
                            refine dk_put (a := h) (v := .int (nI (m2 + 1))) (ty := .int) (C := kn_M) (T := kt_M) (N := 22) hx hb hts ki_M ky_M kk_M kd_M hown hK hP hS hh_5084 rfl 7 (by decide) (hts _ wi_721) (fun _ h9 => h9) rfl (by decide +kernel) rfl rfl (Nat.le_of_ble_eq_true rfl) de_M_probe_145 (fun H locs w_5105 hw_5106 hP hS => ?_)
                            have h_5107 : w_5105 h = some (100, .inr (cx_M, [.int (nI μ.er), .int (nI μ.n), .int (nI μ.sq), .int (nI μ.sf), .int (nI μ.rs), .int (rI μ.ba), .int (nI (p2 + 1)), .int (nI (m2 + 1)), .ref D.kf, .ref D.nf, .ref D.rf, .ref D.lf, .ref D.sv, .ref D.bk, .ref D.od, .ref D.vf, .ref D.bv, .ref D.df, .ref D.ss, .ref D.bd, .ref D.ks, .ref D.bt])) := dk_here hw_5106
                            have h_5108 : w_5105 D.kf = some (101, dk_ci G 700 (fun i9 => nI (μ.kf i9))) := dk_keep hw_5106 hh_5084 ha_5085 (by decide)
                            have h_5109 : w_5105 D.nf = some (102, dk_ci G 700 (fun i9 => nI (μ.nf i9))) := dk_keep hw_5106 hh_5084 ha_5086 (by decide)
                            have h_5110 : w_5105 D.rf = some (103, dk_ci G 700 (fun i9 => rI (μ.rf i9))) := dk_keep hw_5106 hh_5084 ha_5087 (by decide)
                            have h_5111 : w_5105 D.lf = some (104, dk_ci G 5000 (fun i9 => rI (μ.lf i9))) := dk_keep hw_5106 hh_5084 ha_5088 (by decide)
                            have h_5112 : w_5105 D.sv = some (105, dk_ci G 6 (fun i9 => nI (μ.sv i9))) := dk_keep hw_5106 hh_5084 ha_5089 (by decide)
                            have h_5113 : w_5105 D.bk = some (106, dk_ci G 16 (fun i9 => nI (μ.bk i9))) := dk_keep hw_5106 hh_5084 ha_5090 (by decide)
                            have h_5114 : w_5105 D.od = some (107, dk_ci G 700 (fun i9 => nI (μ.od i9))) := dk_keep hw_5106 hh_5084 ha_5091 (by decide)
                            have h_5115 : w_5105 D.vf = some (108, dk_cl G 700 (fun i9 => μ.vf i9)) := dk_keep hw_5106 hh_5084 ha_5092 (by decide)
                            have h_5116 : w_5105 D.bv = some (109, dk_cl G 16 (fun i9 => μ.bv i9)) := dk_keep hw_5106 hh_5084 ha_5093 (by decide)
                            have h_5117 : w_5105 D.df = some (110, dk_cz G 700 (fun i9 => bo_i (μ.df i9))) := dk_keep hw_5106 hh_5084 ha_5094 (by decide)
                            have h_5118 : w_5105 D.ss = some (111, dk_cz G 6 (fun i9 => bo_i (μ.ss i9))) := dk_keep hw_5106 hh_5084 ha_5095 (by decide)
                            have h_5119 : w_5105 D.bd = some (112, dk_cz G 16 (fun i9 => bo_i (μ.bd i9))) := dk_keep hw_5106 hh_5084 ha_5096 (by decide)
                            have h_5120 : w_5105 D.ks = some (113, dk_cz G 700 (fun i9 => bo_i (μ.ks i9))) := dk_keep hw_5106 hh_5084 ha_5097 (by decide)
                            have h_5121 : w_5105 D.bt = some (114, dk_cz G 6000 (fun i9 => bo_i (B3 i9))) := dk_keep hw_5106 hh_5084 ha_5098 (by decide)
                            have hm_5122 : md_at G w_5105 h D (((((μ.pr' p2).mi' m2).bt' B3).pr' (p2 + 1)).mi' (m2 + 1)) := ⟨h_5107, h_5108, h_5109, h_5110, h_5111, h_5112, h_5113, h_5114, h_5115, h_5116, h_5117, h_5118, h_5119, h_5120, h_5121⟩
                            have hh_5123 : w_5105 h = some (100, .inr (cx_M, [.int (nI μ.er), .int (nI μ.n), .int (nI μ.sq), .int (nI μ.sf), .int (nI μ.rs), .int (rI μ.ba), .int (nI (p2 + 1)), .int (nI (m2 + 1)), .ref D.kf, .ref D.nf, .ref D.rf, .ref D.lf, .ref D.sv, .ref D.bk, .ref D.od, .ref D.vf, .ref D.bv, .ref D.df, .ref D.ss, .ref D.bd, .ref D.ks, .ref D.bt])) := hm_5122.o
                            have ha_5124 : w_5105 D.kf = some (101, dk_ci G 700 (fun i9 => nI (μ.kf i9))) := hm_5122.kf
                            have ha_5125 : w_5105 D.nf = some (102, dk_ci G 700 (fun i9 => nI (μ.nf i9))) := hm_5122.nf
                            have ha_5126 : w_5105 D.rf = some (103, dk_ci G 700 (fun i9 => rI (μ.rf i9))) := hm_5122.rf
                            have ha_5127 : w_5105 D.lf = some (104, dk_ci G 5000 (fun i9 => rI (μ.lf i9))) := hm_5122.lf
                            have ha_5128 : w_5105 D.sv = some (105, dk_ci G 6 (fun i9 => nI (μ.sv i9))) := hm_5122.sv
                            have ha_5129 : w_5105 D.bk = some (106, dk_ci G 16 (fun i9 => nI (μ.bk i9))) := hm_5122.bk
                            have ha_5130 : w_5105 D.od = some (107, dk_ci G 700 (fun i9 => nI (μ.od i9))) := hm_5122.od
                            have ha_5131 : w_5105 D.vf = some (108, dk_cl G 700 (fun i9 => μ.vf i9)) := hm_5122.vf
                            have ha_5132 : w_5105 D.bv = some (109, dk_cl G 16 (fun i9 => μ.bv i9)) := hm_5122.bv
                            have ha_5133 : w_5105 D.df = some (110, dk_cz G 700 (fun i9 => bo_i (μ.df i9))) := hm_5122.df
                            have ha_5134 : w_5105 D.ss = some (111, dk_cz G 6 (fun i9 => bo_i (μ.ss i9))) := hm_5122.ss
                            have ha_5135 : w_5105 D.bd = some (112, dk_cz G 16 (fun i9 => bo_i (μ.bd i9))) := hm_5122.bd
                            have ha_5136 : w_5105 D.ks = some (113, dk_cz G 700 (fun i9 => bo_i (μ.ks i9))) := hm_5122.ks
                            have ha_5137 : w_5105 D.bt = some (114, dk_cz G 6000 (fun i9 => bo_i (B3 i9))) := hm_5122.bt
                            refine lv_iload_n hx hb de_M_probe_148 rfl (lv_at hl 2 rfl) ?_
                            refine lv_if_lt (tgt := 164) hx hb de_M_probe_149 (by decide) (fun c_5138 => ?_) (fun c_5138 => ?_)
                            · have e6 : b = none := hbneg.mp c_5138
                              refine lv_iinc (v := mI r) (lv' := [(4, .int (mI r)), (0, .ref h), (1, .int (nI k)), (2, .int (rI b)), (3, .int (nI i)), (5, .int (bo_i (sm_b μ r k j))), (6, .int (nI j))]) hx hb de_M_probe_164 hl (k := 4) rfl (nI_p1 r) (by decide) rfl (fun ls hl => ?_)
                              refine lv_goto (tgt := 40) hx hb de_M_probe_167 (by decide) ?_
                              exact ih2 r (p2 + 1) (m2 + 1) B3 (by omega) (by omega) (by rw [← hres2, pm_g e7 (by rw [e6]; exact fun z => by cases z), e4]) _ _ _ hm_5122 ((hg2.tr hf3).tr (((dk_fr.rf).tr ((dk_fr.up (T := md_T) hh_5048 (by unfold md_T; omega)).eq hw_5067)).tr ((dk_fr.up (T := md_T) hh_5084 (by unfold md_T; omega)).eq hw_5106))) hP hS _ (lv_sub hl [1, 2, 3, 4, 0] rfl)
                            · obtain ⟨q9, hq9⟩ := rI_so c_5138
                              have hq8 := hbn q9 hq9
                              rw [hq9] at hl
                              replace hl : lv_has ls 7 [(0, .ref h), (1, .int (nI k)), (2, .int (nI q9)), (3, .int (nI i)), (4, .int (nI r)), (5, .int (bo_i (sm_b μ r k j))), (6, .int (nI j))] := hl
                              have hreq := rI_eq (a := μ.rf q9) (b := some r) (fun q hq => by have := ok3 q9 q hq; omega) (fun q hq => by cases hq; omega)
                              refine lv_aload_n hx hb de_M_probe_152 rfl (lv_at hl 0 rfl) ?_
                              refine dk_get (a := h) (v := .ref D.rf) (C := kn_M) (T := kt_M) (N := 22) hx hb hts ki_M hown hK hP hh_5123 rfl 10 (by decide) (hts _ wi_724) (fun _ h9 => h9) rfl de_M_probe_153 ?_
                              refine lv_iload_n hx hb de_M_probe_156 rfl (lv_at hl 2 rfl) ?_
                              refine dk_iald (a := D.rf) hx hb hK hP ha_5126 q9 rfl (by omega) (by omega) de_M_probe_157 ?_
                              refine lv_iload hx hb de_M_probe_158 (lv_at hl 4 rfl) ?_
                              refine lv_icmp_ne (tgt := 164) hx hb de_M_probe_160 (by decide) (fun c_5139 => ?_) (fun c_5139 => ?_)
                              · have e6 : ¬ b.bind μ.rf = some r := fun z => by rw [hq9] at z; exact c_5139 (hreq.mpr z)
                                rw [← show rI (some q9) = nI q9 from rfl, ← hq9] at hl
                                replace hl : lv_has ls 7 [(0, .ref h), (1, .int (nI k)), (2, .int (rI b)), (3, .int (nI i)), (4, .int (nI r)), (5, .int (bo_i (sm_b μ r k j))), (6, .int (nI j))] := hl
                                refine lv_iinc (v := mI r) (lv' := [(4, .int (mI r)), (0, .ref h), (1, .int (nI k)), (2, .int (rI b)), (3, .int (nI i)), (5, .int (bo_i (sm_b μ r k j))), (6, .int (nI j))]) hx hb de_M_probe_164 hl (k := 4) rfl (nI_p1 r) (by decide) rfl (fun ls hl => ?_)
                                refine lv_goto (tgt := 40) hx hb de_M_probe_167 (by decide) ?_
                                exact ih2 r (p2 + 1) (m2 + 1) B3 (by omega) (by omega) (by rw [← hres2, pm_g e7 (by exact e6), e4]) _ _ _ hm_5122 ((hg2.tr hf3).tr (((dk_fr.rf).tr ((dk_fr.up (T := md_T) hh_5048 (by unfold md_T; omega)).eq hw_5067)).tr ((dk_fr.up (T := md_T) hh_5084 (by unfold md_T; omega)).eq hw_5106))) hP hS _ (lv_sub hl [1, 2, 3, 4, 0] rfl)
                              · have e6 : b.bind μ.rf = some r := by rw [hq9]; exact hreq.mp c_5139
                                have e5 : (pm_K μ k (b.bind μ.rf) b) = (p2 + 1, m2 + 1) := by rw [← hres2, pm_y e7 e6, e4]; rfl
                                exact dk_vret hQ hx hb hr hlocks hP hS (Nat.le_refl _) (Nat.le_refl _) (⟨⟨B3, by rw [e5]; exact hm_5122⟩, (hg2.tr hf3).tr (((dk_fr.rf).tr ((dk_fr.up (T := md_T) hh_5048 (by unfold md_T; omega)).eq hw_5067)).tr ((dk_fr.up (T := md_T) hh_5084 (by unfold md_T; omega)).eq hw_5106))⟩) de_M_probe_163
                        · refine lv_iload hx hb de_M_probe_94 (lv_at hl 5 rfl) ?_
                          refine lv_aload_n hx hb de_M_probe_96 rfl (lv_at hl 0 rfl) ?_
                          refine dk_get (a := h) (v := .ref D.rf) (C := kn_M) (T := kt_M) (N := 22) hx hb hts ki_M hown hK hP hh_5084 rfl 10 (by decide) (hts _ wi_724) (fun _ h9 => h9) rfl de_M_probe_97 ?_
                          refine lv_iload hx hb de_M_probe_100 (lv_at hl 6 rfl) ?_
                          refine dk_iald (a := D.rf) hx hb hK hP ha_5087 j rfl (by omega) (by omega) de_M_probe_102 ?_
                          refine lv_iload hx hb de_M_probe_103 (lv_at hl 4 rfl) ?_
                          refine lv_icmp_ne (tgt := 123) hx hb de_M_probe_105 (by decide) (fun c_5100 => ?_) (fun c_5100 => ?_)
                          · have e3 : ¬ μ.rf j = some r := fun z => c_5100 (hreq3.mpr z)
                            refine lv_iconst (v := nI 0) hx hb de_M_probe_123 (by decide) ?_
                            refine lv_ior hx hb de_M_probe_124 ?_
                            rw [show bo_i (sm_b μ r k j) ||| nI 0 = bo_i (sm_b μ r k (j + 1)) by rw [sm_b, decide_eq_false e3, Bool.false_and]; cases sm_b μ r k j <;> decide]
                            refine lv_istore (lv' := [(5, .int (bo_i (sm_b μ r k (j + 1)))), (0, .ref h), (1, .int (nI k)), (2, .int (rI b)), (3, .int (nI i)), (4, .int (nI r)), (6, .int (nI j))]) hx hb de_M_probe_125 hl (by decide) rfl (fun ls hl => ?_)
                            refine lv_iinc (v := nI (j + 1)) (lv' := [(6, .int (nI (j + 1))), (5, .int (bo_i (sm_b μ r k (j + 1)))), (0, .ref h), (1, .int (nI k)), (2, .int (rI b)), (3, .int (nI i)), (4, .int (nI r))]) hx hb de_M_probe_127 hl (k := 6) rfl (nx_inc j) (by decide) rfl (fun ls hl => ?_)
                            refine lv_goto (tgt := 85) hx hb de_M_probe_130 (by decide) ?_
                            exact ih3 (j + 1) (by omega) (by omega) _ (lv_sub hl [2, 3, 4, 5, 6, 1, 0] rfl)
                          · have e3 : μ.rf j = some r := hreq3.mp c_5100
                            refine lv_aload_n hx hb de_M_probe_108 rfl (lv_at hl 0 rfl) ?_
                            refine dk_get (a := h) (v := .ref D.kf) (C := kn_M) (T := kt_M) (N := 22) hx hb hts ki_M hown hK hP hh_5084 rfl 8 (by decide) (hts _ wi_722) (fun _ h9 => h9) rfl de_M_probe_109 ?_
                            refine lv_iload hx hb de_M_probe_112 (lv_at hl 6 rfl) ?_
                            refine dk_iald (a := D.kf) hx hb hK hP ha_5085 j rfl (by omega) (by omega) de_M_probe_114 ?_
                            refine lv_iload_n hx hb de_M_probe_115 rfl (lv_at hl 1 rfl) ?_
                            refine nx_icmp_ne (a := μ.kf j) (b := k) (tgt := 123) hx hb (by omega) (by omega) de_M_probe_116 (by decide) (fun c_5101 => ?_) (fun c_5101 => ?_)
                            · refine lv_iconst (v := nI 0) hx hb de_M_probe_123 (by decide) ?_
                              refine lv_ior hx hb de_M_probe_124 ?_
                              rw [show bo_i (sm_b μ r k j) ||| nI 0 = bo_i (sm_b μ r k (j + 1)) by rw [sm_b, decide_eq_false c_5101, Bool.and_false]; cases sm_b μ r k j <;> decide]
                              refine lv_istore (lv' := [(5, .int (bo_i (sm_b μ r k (j + 1)))), (0, .ref h), (1, .int (nI k)), (2, .int (rI b)), (3, .int (nI i)), (4, .int (nI r)), (6, .int (nI j))]) hx hb de_M_probe_125 hl (by decide) rfl (fun ls hl => ?_)
                              refine lv_iinc (v := nI (j + 1)) (lv' := [(6, .int (nI (j + 1))), (5, .int (bo_i (sm_b μ r k (j + 1)))), (0, .ref h), (1, .int (nI k)), (2, .int (rI b)), (3, .int (nI i)), (4, .int (nI r))]) hx hb de_M_probe_127 hl (k := 6) rfl (nx_inc j) (by decide) rfl (fun ls hl => ?_)
                              refine lv_goto (tgt := 85) hx hb de_M_probe_130 (by decide) ?_
                              exact ih3 (j + 1) (by omega) (by omega) _ (lv_sub hl [2, 3, 4, 5, 6, 1, 0] rfl)
                            · refine lv_iconst (v := nI 1) hx hb de_M_probe_119 (by decide) ?_
                              refine lv_goto (tgt := 124) hx hb de_M_probe_120 (by decide) ?_
                              refine lv_ior hx hb de_M_probe_124 ?_
                              rw [show bo_i (sm_b μ r k j) ||| nI 1 = bo_i (sm_b μ r k (j + 1)) by rw [sm_b, decide_eq_true e3, decide_eq_true c_5101]; cases sm_b μ r k j <;> decide]
                              refine lv_istore (lv' := [(5, .int (bo_i (sm_b μ r k (j + 1)))), (0, .ref h), (1, .int (nI k)), (2, .int (rI b)), (3, .int (nI i)), (4, .int (nI r)), (6, .int (nI j))]) hx hb de_M_probe_125 hl (by decide) rfl (fun ls hl => ?_)
                              refine lv_iinc (v := nI (j + 1)) (lv' := [(6, .int (nI (j + 1))), (5, .int (bo_i (sm_b μ r k (j + 1)))), (0, .ref h), (1, .int (nI k)), (2, .int (rI b)), (3, .int (nI i)), (4, .int (nI r))]) hx hb de_M_probe_127 hl (k := 6) rfl (nx_inc j) (by decide) rfl (fun ls hl => ?_)
                              refine lv_goto (tgt := 85) hx hb de_M_probe_130 (by decide) ?_
                              exact ih3 (j + 1) (by omega) (by omega) _ (lv_sub hl [2, 3, 4, 5, 6, 1, 0] rfl)
                    replace hl : lv_has ls 7 [(6, .int (nI 0)), (5, .int (bo_i false)), (0, .ref h), (1, .int (nI k)), (2, .int (rI b)), (3, .int (nI i)), (4, .int (nI r))] := hl
                    exact lp3 (μ.n + 1) 0 (by omega) (Nat.zero_le _) _ (lv_sub hl [2, 3, 4, 5, 6, 1, 0] rfl)
                · have e7 : ¬ μ.lf r = some i := fun z => c_5044 (hleq.mpr z)
                  refine lv_goto (tgt := 164) hx hb de_M_probe_56 (by decide) ?_
                  refine lv_iinc (v := mI r) (lv' := [(4, .int (mI r)), (0, .ref h), (1, .int (nI k)), (2, .int (rI b)), (3, .int (nI i))]) hx hb de_M_probe_164 hl (k := 4) rfl (nI_p1 r) (by decide) rfl (fun ls hl => ?_)
                  refine lv_goto (tgt := 40) hx hb de_M_probe_167 (by decide) ?_
                  exact ih2 r p2 m2 B2 (by omega) (by omega) (by rw [← hres2, pm_n e7]) _ _ _ hmv2 hg2 hP hS _ (lv_sub hl [1, 2, 3, 4, 0] rfl)
          exact lp2 (μ.rs + 1) μ.rs p9 m9 B (by omega) (Nat.le_refl _) (by rw [← hres, pm_s (by omega)]) _ _ _ hmv hg hP hS _ (lv_sub hl [1, 2, 3, 4, 0] rfl)
    exact lp 7 0 0 0 μ.bt (by omega) (by omega) ((pm_K0 (hbneg.mp c_5011)).symm) _ _ _ hm_4995 (((dk_fr.rf).tr ((dk_fr.up (T := md_T) hh_4960 (by unfold md_T; omega)).eq hw_4962)).tr ((dk_fr.up (T := md_T) h_4963 (by unfold md_T; omega)).eq hw_4979)) hP hS _ (lv_sub hl [1, 2, 3, 0] rfl)
  · obtain ⟨q0, hq0⟩ := rI_so c_5011
    have hq1 := hbn q0 hq0
    rw [hq0] at hl
    replace hl : lv_has ls 7 [(0, .ref h), (1, .int (nI k)), (2, .int (nI q0))] := hl
    have hneg0 := rI_neg (a := μ.rf q0) (fun q hq => by have := ok3 q0 q hq; omega)
    refine lv_aload_n hx hb de_M_probe_14 rfl (lv_at hl 0 rfl) ?_
    refine dk_get (a := h) (v := .ref D.rf) (C := kn_M) (T := kt_M) (N := 22) hx hb hts ki_M hown hK hP hh_4996 rfl 10 (by decide) (hts _ wi_724) (fun _ h9 => h9) rfl de_M_probe_15 ?_
    refine lv_iload_n hx hb de_M_probe_18 rfl (lv_at hl 2 rfl) ?_
    refine dk_iald (a := D.rf) hx hb hK hP ha_4999 q0 rfl (by omega) (by omega) de_M_probe_19 ?_
    refine lv_if_ge (tgt := 24) hx hb de_M_probe_20 (by decide) (fun c_5140 => ?_) (fun c_5140 => ?_)
    · rw [← show rI (some q0) = nI q0 from rfl, ← hq0] at hl
      replace hl : lv_has ls 7 [(0, .ref h), (1, .int (nI k)), (2, .int (rI b))] := hl
      obtain ⟨r0, hr0⟩ := rI_so (o := μ.rf q0) (by simpa using c_5140)
      refine lv_iconst (v := nI 0) hx hb de_M_probe_24 (by decide) ?_
      refine lv_istore_n (lv' := [(3, .int (nI 0)), (0, .ref h), (1, .int (nI k)), (2, .int (rI b))]) hx hb de_M_probe_25 rfl hl (by decide) rfl (fun ls hl => ?_)
      have lp : ∀ (zk : Nat) (i : Nat) (p9 : Nat) (m9 : Nat) (B : Nat → Bool), 6 - i < zk → (i ≤ 6) → (pm_l μ k (b.bind μ.rf) (6 - i) (p9, m9) = (pm_K μ k (b.bind μ.rf) b)) → ∀ (H : Heap) (locs : List Loc) (v : dk_H), (md_at G v h D (((μ.pr' p9).mi' m9).bt' B)) → (dk_fr md_T w v) → dk_P G v H → dk_S G s.heap H locs → ∀ (ls : Array Slot), lv_has ls 7 [(0, .ref h), (1, .int (nI k)), (2, .int (rI b)), (3, .int (nI i))] → W p l e rm_M_probe s m args below meth c H locs 0 0 Q (F0 m 26 ls []) := by
        intro zk
        induction zk with
        | zero =>
          intro i p9 m9 B hk
          exact absurd hk (by omega)
        | succ zk ih =>
          intro i p9 m9 B hk hi hres
          intro H locs v hmv hg hP hS
          intro ls hl
          have hh_5141 : v h = some (100, .inr (cx_M, [.int (nI μ.er), .int (nI μ.n), .int (nI μ.sq), .int (nI μ.sf), .int (nI μ.rs), .int (rI μ.ba), .int (nI p9), .int (nI m9), .ref D.kf, .ref D.nf, .ref D.rf, .ref D.lf, .ref D.sv, .ref D.bk, .ref D.od, .ref D.vf, .ref D.bv, .ref D.df, .ref D.ss, .ref D.bd, .ref D.ks, .ref D.bt])) := hmv.o
          have ha_5142 : v D.kf = some (101, dk_ci G 700 (fun i9 => nI (μ.kf i9))) := hmv.kf
          have ha_5143 : v D.nf = some (102, dk_ci G 700 (fun i9 => nI (μ.nf i9))) := hmv.nf
          have ha_5144 : v D.rf = some (103, dk_ci G 700 (fun i9 => rI (μ.rf i9))) := hmv.rf
          have ha_5145 : v D.lf = some (104, dk_ci G 5000 (fun i9 => rI (μ.lf i9))) := hmv.lf
          have ha_5146 : v D.sv = some (105, dk_ci G 6 (fun i9 => nI (μ.sv i9))) := hmv.sv
          have ha_5147 : v D.bk = some (106, dk_ci G 16 (fun i9 => nI (μ.bk i9))) := hmv.bk
          have ha_5148 : v D.od = some (107, dk_ci G 700 (fun i9 => nI (μ.od i9))) := hmv.od
          have ha_5149 : v D.vf = some (108, dk_cl G 700 (fun i9 => μ.vf i9)) := hmv.vf
          have ha_5150 : v D.bv = some (109, dk_cl G 16 (fun i9 => μ.bv i9)) := hmv.bv
          have ha_5151 : v D.df = some (110, dk_cz G 700 (fun i9 => bo_i (μ.df i9))) := hmv.df
          have ha_5152 : v D.ss = some (111, dk_cz G 6 (fun i9 => bo_i (μ.ss i9))) := hmv.ss
          have ha_5153 : v D.bd = some (112, dk_cz G 16 (fun i9 => bo_i (μ.bd i9))) := hmv.bd
          have ha_5154 : v D.ks = some (113, dk_cz G 700 (fun i9 => bo_i (μ.ks i9))) := hmv.ks
          have ha_5155 : v D.bt = some (114, dk_cz G 6000 (fun i9 => bo_i (B i9))) := hmv.bt
          refine lv_iload_n hx hb de_M_probe_26 rfl (lv_at hl 3 rfl) ?_
          refine lv_bipush (v := nI 6) hx hb de_M_probe_27 (by decide) ?_
          refine nx_icmp_ge (a := i) (b := 6) (tgt := 176) hx hb (by omega) (by omega) de_M_probe_29 (by decide) (fun c_5156 => ?_) (fun c_5156 => ?_)
          · have e9 : i = 6 := by omega
            subst e9
            have e8 : (pm_K μ k (b.bind μ.rf) b) = (p9, m9) := hres.symm
            exact dk_vret hQ hx hb hr hlocks hP hS (Nat.le_refl _) (Nat.le_refl _) (⟨⟨B, by rw [e8]; exact hmv⟩, hg⟩) de_M_probe_176
          · refine lv_aload_n hx hb de_M_probe_32 rfl (lv_at hl 0 rfl) ?_
            refine dk_get (a := h) (v := .int (nI μ.rs)) (C := kn_M) (T := kt_M) (N := 22) hx hb hts ki_M hown hK hP hh_5141 rfl 4 (by decide) (hts _ wi_718) (fun _ h9 => h9) rfl de_M_probe_33 ?_
            refine lv_iconst (v := nI 1) hx hb de_M_probe_36 (by decide) ?_
            refine lv_isub hx hb de_M_probe_37 ?_
            refine lv_istore (lv' := [(4, .int (mI μ.rs)), (0, .ref h), (1, .int (nI k)), (2, .int (rI b)), (3, .int (nI i))]) hx hb de_M_probe_38 hl (by decide) rfl (fun ls hl => ?_)
            have lp2 : ∀ (zk2 : Nat) (n2 : Nat) (p2 : Nat) (m2 : Nat) (B2 : Nat → Bool), n2 < zk2 → (n2 ≤ μ.rs) → (pm_c μ k (b.bind μ.rf) i (pm_r μ k (b.bind μ.rf) i n2 (p2, m2)) = (pm_K μ k (b.bind μ.rf) b)) → ∀ (H : Heap) (locs : List Loc) (v2 : dk_H), (md_at G v2 h D (((μ.pr' p2).mi' m2).bt' B2)) → (dk_fr md_T w v2) → dk_P G v2 H → dk_S G s.heap H locs → ∀ (ls : Array Slot), lv_has ls 7 [(0, .ref h), (1, .int (nI k)), (2, .int (rI b)), (3, .int (nI i)), (4, .int (mI n2))] → W p l e rm_M_probe s m args below meth c H locs 0 0 Q (F0 m 40 ls []) := by
              intro zk2
              induction zk2 with
              | zero =>
                intro n2 p2 m2 B2 hk
                exact absurd hk (by omega)
              | succ zk2 ih2 =>
                intro n2 p2 m2 B2 hk hn2 hres2
                intro H locs v2 hmv2 hg2 hP hS
                intro ls hl
                have hh_5157 : v2 h = some (100, .inr (cx_M, [.int (nI μ.er), .int (nI μ.n), .int (nI μ.sq), .int (nI μ.sf), .int (nI μ.rs), .int (rI μ.ba), .int (nI p2), .int (nI m2), .ref D.kf, .ref D.nf, .ref D.rf, .ref D.lf, .ref D.sv, .ref D.bk, .ref D.od, .ref D.vf, .ref D.bv, .ref D.df, .ref D.ss, .ref D.bd, .ref D.ks, .ref D.bt])) := hmv2.o
                have ha_5158 : v2 D.kf = some (101, dk_ci G 700 (fun i9 => nI (μ.kf i9))) := hmv2.kf
                have ha_5159 : v2 D.nf = some (102, dk_ci G 700 (fun i9 => nI (μ.nf i9))) := hmv2.nf
                have ha_5160 : v2 D.rf = some (103, dk_ci G 700 (fun i9 => rI (μ.rf i9))) := hmv2.rf
                have ha_5161 : v2 D.lf = some (104, dk_ci G 5000 (fun i9 => rI (μ.lf i9))) := hmv2.lf
                have ha_5162 : v2 D.sv = some (105, dk_ci G 6 (fun i9 => nI (μ.sv i9))) := hmv2.sv
                have ha_5163 : v2 D.bk = some (106, dk_ci G 16 (fun i9 => nI (μ.bk i9))) := hmv2.bk
                have ha_5164 : v2 D.od = some (107, dk_ci G 700 (fun i9 => nI (μ.od i9))) := hmv2.od
                have ha_5165 : v2 D.vf = some (108, dk_cl G 700 (fun i9 => μ.vf i9)) := hmv2.vf
                have ha_5166 : v2 D.bv = some (109, dk_cl G 16 (fun i9 => μ.bv i9)) := hmv2.bv
                have ha_5167 : v2 D.df = some (110, dk_cz G 700 (fun i9 => bo_i (μ.df i9))) := hmv2.df
                have ha_5168 : v2 D.ss = some (111, dk_cz G 6 (fun i9 => bo_i (μ.ss i9))) := hmv2.ss
                have ha_5169 : v2 D.bd = some (112, dk_cz G 16 (fun i9 => bo_i (μ.bd i9))) := hmv2.bd
                have ha_5170 : v2 D.ks = some (113, dk_cz G 700 (fun i9 => bo_i (μ.ks i9))) := hmv2.ks
                have ha_5171 : v2 D.bt = some (114, dk_cz G 6000 (fun i9 => bo_i (B2 i9))) := hmv2.bt
                refine lv_iload hx hb de_M_probe_40 (lv_at hl 4 rfl) ?_
                refine lv_if_lt (tgt := 170) hx hb de_M_probe_42 (by decide) (fun c_5172 => ?_) (fun c_5172 => ?_)
                · have e7 : n2 = 0 := mI_0 (by omega) c_5172
                  subst e7
                  refine lv_iinc (v := nI (i + 1)) (lv' := [(3, .int (nI (i + 1))), (0, .ref h), (1, .int (nI k)), (2, .int (rI b)), (4, .int (mI 0))]) hx hb de_M_probe_170 hl (k := 3) rfl (nx_inc i) (by decide) rfl (fun ls hl => ?_)
                  refine lv_goto (tgt := 26) hx hb de_M_probe_173 (by decide) ?_
                  exact ih (i + 1) p2 m2 B2 (by omega) (by omega) (by rw [← hres2]; rfl) _ _ _ hmv2 hg2 hP hS _ (lv_sub hl [1, 2, 3, 0] rfl)
                · obtain ⟨r, hr⟩ := mI_p c_5172
                  subst hr
                  rw [show mI (r + 1) = nI r from nI_s1 r] at hl
                  have hleq := rI_eq (a := μ.lf r) (b := some i) (fun q hq => by have := ok4 r q hq; omega) (fun q hq => by cases hq; omega)
                  refine lv_aload_n hx hb de_M_probe_45 rfl (lv_at hl 0 rfl) ?_
                  refine dk_get (a := h) (v := .ref D.lf) (C := kn_M) (T := kt_M) (N := 22) hx hb hts ki_M hown hK hP hh_5157 rfl 11 (by decide) (hts _ wi_725) (fun _ h9 => h9) rfl de_M_probe_46 ?_
                  refine lv_iload hx hb de_M_probe_49 (lv_at hl 4 rfl) ?_
                  refine dk_iald (a := D.lf) hx hb hK hP ha_5161 r rfl (by omega) (by omega) de_M_probe_51 ?_
                  refine lv_iload_n hx hb de_M_probe_52 rfl (lv_at hl 3 rfl) ?_
                  refine lv_icmp_eq (tgt := 59) hx hb de_M_probe_53 (by decide) (fun c_5173 => ?_) (fun c_5173 => ?_)
                  · have e7 : μ.lf r = some i := hleq.mp c_5173
                    have hmo2 : md_ok (((μ.pr' p2).mi' m2).bt' B2) := ⟨ok1, ok2, ok3, ok4, ok5, ok6, ok7, ok8, ok9, ok10, ok11⟩
                    refine lv_aload_n hx hb de_M_probe_59 rfl (lv_at hl 0 rfl) ?_
                    refine lv_iload hx hb de_M_probe_60 (lv_at hl 4 rfl) ?_
                    refine lv_iload_n hx hb de_M_probe_62 rfl (lv_at hl 1 rfl) ?_
                    refine dk_calli (va_runV (As := [.int (nI r), .int (nI k)]) (rest := []) ⟨hx, hb, hml, hown, hts⟩ (c_M_isAsked l G v2 h D (((μ.pr' p2).mi' m2).bt' B2) hmv2 hmo2 r k (by omega) hk0 (hlive r i (by omega) e7)) (cwV 2 hts (wd_gV (C := "RunKeeperModel") wi_892 wi_889 wi_891 (wd_p (q := (⟨"RunKeeperModel", "isAsked", "(II)Z"⟩, 22)) (by decide +kernel) (by decide +kernel)) wi_8) rfl rfl rfl (by decide +kernel) ⟨Nat.le_of_ble_eq_true rfl, Nat.le_of_ble_eq_true rfl⟩) (dk_preV (kn_M, kt_M, 22) hE hP hS hh_5157 rfl) rfl rfl hl.1 rfl (lv_room (Nat.le_of_ble_eq_true rfl)) de_M_probe_63 ⟨(by first | exact Nat.le_of_ble_eq_true rfl | (simp only [Nat.zero_add]; omega) | omega), (by first | exact Nat.le_of_ble_eq_true rfl | (simp only [Nat.zero_add]; omega) | omega)⟩) hS (fun r_5176 w_5174 H locs hq_5175 hP hS => ?_)
                    obtain ⟨hr9, ⟨B3, hm3⟩, hf3⟩ := hq_5175
                    subst hr9
                    rw [am_c (μ := μ) (ν := (((μ.pr' p2).mi' m2).bt' B2)) rfl rfl rfl]
                    replace hm3 : md_at G w_5174 h D (((μ.pr' p2).mi' m2).bt' B3) := hm3
                    have hh_5177 : w_5174 h = some (100, .inr (cx_M, [.int (nI μ.er), .int (nI μ.n), .int (nI μ.sq), .int (nI μ.sf), .int (nI μ.rs), .int (rI μ.ba), .int (nI p2), .int (nI m2), .ref D.kf, .ref D.nf, .ref D.rf, .ref D.lf, .ref D.sv, .ref D.bk, .ref D.od, .ref D.vf, .ref D.bv, .ref D.df, .ref D.ss, .ref D.bd, .ref D.ks, .ref D.bt])) := hm3.o
                    have ha_5178 : w_5174 D.kf = some (101, dk_ci G 700 (fun i9 => nI (μ.kf i9))) := hm3.kf
                    have ha_5179 : w_5174 D.nf = some (102, dk_ci G 700 (fun i9 => nI (μ.nf i9))) := hm3.nf
                    have ha_5180 : w_5174 D.rf = some (103, dk_ci G 700 (fun i9 => rI (μ.rf i9))) := hm3.rf
                    have ha_5181 : w_5174 D.lf = some (104, dk_ci G 5000 (fun i9 => rI (μ.lf i9))) := hm3.lf
                    have ha_5182 : w_5174 D.sv = some (105, dk_ci G 6 (fun i9 => nI (μ.sv i9))) := hm3.sv
                    have ha_5183 : w_5174 D.bk = some (106, dk_ci G 16 (fun i9 => nI (μ.bk i9))) := hm3.bk
                    have ha_5184 : w_5174 D.od = some (107, dk_ci G 700 (fun i9 => nI (μ.od i9))) := hm3.od
                    have ha_5185 : w_5174 D.vf = some (108, dk_cl G 700 (fun i9 => μ.vf i9)) := hm3.vf
                    have ha_5186 : w_5174 D.bv = some (109, dk_cl G 16 (fun i9 => μ.bv i9)) := hm3.bv
                    have ha_5187 : w_5174 D.df = some (110, dk_cz G 700 (fun i9 => bo_i (μ.df i9))) := hm3.df
                    have ha_5188 : w_5174 D.ss = some (111, dk_cz G 6 (fun i9 => bo_i (μ.ss i9))) := hm3.ss
                    have ha_5189 : w_5174 D.bd = some (112, dk_cz G 16 (fun i9 => bo_i (μ.bd i9))) := hm3.bd
                    have ha_5190 : w_5174 D.ks = some (113, dk_cz G 700 (fun i9 => bo_i (μ.ks i9))) := hm3.ks
                    have ha_5191 : w_5174 D.bt = some (114, dk_cz G 6000 (fun i9 => bo_i (B3 i9))) := hm3.bt
                    refine bo_if_eq (b := (am_b μ r k)) (tgt := 148) hx hb de_M_probe_66 (by decide) (fun c_5192 => ?_) (fun c_5192 => ?_)
                    · have e4 : pm_q μ k r (p2, m2) = (p2, m2) := if_neg (by rw [c_5192]; decide)
                      refine lv_iload_n hx hb de_M_probe_148 rfl (lv_at hl 2 rfl) ?_
                      refine lv_if_lt (tgt := 164) hx hb de_M_probe_149 (by decide) (fun c_5193 => ?_) (fun c_5193 => ?_)
                      · have e6 : b = none := hbneg.mp c_5193
                        refine lv_iinc (v := mI r) (lv' := [(4, .int (mI r)), (0, .ref h), (1, .int (nI k)), (2, .int (rI b)), (3, .int (nI i))]) hx hb de_M_probe_164 hl (k := 4) rfl (nI_p1 r) (by decide) rfl (fun ls hl => ?_)
                        refine lv_goto (tgt := 40) hx hb de_M_probe_167 (by decide) ?_
                        exact ih2 r p2 m2 B3 (by omega) (by omega) (by rw [← hres2, pm_g e7 (by rw [e6]; exact fun z => by cases z), e4]) _ _ _ hm3 (hg2.tr hf3) hP hS _ (lv_sub hl [1, 2, 3, 4, 0] rfl)
                      · obtain ⟨q9, hq9⟩ := rI_so c_5193
                        have hq8 := hbn q9 hq9
                        rw [hq9] at hl
                        replace hl : lv_has ls 7 [(0, .ref h), (1, .int (nI k)), (2, .int (nI q9)), (3, .int (nI i)), (4, .int (nI r))] := hl
                        have hreq := rI_eq (a := μ.rf q9) (b := some r) (fun q hq => by have := ok3 q9 q hq; omega) (fun q hq => by cases hq; omega)
                        refine lv_aload_n hx hb de_M_probe_152 rfl (lv_at hl 0 rfl) ?_
                        refine dk_get (a := h) (v := .ref D.rf) (C := kn_M) (T := kt_M) (N := 22) hx hb hts ki_M hown hK hP hh_5177 rfl 10 (by decide) (hts _ wi_724) (fun _ h9 => h9) rfl de_M_probe_153 ?_
                        refine lv_iload_n hx hb de_M_probe_156 rfl (lv_at hl 2 rfl) ?_
                        refine dk_iald (a := D.rf) hx hb hK hP ha_5180 q9 rfl (by omega) (by omega) de_M_probe_157 ?_
                        refine lv_iload hx hb de_M_probe_158 (lv_at hl 4 rfl) ?_
                        refine lv_icmp_ne (tgt := 164) hx hb de_M_probe_160 (by decide) (fun c_5194 => ?_) (fun c_5194 => ?_)
                        · have e6 : ¬ b.bind μ.rf = some r := fun z => by rw [hq9] at z; exact c_5194 (hreq.mpr z)
                          rw [← show rI (some q9) = nI q9 from rfl, ← hq9] at hl
                          replace hl : lv_has ls 7 [(0, .ref h), (1, .int (nI k)), (2, .int (rI b)), (3, .int (nI i)), (4, .int (nI r))] := hl
                          refine lv_iinc (v := mI r) (lv' := [(4, .int (mI r)), (0, .ref h), (1, .int (nI k)), (2, .int (rI b)), (3, .int (nI i))]) hx hb de_M_probe_164 hl (k := 4) rfl (nI_p1 r) (by decide) rfl (fun ls hl => ?_)
                          refine lv_goto (tgt := 40) hx hb de_M_probe_167 (by decide) ?_
                          exact ih2 r p2 m2 B3 (by omega) (by omega) (by rw [← hres2, pm_g e7 (by exact e6), e4]) _ _ _ hm3 (hg2.tr hf3) hP hS _ (lv_sub hl [1, 2, 3, 4, 0] rfl)
                        · have e6 : b.bind μ.rf = some r := by rw [hq9]; exact hreq.mp c_5194
                          have e5 : (pm_K μ k (b.bind μ.rf) b) = (p2, m2) := by rw [← hres2, pm_y e7 e6, e4]; rfl
                          exact dk_vret hQ hx hb hr hlocks hP hS (Nat.le_refl _) (Nat.le_refl _) (⟨⟨B3, by rw [e5]; exact hm3⟩, hg2.tr hf3⟩) de_M_probe_163
                    · refine lv_aload_n hx hb de_M_probe_69 rfl (lv_at hl 0 rfl) ?_
                      refine lv_dup hx hb de_M_probe_70 rfl ?_
                      refine dk_get (a := h) (v := .int (nI p2)) (C := kn_M) (T := kt_M) (N := 22) hx hb hts ki_M hown hK hP hh_5177 rfl 6 (by decide) (hts _ wi_720) (fun _ h9 => h9) rfl de_M_probe_71 ?_
                      refine lv_iconst (v := nI 1) hx hb de_M_probe_74 (by decide) ?_
                      refine nx_iadd (a := p2) (b := 1) hx hb de_M_probe_75 ?_
                      refine dk_put (a := h) (v := .int (nI (p2 + 1))) (ty := .int) (C := kn_M) (T := kt_M) (N := 22) hx hb hts ki_M ky_M kk_M kd_M hown hK hP hS hh_5177 rfl 6 (by decide) (hts _ wi_720) (fun _ h9 => h9) rfl (by decide +kernel) rfl rfl (Nat.le_of_ble_eq_true rfl) de_M_probe_76 (fun H locs w_5195 hw_5196 hP hS => ?_)
                      have h_5197 : w_5195 h = some (100, .inr (cx_M, [.int (nI μ.er), .int (nI μ.n), .int (nI μ.sq), .int (nI μ.sf), .int (nI μ.rs), .int (rI μ.ba), .int (nI (p2 + 1)), .int (nI m2), .ref D.kf, .ref D.nf, .ref D.rf, .ref D.lf, .ref D.sv, .ref D.bk, .ref D.od, .ref D.vf, .ref D.bv, .ref D.df, .ref D.ss, .ref D.bd, .ref D.ks, .ref D.bt])) := dk_here hw_5196
                      have h_5198 : w_5195 D.kf = some (101, dk_ci G 700 (fun i9 => nI (μ.kf i9))) := dk_keep hw_5196 hh_5177 ha_5178 (by decide)
                      have h_5199 : w_5195 D.nf = some (102, dk_ci G 700 (fun i9 => nI (μ.nf i9))) := dk_keep hw_5196 hh_5177 ha_5179 (by decide)
                      have h_5200 : w_5195 D.rf = some (103, dk_ci G 700 (fun i9 => rI (μ.rf i9))) := dk_keep hw_5196 hh_5177 ha_5180 (by decide)
                      have h_5201 : w_5195 D.lf = some (104, dk_ci G 5000 (fun i9 => rI (μ.lf i9))) := dk_keep hw_5196 hh_5177 ha_5181 (by decide)
                      have h_5202 : w_5195 D.sv = some (105, dk_ci G 6 (fun i9 => nI (μ.sv i9))) := dk_keep hw_5196 hh_5177 ha_5182 (by decide)
                      have h_5203 : w_5195 D.bk = some (106, dk_ci G 16 (fun i9 => nI (μ.bk i9))) := dk_keep hw_5196 hh_5177 ha_5183 (by decide)
                      have h_5204 : w_5195 D.od = some (107, dk_ci G 700 (fun i9 => nI (μ.od i9))) := dk_keep hw_5196 hh_5177 ha_5184 (by decide)
                      have h_5205 : w_5195 D.vf = some (108, dk_cl G 700 (fun i9 => μ.vf i9)) := dk_keep hw_5196 hh_5177 ha_5185 (by decide)
                      have h_5206 : w_5195 D.bv = some (109, dk_cl G 16 (fun i9 => μ.bv i9)) := dk_keep hw_5196 hh_5177 ha_5186 (by decide)
                      have h_5207 : w_5195 D.df = some (110, dk_cz G 700 (fun i9 => bo_i (μ.df i9))) := dk_keep hw_5196 hh_5177 ha_5187 (by decide)
                      have h_5208 : w_5195 D.ss = some (111, dk_cz G 6 (fun i9 => bo_i (μ.ss i9))) := dk_keep hw_5196 hh_5177 ha_5188 (by decide)
                      have h_5209 : w_5195 D.bd = some (112, dk_cz G 16 (fun i9 => bo_i (μ.bd i9))) := dk_keep hw_5196 hh_5177 ha_5189 (by decide)
                      have h_5210 : w_5195 D.ks = some (113, dk_cz G 700 (fun i9 => bo_i (μ.ks i9))) := dk_keep hw_5196 hh_5177 ha_5190 (by decide)
                      have h_5211 : w_5195 D.bt = some (114, dk_cz G 6000 (fun i9 => bo_i (B3 i9))) := dk_keep hw_5196 hh_5177 ha_5191 (by decide)
                      have hm_5212 : md_at G w_5195 h D ((((μ.pr' p2).mi' m2).bt' B3).pr' (p2 + 1)) := ⟨h_5197, h_5198, h_5199, h_5200, h_5201, h_5202, h_5203, h_5204, h_5205, h_5206, h_5207, h_5208, h_5209, h_5210, h_5211⟩
                      have hh_5213 : w_5195 h = some (100, .inr (cx_M, [.int (nI μ.er), .int (nI μ.n), .int (nI μ.sq), .int (nI μ.sf), .int (nI μ.rs), .int (rI μ.ba), .int (nI (p2 + 1)), .int (nI m2), .ref D.kf, .ref D.nf, .ref D.rf, .ref D.lf, .ref D.sv, .ref D.bk, .ref D.od, .ref D.vf, .ref D.bv, .ref D.df, .ref D.ss, .ref D.bd, .ref D.ks, .ref D.bt])) := hm_5212.o
                      have ha_5214 : w_5195 D.kf = some (101, dk_ci G 700 (fun i9 => nI (μ.kf i9))) := hm_5212.kf
                      have ha_5215 : w_5195 D.nf = some (102, dk_ci G 700 (fun i9 => nI (μ.nf i9))) := hm_5212.nf
                      have ha_5216 : w_5195 D.rf = some (103, dk_ci G 700 (fun i9 => rI (μ.rf i9))) := hm_5212.rf
                      have ha_5217 : w_5195 D.lf = some (104, dk_ci G 5000 (fun i9 => rI (μ.lf i9))) := hm_5212.lf
                      have ha_5218 : w_5195 D.sv = some (105, dk_ci G 6 (fun i9 => nI (μ.sv i9))) := hm_5212.sv
                      have ha_5219 : w_5195 D.bk = some (106, dk_ci G 16 (fun i9 => nI (μ.bk i9))) := hm_5212.bk
                      have ha_5220 : w_5195 D.od = some (107, dk_ci G 700 (fun i9 => nI (μ.od i9))) := hm_5212.od
                      have ha_5221 : w_5195 D.vf = some (108, dk_cl G 700 (fun i9 => μ.vf i9)) := hm_5212.vf
                      have ha_5222 : w_5195 D.bv = some (109, dk_cl G 16 (fun i9 => μ.bv i9)) := hm_5212.bv
                      have ha_5223 : w_5195 D.df = some (110, dk_cz G 700 (fun i9 => bo_i (μ.df i9))) := hm_5212.df
                      have ha_5224 : w_5195 D.ss = some (111, dk_cz G 6 (fun i9 => bo_i (μ.ss i9))) := hm_5212.ss
                      have ha_5225 : w_5195 D.bd = some (112, dk_cz G 16 (fun i9 => bo_i (μ.bd i9))) := hm_5212.bd
                      have ha_5226 : w_5195 D.ks = some (113, dk_cz G 700 (fun i9 => bo_i (μ.ks i9))) := hm_5212.ks
                      have ha_5227 : w_5195 D.bt = some (114, dk_cz G 6000 (fun i9 => bo_i (B3 i9))) := hm_5212.bt
                      refine lv_iconst (v := nI 0) hx hb de_M_probe_79 (by decide) ?_
                      refine lv_istore (lv' := [(5, .int (nI 0)), (0, .ref h), (1, .int (nI k)), (2, .int (rI b)), (3, .int (nI i)), (4, .int (nI r))]) hx hb de_M_probe_80 hl (by decide) rfl (fun ls hl => ?_)
                      refine lv_iconst (v := nI 0) hx hb de_M_probe_82 (by decide) ?_
                      refine lv_istore (lv' := [(6, .int (nI 0)), (5, .int (nI 0)), (0, .ref h), (1, .int (nI k)), (2, .int (rI b)), (3, .int (nI i)), (4, .int (nI r))]) hx hb de_M_probe_83 hl (by decide) rfl (fun ls hl => ?_)
                      have lp3 : ∀ (zk3 : Nat) (j : Nat), μ.n - j < zk3 → (j ≤ μ.n) → ∀ (ls : Array Slot), lv_has ls 7 [(0, .ref h), (1, .int (nI k)), (2, .int (rI b)), (3, .int (nI i)), (4, .int (nI r)), (5, .int (bo_i (sm_b μ r k j))), (6, .int (nI j))] → W p l e rm_M_probe s m args below meth c H locs (0 + 0) (0 + 0) Q (F0 m 85 ls []) := by
                        intro zk3
                        induction zk3 with
                        | zero =>
                          intro j hk
                          exact absurd hk (by omega)
                        | succ zk3 ih3 =>
                          intro j hk hj
                          intro ls hl
                          have b1 := ok1 j
                          have hreq3 := rI_eq (a := μ.rf j) (b := some r) (fun q hq => by have := ok3 j q hq; omega) (fun q hq => by cases hq; omega)
                          refine lv_iload hx hb de_M_probe_85 (lv_at hl 6 rfl) ?_
                          refine lv_aload_n hx hb de_M_probe_87 rfl (lv_at hl 0 rfl) ?_
                          refine dk_get (a := h) (v := .int (nI μ.n)) (C := kn_M) (T := kt_M) (N := 22) hx hb hts ki_M hown hK hP hh_5213 rfl 1 (by decide) (hts _ wi_715) (fun _ h9 => h9) rfl de_M_probe_88 ?_
                          refine nx_icmp_ge (a := j) (b := μ.n) (tgt := 133) hx hb (by omega) (by omega) de_M_probe_91 (by decide) (fun c_5228 => ?_) (fun c_5228 => ?_)
                          · have e2 : j = μ.n := by omega
                            refine lv_iload hx hb de_M_probe_133 (lv_at hl 5 rfl) ?_
                            refine bo_if_ne (b := (sm_b μ r k j)) (tgt := 148) hx hb de_M_probe_135 (by decide) (fun c_5231 => ?_) (fun c_5231 => ?_)
                            · have e4 : pm_q μ k r (p2, m2) = (p2 + 1, m2) := by rw [pm_q, if_pos c_5192, ← e2, c_5231]; rfl
                              refine lv_iload_n hx hb de_M_probe_148 rfl (lv_at hl 2 rfl) ?_
                              refine lv_if_lt (tgt := 164) hx hb de_M_probe_149 (by decide) (fun c_5232 => ?_) (fun c_5232 => ?_)
                              · have e6 : b = none := hbneg.mp c_5232
                                refine lv_iinc (v := mI r) (lv' := [(4, .int (mI r)), (0, .ref h), (1, .int (nI k)), (2, .int (rI b)), (3, .int (nI i)), (5, .int (bo_i (sm_b μ r k j))), (6, .int (nI j))]) hx hb de_M_probe_164 hl (k := 4) rfl (nI_p1 r) (by decide) rfl (fun ls hl => ?_)
                                refine lv_goto (tgt := 40) hx hb de_M_probe_167 (by decide) ?_
                                exact ih2 r (p2 + 1) m2 B3 (by omega) (by omega) (by rw [← hres2, pm_g e7 (by rw [e6]; exact fun z => by cases z), e4]) _ _ _ hm_5212 ((hg2.tr hf3).tr ((dk_fr.rf).tr ((dk_fr.up (T := md_T) hh_5177 (by unfold md_T; omega)).eq hw_5196))) hP hS _ (lv_sub hl [1, 2, 3, 4, 0] rfl)
                              · obtain ⟨q9, hq9⟩ := rI_so c_5232
                                have hq8 := hbn q9 hq9
                                rw [hq9] at hl
                                replace hl : lv_has ls 7 [(0, .ref h), (1, .int (nI k)), (2, .int (nI q9)), (3, .int (nI i)), (4, .int (nI r)), (5, .int (bo_i (sm_b μ r k j))), (6, .int (nI j))] := hl
                                have hreq := rI_eq (a := μ.rf q9) (b := some r) (fun q hq => by have := ok3 q9 q hq; omega) (fun q hq => by cases hq; omega)
                                refine lv_aload_n hx hb de_M_probe_152 rfl (lv_at hl 0 rfl) ?_
                                refine dk_get (a := h) (v := .ref D.rf) (C := kn_M) (T := kt_M) (N := 22) hx hb hts ki_M hown hK hP hh_5213 rfl 10 (by decide) (hts _ wi_724) (fun _ h9 => h9) rfl de_M_probe_153 ?_
                                refine lv_iload_n hx hb de_M_probe_156 rfl (lv_at hl 2 rfl) ?_
                                refine dk_iald (a := D.rf) hx hb hK hP ha_5216 q9 rfl (by omega) (by omega) de_M_probe_157 ?_
                                refine lv_iload hx hb de_M_probe_158 (lv_at hl 4 rfl) ?_
                                refine lv_icmp_ne (tgt := 164) hx hb de_M_probe_160 (by decide) (fun c_5233 => ?_) (fun c_5233 => ?_)
                                · have e6 : ¬ b.bind μ.rf = some r := fun z => by rw [hq9] at z; exact c_5233 (hreq.mpr z)
                                  rw [← show rI (some q9) = nI q9 from rfl, ← hq9] at hl
                                  replace hl : lv_has ls 7 [(0, .ref h), (1, .int (nI k)), (2, .int (rI b)), (3, .int (nI i)), (4, .int (nI r)), (5, .int (bo_i (sm_b μ r k j))), (6, .int (nI j))] := hl
                                  refine lv_iinc (v := mI r) (lv' := [(4, .int (mI r)), (0, .ref h), (1, .int (nI k)), (2, .int (rI b)), (3, .int (nI i)), (5, .int (bo_i (sm_b μ r k j))), (6, .int (nI j))]) hx hb de_M_probe_164 hl (k := 4) rfl (nI_p1 r) (by decide) rfl (fun ls hl => ?_)
                                  refine lv_goto (tgt := 40) hx hb de_M_probe_167 (by decide) ?_
                                  exact ih2 r (p2 + 1) m2 B3 (by omega) (by omega) (by rw [← hres2, pm_g e7 (by exact e6), e4]) _ _ _ hm_5212 ((hg2.tr hf3).tr ((dk_fr.rf).tr ((dk_fr.up (T := md_T) hh_5177 (by unfold md_T; omega)).eq hw_5196))) hP hS _ (lv_sub hl [1, 2, 3, 4, 0] rfl)
                                · have e6 : b.bind μ.rf = some r := by rw [hq9]; exact hreq.mp c_5233
                                  have e5 : (pm_K μ k (b.bind μ.rf) b) = (p2 + 1, m2) := by rw [← hres2, pm_y e7 e6, e4]; rfl
                                  exact dk_vret hQ hx hb hr hlocks hP hS (Nat.le_refl _) (Nat.le_refl _) (⟨⟨B3, by rw [e5]; exact hm_5212⟩, (hg2.tr hf3).tr ((dk_fr.rf).tr ((dk_fr.up (T := md_T) hh_5177 (by unfold md_T; omega)).eq hw_5196))⟩) de_M_probe_163
                            · have e4 : pm_q μ k r (p2, m2) = (p2 + 1, m2 + 1) := by rw [pm_q, if_pos c_5192, ← e2, c_5231]; rfl
                              refine lv_aload_n hx hb de_M_probe_138 rfl (lv_at hl 0 rfl) ?_
                              refine lv_dup hx hb de_M_probe_139 rfl ?_
                              refine dk_get (a := h) (v := .int (nI m2)) (C := kn_M) (T := kt_M) (N := 22) hx hb hts ki_M hown hK hP hh_5213 rfl 7 (by decide) (hts _ wi_721) (fun _ h9 => h9) rfl de_M_probe_140 ?_
                              refine lv_iconst (v := nI 1) hx hb de_M_probe_143 (by decide) ?_
                              refine nx_iadd (a := m2) (b := 1) hx hb de_M_probe_144 ?_
                              refine dk_put (a := h) (v := .int (nI (m2 + 1))) (ty := .int) (C := kn_M) (T := kt_M) (N := 22) hx hb hts ki_M ky_M kk_M kd_M hown hK hP hS hh_5213 rfl 7 (by decide) (hts _ wi_721) (fun _ h9 => h9) rfl (by decide +kernel) rfl rfl (Nat.le_of_ble_eq_true rfl) de_M_probe_145 (fun H locs w_5234 hw_5235 hP hS => ?_)
                              have h_5236 : w_5234 h = some (100, .inr (cx_M, [.int (nI μ.er), .int (nI μ.n), .int (nI μ.sq), .int (nI μ.sf), .int (nI μ.rs), .int (rI μ.ba), .int (nI (p2 + 1)), .int (nI (m2 + 1)), .ref D.kf, .ref D.nf, .ref D.rf, .ref D.lf, .ref D.sv, .ref D.bk, .ref D.od, .ref D.vf, .ref D.bv, .ref D.df, .ref D.ss, .ref D.bd, .ref D.ks, .ref D.bt])) := dk_here hw_5235
                              have h_5237 : w_5234 D.kf = some (101, dk_ci G 700 (fun i9 => nI (μ.kf i9))) := dk_keep hw_5235 hh_5213 ha_5214 (by decide)
                              have h_5238 : w_5234 D.nf = some (102, dk_ci G 700 (fun i9 => nI (μ.nf i9))) := dk_keep hw_5235 hh_5213 ha_5215 (by decide)
                              have h_5239 : w_5234 D.rf = some (103, dk_ci G 700 (fun i9 => rI (μ.rf i9))) := dk_keep hw_5235 hh_5213 ha_5216 (by decide)
                              have h_5240 : w_5234 D.lf = some (104, dk_ci G 5000 (fun i9 => rI (μ.lf i9))) := dk_keep hw_5235 hh_5213 ha_5217 (by decide)
                              have h_5241 : w_5234 D.sv = some (105, dk_ci G 6 (fun i9 => nI (μ.sv i9))) := dk_keep hw_5235 hh_5213 ha_5218 (by decide)
                              have h_5242 : w_5234 D.bk = some (106, dk_ci G 16 (fun i9 => nI (μ.bk i9))) := dk_keep hw_5235 hh_5213 ha_5219 (by decide)
                              have h_5243 : w_5234 D.od = some (107, dk_ci G 700 (fun i9 => nI (μ.od i9))) := dk_keep hw_5235 hh_5213 ha_5220 (by decide)
                              have h_5244 : w_5234 D.vf = some (108, dk_cl G 700 (fun i9 => μ.vf i9)) := dk_keep hw_5235 hh_5213 ha_5221 (by decide)
                              have h_5245 : w_5234 D.bv = some (109, dk_cl G 16 (fun i9 => μ.bv i9)) := dk_keep hw_5235 hh_5213 ha_5222 (by decide)
                              have h_5246 : w_5234 D.df = some (110, dk_cz G 700 (fun i9 => bo_i (μ.df i9))) := dk_keep hw_5235 hh_5213 ha_5223 (by decide)
                              have h_5247 : w_5234 D.ss = some (111, dk_cz G 6 (fun i9 => bo_i (μ.ss i9))) := dk_keep hw_5235 hh_5213 ha_5224 (by decide)
                              have h_5248 : w_5234 D.bd = some (112, dk_cz G 16 (fun i9 => bo_i (μ.bd i9))) := dk_keep hw_5235 hh_5213 ha_5225 (by decide)
                              have h_5249 : w_5234 D.ks = some (113, dk_cz G 700 (fun i9 => bo_i (μ.ks i9))) := dk_keep hw_5235 hh_5213 ha_5226 (by decide)
                              have h_5250 : w_5234 D.bt = some (114, dk_cz G 6000 (fun i9 => bo_i (B3 i9))) := dk_keep hw_5235 hh_5213 ha_5227 (by decide)
                              have hm_5251 : md_at G w_5234 h D (((((μ.pr' p2).mi' m2).bt' B3).pr' (p2 + 1)).mi' (m2 + 1)) := ⟨h_5236, h_5237, h_5238, h_5239, h_5240, h_5241, h_5242, h_5243, h_5244, h_5245, h_5246, h_5247, h_5248, h_5249, h_5250⟩
                              have hh_5252 : w_5234 h = some (100, .inr (cx_M, [.int (nI μ.er), .int (nI μ.n), .int (nI μ.sq), .int (nI μ.sf), .int (nI μ.rs), .int (rI μ.ba), .int (nI (p2 + 1)), .int (nI (m2 + 1)), .ref D.kf, .ref D.nf, .ref D.rf, .ref D.lf, .ref D.sv, .ref D.bk, .ref D.od, .ref D.vf, .ref D.bv, .ref D.df, .ref D.ss, .ref D.bd, .ref D.ks, .ref D.bt])) := hm_5251.o
                              have ha_5253 : w_5234 D.kf = some (101, dk_ci G 700 (fun i9 => nI (μ.kf i9))) := hm_5251.kf
                              have ha_5254 : w_5234 D.nf = some (102, dk_ci G 700 (fun i9 => nI (μ.nf i9))) := hm_5251.nf
                              have ha_5255 : w_5234 D.rf = some (103, dk_ci G 700 (fun i9 => rI (μ.rf i9))) := hm_5251.rf
                              have ha_5256 : w_5234 D.lf = some (104, dk_ci G 5000 (fun i9 => rI (μ.lf i9))) := hm_5251.lf
                              have ha_5257 : w_5234 D.sv = some (105, dk_ci G 6 (fun i9 => nI (μ.sv i9))) := hm_5251.sv
                              have ha_5258 : w_5234 D.bk = some (106, dk_ci G 16 (fun i9 => nI (μ.bk i9))) := hm_5251.bk
                              have ha_5259 : w_5234 D.od = some (107, dk_ci G 700 (fun i9 => nI (μ.od i9))) := hm_5251.od
                              have ha_5260 : w_5234 D.vf = some (108, dk_cl G 700 (fun i9 => μ.vf i9)) := hm_5251.vf
                              have ha_5261 : w_5234 D.bv = some (109, dk_cl G 16 (fun i9 => μ.bv i9)) := hm_5251.bv
                              have ha_5262 : w_5234 D.df = some (110, dk_cz G 700 (fun i9 => bo_i (μ.df i9))) := hm_5251.df
                              have ha_5263 : w_5234 D.ss = some (111, dk_cz G 6 (fun i9 => bo_i (μ.ss i9))) := hm_5251.ss
                              have ha_5264 : w_5234 D.bd = some (112, dk_cz G 16 (fun i9 => bo_i (μ.bd i9))) := hm_5251.bd
                              have ha_5265 : w_5234 D.ks = some (113, dk_cz G 700 (fun i9 => bo_i (μ.ks i9))) := hm_5251.ks
                              have ha_5266 : w_5234 D.bt = some (114, dk_cz G 6000 (fun i9 => bo_i (B3 i9))) := hm_5251.bt
                              refine lv_iload_n hx hb de_M_probe_148 rfl (lv_at hl 2 rfl) ?_
                              refine lv_if_lt (tgt := 164) hx hb de_M_probe_149 (by decide) (fun c_5267 => ?_) (fun c_5267 => ?_)
                              · have e6 : b = none := hbneg.mp c_5267
                                refine lv_iinc (v := mI r) (lv' := [(4, .int (mI r)), (0, .ref h), (1, .int (nI k)), (2, .int (rI b)), (3, .int (nI i)), (5, .int (bo_i (sm_b μ r k j))), (6, .int (nI j))]) hx hb de_M_probe_164 hl (k := 4) rfl (nI_p1 r) (by decide) rfl (fun ls hl => ?_)
                                refine lv_goto (tgt := 40) hx hb de_M_probe_167 (by decide) ?_
                                exact ih2 r (p2 + 1) (m2 + 1) B3 (by omega) (by omega) (by rw [← hres2, pm_g e7 (by rw [e6]; exact fun z => by cases z), e4]) _ _ _ hm_5251 ((hg2.tr hf3).tr (((dk_fr.rf).tr ((dk_fr.up (T := md_T) hh_5177 (by unfold md_T; omega)).eq hw_5196)).tr ((dk_fr.up (T := md_T) hh_5213 (by unfold md_T; omega)).eq hw_5235))) hP hS _ (lv_sub hl [1, 2, 3, 4, 0] rfl)
                              · obtain ⟨q9, hq9⟩ := rI_so c_5267
                                have hq8 := hbn q9 hq9
                                rw [hq9] at hl
                                replace hl : lv_has ls 7 [(0, .ref h), (1, .int (nI k)), (2, .int (nI q9)), (3, .int (nI i)), (4, .int (nI r)), (5, .int (bo_i (sm_b μ r k j))), (6, .int (nI j))] := hl
                                have hreq := rI_eq (a := μ.rf q9) (b := some r) (fun q hq => by have := ok3 q9 q hq; omega) (fun q hq => by cases hq; omega)
                                refine lv_aload_n hx hb de_M_probe_152 rfl (lv_at hl 0 rfl) ?_
                                refine dk_get (a := h) (v := .ref D.rf) (C := kn_M) (T := kt_M) (N := 22) hx hb hts ki_M hown hK hP hh_5252 rfl 10 (by decide) (hts _ wi_724) (fun _ h9 => h9) rfl de_M_probe_153 ?_
                                refine lv_iload_n hx hb de_M_probe_156 rfl (lv_at hl 2 rfl) ?_
                                refine dk_iald (a := D.rf) hx hb hK hP ha_5255 q9 rfl (by omega) (by omega) de_M_probe_157 ?_
                                refine lv_iload hx hb de_M_probe_158 (lv_at hl 4 rfl) ?_
                                refine lv_icmp_ne (tgt := 164) hx hb de_M_probe_160 (by decide) (fun c_5268 => ?_) (fun c_5268 => ?_)
                                · have e6 : ¬ b.bind μ.rf = some r := fun z => by rw [hq9] at z; exact c_5268 (hreq.mpr z)
                                  rw [← show rI (some q9) = nI q9 from rfl, ← hq9] at hl
                                  replace hl : lv_has ls 7 [(0, .ref h), (1, .int (nI k)), (2, .int (rI b)), (3, .int (nI i)), (4, .int (nI r)), (5, .int (bo_i (sm_b μ r k j))), (6, .int (nI j))] := hl
                                  refine lv_iinc (v := mI r) (lv' := [(4, .int (mI r)), (0, .ref h), (1, .int (nI k)), (2, .int (rI b)), (3, .int (nI i)), (5, .int (bo_i (sm_b μ r k j))), (6, .int (nI j))]) hx hb de_M_probe_164 hl (k := 4) rfl (nI_p1 r) (by decide) rfl (fun ls hl => ?_)
                                  refine lv_goto (tgt := 40) hx hb de_M_probe_167 (by decide) ?_
                                  exact ih2 r (p2 + 1) (m2 + 1) B3 (by omega) (by omega) (by rw [← hres2, pm_g e7 (by exact e6), e4]) _ _ _ hm_5251 ((hg2.tr hf3).tr (((dk_fr.rf).tr ((dk_fr.up (T := md_T) hh_5177 (by unfold md_T; omega)).eq hw_5196)).tr ((dk_fr.up (T := md_T) hh_5213 (by unfold md_T; omega)).eq hw_5235))) hP hS _ (lv_sub hl [1, 2, 3, 4, 0] rfl)
                                · have e6 : b.bind μ.rf = some r := by rw [hq9]; exact hreq.mp c_5268
                                  have e5 : (pm_K μ k (b.bind μ.rf) b) = (p2 + 1, m2 + 1) := by rw [← hres2, pm_y e7 e6, e4]; rfl
                                  exact dk_vret hQ hx hb hr hlocks hP hS (Nat.le_refl _) (Nat.le_refl _) (⟨⟨B3, by rw [e5]; exact hm_5251⟩, (hg2.tr hf3).tr (((dk_fr.rf).tr ((dk_fr.up (T := md_T) hh_5177 (by unfold md_T; omega)).eq hw_5196)).tr ((dk_fr.up (T := md_T) hh_5213 (by unfold md_T; omega)).eq hw_5235))⟩) de_M_probe_163
                          · refine lv_iload hx hb de_M_probe_94 (lv_at hl 5 rfl) ?_
                            refine lv_aload_n hx hb de_M_probe_96 rfl (lv_at hl 0 rfl) ?_
                            refine dk_get (a := h) (v := .ref D.rf) (C := kn_M) (T := kt_M) (N := 22) hx hb hts ki_M hown hK hP hh_5213 rfl 10 (by decide) (hts _ wi_724) (fun _ h9 => h9) rfl de_M_probe_97 ?_
                            refine lv_iload hx hb de_M_probe_100 (lv_at hl 6 rfl) ?_
                            refine dk_iald (a := D.rf) hx hb hK hP ha_5216 j rfl (by omega) (by omega) de_M_probe_102 ?_
                            refine lv_iload hx hb de_M_probe_103 (lv_at hl 4 rfl) ?_
                            refine lv_icmp_ne (tgt := 123) hx hb de_M_probe_105 (by decide) (fun c_5229 => ?_) (fun c_5229 => ?_)
                            · have e3 : ¬ μ.rf j = some r := fun z => c_5229 (hreq3.mpr z)
                              refine lv_iconst (v := nI 0) hx hb de_M_probe_123 (by decide) ?_
                              refine lv_ior hx hb de_M_probe_124 ?_
                              rw [show bo_i (sm_b μ r k j) ||| nI 0 = bo_i (sm_b μ r k (j + 1)) by rw [sm_b, decide_eq_false e3, Bool.false_and]; cases sm_b μ r k j <;> decide]
                              refine lv_istore (lv' := [(5, .int (bo_i (sm_b μ r k (j + 1)))), (0, .ref h), (1, .int (nI k)), (2, .int (rI b)), (3, .int (nI i)), (4, .int (nI r)), (6, .int (nI j))]) hx hb de_M_probe_125 hl (by decide) rfl (fun ls hl => ?_)
                              refine lv_iinc (v := nI (j + 1)) (lv' := [(6, .int (nI (j + 1))), (5, .int (bo_i (sm_b μ r k (j + 1)))), (0, .ref h), (1, .int (nI k)), (2, .int (rI b)), (3, .int (nI i)), (4, .int (nI r))]) hx hb de_M_probe_127 hl (k := 6) rfl (nx_inc j) (by decide) rfl (fun ls hl => ?_)
                              refine lv_goto (tgt := 85) hx hb de_M_probe_130 (by decide) ?_
                              exact ih3 (j + 1) (by omega) (by omega) _ (lv_sub hl [2, 3, 4, 5, 6, 1, 0] rfl)
                            · have e3 : μ.rf j = some r := hreq3.mp c_5229
                              refine lv_aload_n hx hb de_M_probe_108 rfl (lv_at hl 0 rfl) ?_
                              refine dk_get (a := h) (v := .ref D.kf) (C := kn_M) (T := kt_M) (N := 22) hx hb hts ki_M hown hK hP hh_5213 rfl 8 (by decide) (hts _ wi_722) (fun _ h9 => h9) rfl de_M_probe_109 ?_
                              refine lv_iload hx hb de_M_probe_112 (lv_at hl 6 rfl) ?_
                              refine dk_iald (a := D.kf) hx hb hK hP ha_5214 j rfl (by omega) (by omega) de_M_probe_114 ?_
                              refine lv_iload_n hx hb de_M_probe_115 rfl (lv_at hl 1 rfl) ?_
                              refine nx_icmp_ne (a := μ.kf j) (b := k) (tgt := 123) hx hb (by omega) (by omega) de_M_probe_116 (by decide) (fun c_5230 => ?_) (fun c_5230 => ?_)
                              · refine lv_iconst (v := nI 0) hx hb de_M_probe_123 (by decide) ?_
                                refine lv_ior hx hb de_M_probe_124 ?_
                                rw [show bo_i (sm_b μ r k j) ||| nI 0 = bo_i (sm_b μ r k (j + 1)) by rw [sm_b, decide_eq_false c_5230, Bool.and_false]; cases sm_b μ r k j <;> decide]
                                refine lv_istore (lv' := [(5, .int (bo_i (sm_b μ r k (j + 1)))), (0, .ref h), (1, .int (nI k)), (2, .int (rI b)), (3, .int (nI i)), (4, .int (nI r)), (6, .int (nI j))]) hx hb de_M_probe_125 hl (by decide) rfl (fun ls hl => ?_)
                                refine lv_iinc (v := nI (j + 1)) (lv' := [(6, .int (nI (j + 1))), (5, .int (bo_i (sm_b μ r k (j + 1)))), (0, .ref h), (1, .int (nI k)), (2, .int (rI b)), (3, .int (nI i)), (4, .int (nI r))]) hx hb de_M_probe_127 hl (k := 6) rfl (nx_inc j) (by decide) rfl (fun ls hl => ?_)
                                refine lv_goto (tgt := 85) hx hb de_M_probe_130 (by decide) ?_
                                exact ih3 (j + 1) (by omega) (by omega) _ (lv_sub hl [2, 3, 4, 5, 6, 1, 0] rfl)
                              · refine lv_iconst (v := nI 1) hx hb de_M_probe_119 (by decide) ?_
                                refine lv_goto (tgt := 124) hx hb de_M_probe_120 (by decide) ?_
                                refine lv_ior hx hb de_M_probe_124 ?_
                                rw [show bo_i (sm_b μ r k j) ||| nI 1 = bo_i (sm_b μ r k (j + 1)) by rw [sm_b, decide_eq_true e3, decide_eq_true c_5230]; cases sm_b μ r k j <;> decide]
                                refine lv_istore (lv' := [(5, .int (bo_i (sm_b μ r k (j + 1)))), (0, .ref h), (1, .int (nI k)), (2, .int (rI b)), (3, .int (nI i)), (4, .int (nI r)), (6, .int (nI j))]) hx hb de_M_probe_125 hl (by decide) rfl (fun ls hl => ?_)
                                refine lv_iinc (v := nI (j + 1)) (lv' := [(6, .int (nI (j + 1))), (5, .int (bo_i (sm_b μ r k (j + 1)))), (0, .ref h), (1, .int (nI k)), (2, .int (rI b)), (3, .int (nI i)), (4, .int (nI r))]) hx hb de_M_probe_127 hl (k := 6) rfl (nx_inc j) (by decide) rfl (fun ls hl => ?_)
                                refine lv_goto (tgt := 85) hx hb de_M_probe_130 (by decide) ?_
                                exact ih3 (j + 1) (by omega) (by omega) _ (lv_sub hl [2, 3, 4, 5, 6, 1, 0] rfl)
                      replace hl : lv_has ls 7 [(6, .int (nI 0)), (5, .int (bo_i false)), (0, .ref h), (1, .int (nI k)), (2, .int (rI b)), (3, .int (nI i)), (4, .int (nI r))] := hl
                      exact lp3 (μ.n + 1) 0 (by omega) (Nat.zero_le _) _ (lv_sub hl [2, 3, 4, 5, 6, 1, 0] rfl)
                  · have e7 : ¬ μ.lf r = some i := fun z => c_5173 (hleq.mpr z)
                    refine lv_goto (tgt := 164) hx hb de_M_probe_56 (by decide) ?_
                    refine lv_iinc (v := mI r) (lv' := [(4, .int (mI r)), (0, .ref h), (1, .int (nI k)), (2, .int (rI b)), (3, .int (nI i))]) hx hb de_M_probe_164 hl (k := 4) rfl (nI_p1 r) (by decide) rfl (fun ls hl => ?_)
                    refine lv_goto (tgt := 40) hx hb de_M_probe_167 (by decide) ?_
                    exact ih2 r p2 m2 B2 (by omega) (by omega) (by rw [← hres2, pm_n e7]) _ _ _ hmv2 hg2 hP hS _ (lv_sub hl [1, 2, 3, 4, 0] rfl)
            exact lp2 (μ.rs + 1) μ.rs p9 m9 B (by omega) (Nat.le_refl _) (by rw [← hres, pm_s (by omega)]) _ _ _ hmv hg hP hS _ (lv_sub hl [1, 2, 3, 4, 0] rfl)
      exact lp 7 0 0 0 μ.bt (by omega) (by omega) ((pm_K1 hq0 (show b.bind μ.rf = some r0 by rw [hq0]; exact hr0)).symm) _ _ _ hm_4995 (((dk_fr.rf).tr ((dk_fr.up (T := md_T) hh_4960 (by unfold md_T; omega)).eq hw_4962)).tr ((dk_fr.up (T := md_T) h_4963 (by unfold md_T; omega)).eq hw_4979)) hP hS _ (lv_sub hl [1, 2, 3, 0] rfl)
    · have e0 : (pm_K μ k (b.bind μ.rf) b) = (0, 0) := pm_K2 hq0 (show b.bind μ.rf = none by rw [hq0]; exact hneg0.mp (by simpa using c_5140))
      exact dk_vret hQ hx hb hr hlocks hP hS (Nat.le_refl _) (Nat.le_refl _) (⟨⟨μ.bt, by rw [e0]; exact hm_4995⟩, ((dk_fr.rf).tr ((dk_fr.up (T := md_T) hh_4960 (by unfold md_T; omega)).eq hw_4962)).tr ((dk_fr.up (T := md_T) h_4963 (by unfold md_T; omega)).eq hw_4979)⟩) de_M_probe_23
