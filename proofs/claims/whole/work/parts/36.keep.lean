/-! THE KEEPER'S STATE: what its cells say (kp_S), where they are (kp_D). Tags: 1 the object, 2/3 table, 4/5 aside, 6/7 gathered, 8/9 kept, 10 newestOfKey, 11 levels, 13-15 snapshots, 20 + 3 i .. the i-th level. -/
abbrev kp_S : Type := List en_T × List en_T × (Nat → List (List en_T)) × (Nat → Option Nat) × List en_T × List en_T × (Nat → Option en_T) × Nat × Bool × Nat × Nat × Nat
abbrev kp_S.tb (σ : kp_S) : List en_T := σ.1
abbrev kp_S.tb' (σ : kp_S) (y : List en_T) : kp_S := (y, σ.2)
abbrev kp_S.ad (σ : kp_S) : List en_T := σ.2.1
abbrev kp_S.ad' (σ : kp_S) (y : List en_T) : kp_S := (σ.1, y, σ.2.2)
abbrev kp_S.lv (σ : kp_S) : Nat → List (List en_T) := σ.2.2.1
abbrev kp_S.lv' (σ : kp_S) (y : Nat → List (List en_T)) : kp_S := (σ.1, σ.2.1, y, σ.2.2.2)
abbrev kp_S.sn (σ : kp_S) : Nat → Option Nat := σ.2.2.2.1
abbrev kp_S.sn' (σ : kp_S) (y : Nat → Option Nat) : kp_S := (σ.1, σ.2.1, σ.2.2.1, y, σ.2.2.2.2)
abbrev kp_S.ga (σ : kp_S) : List en_T := σ.2.2.2.2.1
abbrev kp_S.ga' (σ : kp_S) (y : List en_T) : kp_S := (σ.1, σ.2.1, σ.2.2.1, σ.2.2.2.1, y, σ.2.2.2.2.2)
abbrev kp_S.ke (σ : kp_S) : List en_T := σ.2.2.2.2.2.1
abbrev kp_S.ke' (σ : kp_S) (y : List en_T) : kp_S := (σ.1, σ.2.1, σ.2.2.1, σ.2.2.2.1, σ.2.2.2.2.1, y, σ.2.2.2.2.2.2)
abbrev kp_S.nw (σ : kp_S) : Nat → Option en_T := σ.2.2.2.2.2.2.1
abbrev kp_S.nw' (σ : kp_S) (y : Nat → Option en_T) : kp_S := (σ.1, σ.2.1, σ.2.2.1, σ.2.2.2.1, σ.2.2.2.2.1, σ.2.2.2.2.2.1, y, σ.2.2.2.2.2.2.2)
abbrev kp_S.sf (σ : kp_S) : Nat := σ.2.2.2.2.2.2.2.1
abbrev kp_S.sf' (σ : kp_S) (y : Nat) : kp_S := (σ.1, σ.2.1, σ.2.2.1, σ.2.2.2.1, σ.2.2.2.2.1, σ.2.2.2.2.2.1, σ.2.2.2.2.2.2.1, y, σ.2.2.2.2.2.2.2.2)
abbrev kp_S.ib (σ : kp_S) : Bool := σ.2.2.2.2.2.2.2.2.1
abbrev kp_S.ib' (σ : kp_S) (y : Bool) : kp_S := (σ.1, σ.2.1, σ.2.2.1, σ.2.2.2.1, σ.2.2.2.2.1, σ.2.2.2.2.2.1, σ.2.2.2.2.2.2.1, σ.2.2.2.2.2.2.2.1, y, σ.2.2.2.2.2.2.2.2.2)
abbrev kp_S.sq (σ : kp_S) : Nat := σ.2.2.2.2.2.2.2.2.2.1
abbrev kp_S.sq' (σ : kp_S) (y : Nat) : kp_S := (σ.1, σ.2.1, σ.2.2.1, σ.2.2.2.1, σ.2.2.2.2.1, σ.2.2.2.2.2.1, σ.2.2.2.2.2.2.1, σ.2.2.2.2.2.2.2.1, σ.2.2.2.2.2.2.2.2.1, y, σ.2.2.2.2.2.2.2.2.2.2)
abbrev kp_S.pr (σ : kp_S) : Nat := σ.2.2.2.2.2.2.2.2.2.2.1
abbrev kp_S.pr' (σ : kp_S) (y : Nat) : kp_S := (σ.1, σ.2.1, σ.2.2.1, σ.2.2.2.1, σ.2.2.2.2.1, σ.2.2.2.2.2.1, σ.2.2.2.2.2.2.1, σ.2.2.2.2.2.2.2.1, σ.2.2.2.2.2.2.2.2.1, σ.2.2.2.2.2.2.2.2.2.1, y, σ.2.2.2.2.2.2.2.2.2.2.2)
abbrev kp_S.mi (σ : kp_S) : Nat := σ.2.2.2.2.2.2.2.2.2.2.2
abbrev kp_S.mi' (σ : kp_S) (y : Nat) : kp_S := (σ.1, σ.2.1, σ.2.2.1, σ.2.2.2.1, σ.2.2.2.2.1, σ.2.2.2.2.2.1, σ.2.2.2.2.2.2.1, σ.2.2.2.2.2.2.2.1, σ.2.2.2.2.2.2.2.2.1, σ.2.2.2.2.2.2.2.2.2.1, σ.2.2.2.2.2.2.2.2.2.2.1, y)
abbrev kp_D : Type := Nat × Nat × Nat × Nat × Nat × Nat × Nat × (Nat → Option Nat) × (Nat → Nat)
abbrev kp_D.t (D : kp_D) : Nat := D.1
abbrev kp_D.a (D : kp_D) : Nat := D.2.1
abbrev kp_D.lv (D : kp_D) : Nat := D.2.2.1
abbrev kp_D.sn (D : kp_D) : Nat := D.2.2.2.1
abbrev kp_D.g (D : kp_D) : Nat := D.2.2.2.2.1
abbrev kp_D.k (D : kp_D) : Nat := D.2.2.2.2.2.1
abbrev kp_D.ne (D : kp_D) : Nat := D.2.2.2.2.2.2.1
abbrev kp_D.lf (D : kp_D) : Nat → Option Nat := D.2.2.2.2.2.2.2.1
abbrev kp_D.le (D : kp_D) : Nat → Nat := D.2.2.2.2.2.2.2.2
abbrev kp_c (D : kp_D) (σ : kp_S) : va_E := .inr (cx_K, [.ref D.t, .ref D.a, .ref D.lv, .ref D.sn, .ref D.g, .ref D.k, .ref D.ne, .int (nI σ.sf), .int (bo_i σ.ib), .int (nI σ.sq), .int (nI σ.pr), .int (nI σ.mi)])
def nw_at (G : dk_G) (w : dk_H) (a : Nat) (nw : Nat → Option en_T) : Prop := ∃ nf : Nat → Option Nat, w a = some (10, dk_ca G 3 1024 nf) ∧ ∀ i, i < 1024 → en_q w (nf i) (nw i)
theorem nw_at.fr {G : dk_G} {T : Nat → Prop} {w w1 : dk_H} {a : Nat} {nw : Nat → Option en_T} (H : nw_at G w a nw) (hf : dk_fr T w w1) (h0 : ¬ T 0) (h1 : ¬ T 10) : nw_at G w1 a nw := by
  obtain ⟨nf, g1, g2⟩ := H
  exact ⟨nf, hf _ _ _ g1 h1, fun i hi => (g2 i hi).fr hf h0⟩
def kp_at (G : dk_G) (w : dk_H) (h : Nat) (D : kp_D) (σ : kp_S) : Prop := (w h = some (1, kp_c D σ)) ∧ (rw_at G w D.t 2 3 40 σ.tb) ∧ (rw_at G w D.a 4 5 16 σ.ad) ∧ (w D.lv = some (11, dk_ca G 4 6 D.lf)) ∧ (∀ i, i < 6 → D.lf i = some (D.le i) ∧ le_at G w (D.le i) (20 + 3 * i) (σ.lv i)) ∧ (sn_at G w D.sn σ.sn) ∧ (rw_at G w D.g 6 7 600 σ.ga) ∧ (rw_at G w D.k 8 9 600 σ.ke) ∧ (nw_at G w D.ne σ.nw) ∧ (∀ x ∈ σ.tb, en_ok x)
theorem kp_at.o {G : dk_G} {w : dk_H} {h : Nat} {D : kp_D} {σ : kp_S} (H : kp_at G w h D σ) : w h = some (1, kp_c D σ) := H.1
theorem kp_at.t {G : dk_G} {w : dk_H} {h : Nat} {D : kp_D} {σ : kp_S} (H : kp_at G w h D σ) : rw_at G w D.t 2 3 40 σ.tb := H.2.1
theorem kp_at.a {G : dk_G} {w : dk_H} {h : Nat} {D : kp_D} {σ : kp_S} (H : kp_at G w h D σ) : rw_at G w D.a 4 5 16 σ.ad := H.2.2.1
theorem kp_at.l {G : dk_G} {w : dk_H} {h : Nat} {D : kp_D} {σ : kp_S} (H : kp_at G w h D σ) : w D.lv = some (11, dk_ca G 4 6 D.lf) := H.2.2.2.1
theorem kp_at.v {G : dk_G} {w : dk_H} {h : Nat} {D : kp_D} {σ : kp_S} (H : kp_at G w h D σ) : ∀ i, i < 6 → D.lf i = some (D.le i) ∧ le_at G w (D.le i) (20 + 3 * i) (σ.lv i) := H.2.2.2.2.1
theorem kp_at.s {G : dk_G} {w : dk_H} {h : Nat} {D : kp_D} {σ : kp_S} (H : kp_at G w h D σ) : sn_at G w D.sn σ.sn := H.2.2.2.2.2.1
theorem kp_at.g {G : dk_G} {w : dk_H} {h : Nat} {D : kp_D} {σ : kp_S} (H : kp_at G w h D σ) : rw_at G w D.g 6 7 600 σ.ga := H.2.2.2.2.2.2.1
theorem kp_at.k {G : dk_G} {w : dk_H} {h : Nat} {D : kp_D} {σ : kp_S} (H : kp_at G w h D σ) : rw_at G w D.k 8 9 600 σ.ke := H.2.2.2.2.2.2.2.1
theorem kp_at.n {G : dk_G} {w : dk_H} {h : Nat} {D : kp_D} {σ : kp_S} (H : kp_at G w h D σ) : nw_at G w D.ne σ.nw := H.2.2.2.2.2.2.2.2.1
theorem kp_at.tk {G : dk_G} {w : dk_H} {h : Nat} {D : kp_D} {σ : kp_S} (H : kp_at G w h D σ) : ∀ x ∈ σ.tb, en_ok x := H.2.2.2.2.2.2.2.2.2
def kp_T : Nat → Prop := fun t => 1 ≤ t ∧ t < 64
section KP
variable {G : dk_G} {w w1 : dk_H} {h : Nat} {D : kp_D} {σ : kp_S}
theorem kp_at.ofo (H : kp_at G w h D σ) (hf : dk_fr (fun t => t = 1) w w1) {σ' : kp_S} (ho : w1 h = some (1, kp_c D σ')) (h1 : σ'.tb = σ.tb) (h2 : σ'.ad = σ.ad) (h3 : σ'.lv = σ.lv) (h4 : σ'.sn = σ.sn) (h5 : σ'.ga = σ.ga) (h6 : σ'.ke = σ.ke) (h7 : σ'.nw = σ.nw) : kp_at G w1 h D σ' :=
  ⟨ho, h1 ▸ H.t.fr hf (by omega) (by omega) (by omega), h2 ▸ H.a.fr hf (by omega) (by omega) (by omega), hf _ _ _ H.l (by omega), fun i hi => ⟨(H.v i hi).1, h3 ▸ (H.v i hi).2.fr hf (by omega) (by omega) (by omega) (by omega)⟩, h4 ▸ H.s.fr hf (by omega) (by omega) (by omega), h5 ▸ H.g.fr hf (by omega) (by omega) (by omega), h6 ▸ H.k.fr hf (by omega) (by omega) (by omega), h7 ▸ H.n.fr hf (by omega) (by omega), h1 ▸ H.tk⟩
theorem kp_at.oft (H : kp_at G w h D σ) (hf : dk_fr (fun t => t = 2 ∨ t = 3) w w1) {L : List en_T} (hL : rw_at G w1 D.t 2 3 40 L) (hk : ∀ x ∈ L, en_ok x) : kp_at G w1 h D (σ.tb' (L)) :=
  ⟨hf _ _ _ H.o (by omega), hL, H.a.fr hf (by omega) (by omega) (by omega), hf _ _ _ H.l (by omega), fun i hi => ⟨(H.v i hi).1, (H.v i hi).2.fr hf (by omega) (by omega) (by omega) (by omega)⟩, H.s.fr hf (by omega) (by omega) (by omega), H.g.fr hf (by omega) (by omega) (by omega), H.k.fr hf (by omega) (by omega) (by omega), H.n.fr hf (by omega) (by omega), hk⟩
theorem kp_at.ofa (H : kp_at G w h D σ) (hf : dk_fr (fun t => t = 4 ∨ t = 5) w w1) {L : List en_T} (hL : rw_at G w1 D.a 4 5 16 L) : kp_at G w1 h D (σ.ad' (L)) :=
  ⟨hf _ _ _ H.o (by omega), H.t.fr hf (by omega) (by omega) (by omega), hL, hf _ _ _ H.l (by omega), fun i hi => ⟨(H.v i hi).1, (H.v i hi).2.fr hf (by omega) (by omega) (by omega) (by omega)⟩, H.s.fr hf (by omega) (by omega) (by omega), H.g.fr hf (by omega) (by omega) (by omega), H.k.fr hf (by omega) (by omega) (by omega), H.n.fr hf (by omega) (by omega), H.tk⟩
theorem kp_at.ofg (H : kp_at G w h D σ) (hf : dk_fr (fun t => t = 6 ∨ t = 7) w w1) {L : List en_T} (hL : rw_at G w1 D.g 6 7 600 L) : kp_at G w1 h D (σ.ga' (L)) :=
  ⟨hf _ _ _ H.o (by omega), H.t.fr hf (by omega) (by omega) (by omega), H.a.fr hf (by omega) (by omega) (by omega), hf _ _ _ H.l (by omega), fun i hi => ⟨(H.v i hi).1, (H.v i hi).2.fr hf (by omega) (by omega) (by omega) (by omega)⟩, H.s.fr hf (by omega) (by omega) (by omega), hL, H.k.fr hf (by omega) (by omega) (by omega), H.n.fr hf (by omega) (by omega), H.tk⟩
theorem kp_at.ofk (H : kp_at G w h D σ) (hf : dk_fr (fun t => t = 8 ∨ t = 9) w w1) {L : List en_T} (hL : rw_at G w1 D.k 8 9 600 L) : kp_at G w1 h D (σ.ke' (L)) :=
  ⟨hf _ _ _ H.o (by omega), H.t.fr hf (by omega) (by omega) (by omega), H.a.fr hf (by omega) (by omega) (by omega), hf _ _ _ H.l (by omega), fun i hi => ⟨(H.v i hi).1, (H.v i hi).2.fr hf (by omega) (by omega) (by omega) (by omega)⟩, H.s.fr hf (by omega) (by omega) (by omega), H.g.fr hf (by omega) (by omega) (by omega), hL, H.n.fr hf (by omega) (by omega), H.tk⟩
theorem kp_at.ofn (H : kp_at G w h D σ) (hf : dk_fr (fun t => t = 10) w w1) {f : Nat → Option en_T} (hL : nw_at G w1 D.ne f) : kp_at G w1 h D (σ.nw' (f)) :=
  ⟨hf _ _ _ H.o (by omega), H.t.fr hf (by omega) (by omega) (by omega), H.a.fr hf (by omega) (by omega) (by omega), hf _ _ _ H.l (by omega), fun i hi => ⟨(H.v i hi).1, (H.v i hi).2.fr hf (by omega) (by omega) (by omega) (by omega)⟩, H.s.fr hf (by omega) (by omega) (by omega), H.g.fr hf (by omega) (by omega) (by omega), H.k.fr hf (by omega) (by omega) (by omega), hL, H.tk⟩
theorem kp_at.ofs (H : kp_at G w h D σ) (hf : dk_fr sn_T w w1) {f : Nat → Option Nat} (hL : sn_at G w1 D.sn f) : kp_at G w1 h D (σ.sn' (f)) := by
  have hf : dk_fr (fun t => t = 13 ∨ t = 14 ∨ t = 15) w w1 := hf
  exact ⟨hf _ _ _ H.o (by omega), H.t.fr hf (by omega) (by omega) (by omega), H.a.fr hf (by omega) (by omega) (by omega), hf _ _ _ H.l (by omega), fun i hi => ⟨(H.v i hi).1, (H.v i hi).2.fr hf (by omega) (by omega) (by omega) (by omega)⟩, hL, H.g.fr hf (by omega) (by omega) (by omega), H.k.fr hf (by omega) (by omega) (by omega), H.n.fr hf (by omega) (by omega), H.tk⟩
theorem kp_at.ofv (H : kp_at G w h D σ) {j : Nat} (hj : j < 6) (hf : dk_fr (le_T (20 + 3 * j)) w w1) {Rs : List (List en_T)} (hL : le_at G w1 (D.le j) (20 + 3 * j) Rs) : kp_at G w1 h D (σ.lv' (va_up σ.lv j Rs)) := by
  have hf : dk_fr (fun t => t = 20 + 3 * j ∨ t = 20 + 3 * j + 1 ∨ t = 20 + 3 * j + 2) w w1 := hf
  refine ⟨hf _ _ _ H.o (by omega), H.t.fr hf (by omega) (by omega) (by omega), H.a.fr hf (by omega) (by omega) (by omega), hf _ _ _ H.l (by omega), fun i hi => ⟨(H.v i hi).1, ?_⟩, H.s.fr hf (by omega) (by omega) (by omega), H.g.fr hf (by omega) (by omega) (by omega), H.k.fr hf (by omega) (by omega) (by omega), H.n.fr hf (by omega) (by omega), H.tk⟩
  by_cases e : i = j
  · subst e
    rw [show (σ.lv' (va_up σ.lv i Rs)).lv i = Rs from dk_us]
    exact hL
  · rw [show (σ.lv' (va_up σ.lv j Rs)).lv i = σ.lv i from dk_un e]
    exact (H.v i hi).2.fr hf (by omega) (by omega) (by omega) (by omega)
/-- cells made or changed that are no one's: temporaries of a run -/
theorem kp_at.off (H : kp_at G w h D σ) (hf : dk_fr (fun t => 60 ≤ t ∧ t ≤ 63) w w1) : kp_at G w1 h D σ :=
  ⟨hf _ _ _ H.o (by omega), H.t.fr hf (by omega) (by omega) (by omega), H.a.fr hf (by omega) (by omega) (by omega), hf _ _ _ H.l (by omega), fun i hi => ⟨(H.v i hi).1, (H.v i hi).2.fr hf (by omega) (by omega) (by omega) (by omega)⟩, H.s.fr hf (by omega) (by omega) (by omega), H.g.fr hf (by omega) (by omega) (by omega), H.k.fr hf (by omega) (by omega) (by omega), H.n.fr hf (by omega) (by omega), H.tk⟩
theorem kp_o (hf : dk_fr (fun t => t = 1) w w1) : dk_fr kp_T w w1 := hf.mono (fun t z => by unfold kp_T; omega)
theorem kp_r {a b : Nat} (hf : dk_fr (fun t => t = a ∨ t = b) w w1) (ha : 1 ≤ a ∧ a < 64 ∧ 1 ≤ b ∧ b < 64) : dk_fr kp_T w w1 := hf.mono (fun t z => by unfold kp_T; omega)
theorem kp_s (hf : dk_fr sn_T w w1) : dk_fr kp_T w w1 := hf.mono (fun t z => by unfold kp_T; unfold sn_T at z; omega)
theorem kp_v {j : Nat} (hj : j < 6) (hf : dk_fr (le_T (20 + 3 * j)) w w1) : dk_fr kp_T w w1 := hf.mono (fun t z => by unfold kp_T; unfold le_T at z; omega)
theorem kp_f (hf : dk_fr (fun t => 60 ≤ t ∧ t ≤ 63) w w1) : dk_fr kp_T w w1 := hf.mono (fun t z => by unfold kp_T; omega)
end KP
/-- how many entries the levels below n have -/
def lv_ct (lv : Nat → List (List en_T)) : Nat → Nat
  | 0 => 0
  | n + 1 => lv_ct lv n + le_ct (lv n)
def lv_fl (lv : Nat → List (List en_T)) : Nat → List en_T
  | 0 => []
  | n + 1 => lv_fl lv n ++ (lv n).flatten
theorem lv_fl_len (lv : Nat → List (List en_T)) (n : Nat) : (lv_fl lv n).length = lv_ct lv n := by
  induction n with
  | zero => rfl
  | succ n ih => simp only [lv_fl, lv_ct, List.length_append, ih, le_flat]
theorem lv_ct_mono (lv : Nat → List (List en_T)) {m n : Nat} (h : m ≤ n) : lv_ct lv m ≤ lv_ct lv n := by
  induction n with
  | zero => rw [Nat.le_zero.mp h]; exact Nat.le_refl _
  | succ n ih =>
    by_cases e : m = n + 1
    · rw [e]; exact Nat.le_refl _
    · have := ih (by omega)
      simp only [lv_ct]
      omega
theorem lv_ct_le (lv : Nat → List (List en_T)) {i n : Nat} (h : i < n) : le_ct (lv i) ≤ lv_ct lv n := by
  have := lv_ct_mono lv (m := i + 1) (n := n) h
  simp only [lv_ct] at this
  omega
def kp_n (σ : kp_S) : Nat := σ.tb.length + lv_ct σ.lv 6
