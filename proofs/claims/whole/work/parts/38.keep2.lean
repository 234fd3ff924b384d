/-! PURE ROWS of merging and looking -/
theorem nI_s1 (j : Nat) : nI (j + 1) - nI 1 = nI j := by rw [← nI_add, Int32.add_sub_cancel]
theorem nI_m1 : nI 0 - nI 1 < 0 := by decide
theorem nI_p1 (j : Nat) : nI j + Int32.ofInt (-1) = nI j - nI 1 := by rw [Int32.sub_eq_add_neg]; rfl
def at_o (L : List en_T) (k : Int32) : Option en_T := if k < 0 then none else L[k.toNatClampNeg]?
theorem at_on {L : List en_T} {j : Nat} (hj : j < 2 ^ 31) : at_o L (nI j) = L[j]? := by rw [at_o, if_neg (nI_pos hj), nI_clamp hj]
def pv_o (L : List en_T) : Nat → Option en_T
  | 0 => none
  | j + 1 => L[j]?
theorem at_m {L : List en_T} {i : Nat} (hi : i < 2 ^ 31) : at_o L (nI i - nI 1) = pv_o L i := by
  cases i with
  | zero => rw [at_o, if_pos nI_m1]; rfl
  | succ j => rw [nI_s1, at_on (by omega)]; rfl
theorem at_q {w : dk_H} {r : Option Nat} {L : List en_T} {k : Int32} (h : (r = none ∧ ∀ i, k = nI i → i < 2 ^ 31 → L.length ≤ i) ∨ ∃ i y, k = nI i ∧ L[i]? = some y ∧ en_q w r (some y)) (hl : L.length < 2 ^ 31) : en_q w r (at_o L k) := by
  by_cases hk : k < 0
  · rw [at_o, if_pos hk]
    rcases h with ⟨h, -⟩ | ⟨i, y, h1, h2, -⟩
    · exact h
    · have := (List.getElem?_eq_some_iff.mp h2).1
      exact absurd (h1 ▸ hk) (nI_pos (by omega))
  · obtain ⟨j, hj, e⟩ := nI_of hk
    rw [e, at_on hj]
    rcases h with ⟨h, h9⟩ | ⟨i, y, h1, h2, h3⟩
    · rw [List.getElem?_eq_none (h9 j e hj)]
      exact h
    · have := (List.getElem?_eq_some_iff.mp h2).1
      have e2 := (nI_eq hj (by omega)).mp (e.symm.trans h1)
      rw [e2, h2]
      exact h3
theorem en_qc {w : dk_H} {r : Option Nat} {o : Option en_T} (h : en_q w r o) : (r = none ∧ o = none) ∨ ∃ a x, r = some a ∧ o = some x ∧ en_at w a x := by
  cases o with
  | none => exact Or.inl ⟨h, rfl⟩
  | some x =>
    obtain ⟨a, h1, h2⟩ := h
    exact Or.inr ⟨a, x, h1, rfl, h2⟩
def se_o (sn : Nat → Option Nat) (x : en_T) : Option en_T → Bool
  | none => true
  | some y => if x.1 = y.1 then sn_an sn x.2.1 y.2.1 6 else true
def hk_o (x : en_T) : Option en_T → Bool
  | none => false
  | some y => decide (x.1 = y.1)
def kw_1 (sn : Nat → Option Nat) (A : List en_T) (i : Nat) (x : en_T) (K : List en_T) : List en_T := if se_o sn x (pv_o A i) = true then K ++ [x] else K
def kw_2 (b : Bool) (A : List en_T) (i : Nat) (x : en_T) (K : List en_T) : List en_T := if b = true ∧ hk_o x A[i + 1]? = false then K.take (cd_L K K.length) else K
def kw_L (sn : Nat → Option Nat) (b : Bool) (A : List en_T) : Nat → List en_T
  | 0 => []
  | i + 1 => match A[i]? with
    | none => kw_L sn b A i
    | some x => kw_2 b A i x (kw_1 sn A i x (kw_L sn b A i))
theorem kw_succ {sn : Nat → Option Nat} {b : Bool} {A : List en_T} {i : Nat} {x : en_T} (h : A[i]? = some x) : kw_L sn b A (i + 1) = kw_2 b A i x (kw_1 sn A i x (kw_L sn b A i)) := by simp only [kw_L, h]
theorem kw_2_len (b : Bool) (A : List en_T) (i : Nat) (x : en_T) (K : List en_T) : (kw_2 b A i x K).length ≤ K.length := by
  unfold kw_2
  split
  · rw [List.length_take]; omega
  · exact Nat.le_refl _
theorem kw_1_len (sn : Nat → Option Nat) (A : List en_T) (i : Nat) (x : en_T) (K : List en_T) : (kw_1 sn A i x K).length ≤ K.length + 1 := by
  unfold kw_1
  split
  · simp
  · omega
theorem kw_len (sn : Nat → Option Nat) (b : Bool) (A : List en_T) (i : Nat) : (kw_L sn b A i).length ≤ i := by
  induction i with
  | zero => simp [kw_L]
  | succ i ih =>
    cases h : A[i]? with
    | none => simp only [kw_L, h]; omega
    | some x =>
      rw [kw_succ h]
      have h1 := kw_2_len b A i x (kw_1 sn A i x (kw_L sn b A i))
      have h2 := kw_1_len sn A i x (kw_L sn b A i)
      omega
theorem kw_mem {sn : Nat → Option Nat} {b : Bool} {A : List en_T} {y : en_T} : ∀ (i : Nat), y ∈ kw_L sn b A i → y ∈ A := by
  intro i
  induction i with
  | zero => intro h; simp [kw_L] at h
  | succ i ih =>
    cases h : A[i]? with
    | none => intro hy; simp only [kw_L, h] at hy; exact ih hy
    | some x =>
      intro hy
      rw [kw_succ h] at hy
      have h1 : y ∈ kw_1 sn A i x (kw_L sn b A i) := by
        unfold kw_2 at hy
        split at hy
        · exact List.mem_of_mem_take hy
        · exact hy
      unfold kw_1 at h1
      split at h1
      · rcases List.mem_append.mp h1 with h2 | h2
        · exact ih h2
        · rw [List.mem_singleton.mp h2]; exact List.mem_of_getElem? h
      · exact ih h1
/-- the least level with runs to merge; are the levels from k on empty -/
def mg_j (lv : Nat → List (List en_T)) : Option Nat := [0, 1, 2, 3, 4].find? (fun j => decide (4 ≤ (lv j).length))
def mg_e (lv : Nat → List (List en_T)) (k : Nat) : Bool := [0, 1, 2, 3, 4, 5].all (fun i => decide (i < k) || (lv i).isEmpty)
theorem mg_js {lv : Nat → List (List en_T)} {j : Nat} (h1 : j < 5) (h2 : 4 ≤ (lv j).length) (h3 : ∀ i, i < j → (lv i).length < 4) : mg_j lv = some j := by
  have g : ∀ i, i < j → ¬ 4 ≤ (lv i).length := fun i hi => by have := h3 i hi; omega
  rcases (show j = 0 ∨ j = 1 ∨ j = 2 ∨ j = 3 ∨ j = 4 by omega) with rfl | rfl | rfl | rfl | rfl
  · simp [mg_j, List.find?, h2]
  · simp [mg_j, List.find?, h2, g 0 (by omega)]
  · simp [mg_j, List.find?, h2, g 0 (by omega), g 1 (by omega)]
  · simp [mg_j, List.find?, h2, g 0 (by omega), g 1 (by omega), g 2 (by omega)]
  · simp [mg_j, List.find?, h2, g 0 (by omega), g 1 (by omega), g 2 (by omega), g 3 (by omega)]
theorem mg_jn {lv : Nat → List (List en_T)} (h3 : ∀ i, i < 5 → (lv i).length < 4) : mg_j lv = none := by
  have g : ∀ i, i < 5 → ¬ 4 ≤ (lv i).length := fun i hi => by have := h3 i hi; omega
  simp [mg_j, List.find?, g 0 (by omega), g 1 (by omega), g 2 (by omega), g 3 (by omega), g 4 (by omega)]
theorem mg_ei {lv : Nat → List (List en_T)} {k : Nat} : mg_e lv k = true ↔ ∀ i, k ≤ i → i < 6 → lv i = [] := by
  constructor
  · intro h i h1 h2
    have h3 := List.all_eq_true.mp h i (by
      rcases (show i = 0 ∨ i = 1 ∨ i = 2 ∨ i = 3 ∨ i = 4 ∨ i = 5 by omega) with rfl | rfl | rfl | rfl | rfl | rfl <;> simp)
    rw [Bool.or_eq_true] at h3
    rcases h3 with h3 | h3
    · exact absurd (of_decide_eq_true h3) (by omega)
    · exact List.isEmpty_iff.mp h3
  · intro h
    refine List.all_eq_true.mpr (fun i hi => ?_)
    rw [Bool.or_eq_true]
    by_cases h1 : i < k
    · exact Or.inl (decide_eq_true h1)
    · have h2 : i < 6 := by simp at hi; omega
      exact Or.inr (List.isEmpty_iff.mpr (h i (by omega) h2))
theorem mg_eb {lv : Nat → List (List en_T)} {k : Nat} {b : Bool} (h : b = true ↔ ∀ i, k ≤ i → i < 6 → lv i = []) : b = mg_e lv k := by
  cases b with
  | true => exact (mg_ei.mpr (h.mp rfl)).symm
  | false =>
    cases he : mg_e lv k with
    | false => rfl
    | true => exact absurd (h.mpr (mg_ei.mp he)) (by decide)
def mg_A (σ : kp_S) (j : Nat) : List en_T := so_st (σ.lv j).flatten
def mg_K (σ : kp_S) (j : Nat) : List en_T := kw_L σ.sn (mg_e σ.lv (j + 1)) (mg_A σ j) (mg_A σ j).length
def mg_S (σ : kp_S) (j : Nat) : kp_S := lv_add (((σ.ga' (mg_A σ j)).ke' (mg_K σ j)).lv' (va_up σ.lv j [])) (j + 1) (mg_K σ j)
def mg_1 (σ : kp_S) : Option kp_S := (mg_j σ.lv).map (mg_S σ)
theorem lv_fl_ok {G : dk_G} {w : dk_H} {h : Nat} {D : kp_D} {σ : kp_S} (H : kp_at G w h D σ) {i : Nat} (hi : i < 6) : ∀ R ∈ σ.lv i, ∀ x ∈ R, en_ok x := by
  intro R hR
  obtain ⟨al, xs, -, -, h3, -⟩ := (H.v i hi).2
  obtain ⟨j, hj⟩ := List.getElem?_of_mem hR
  have hl := (List.getElem?_eq_some_iff.mp hj).1
  obtain ⟨y, hy⟩ := ge_at (L := xs) (i := j) (by rw [h3.1]; exact hl)
  obtain ⟨r, fl, f, -, -, -, -, -, -, hk⟩ := h3.2 j y R hy hj
  exact hk
theorem lv_flk {G : dk_G} {w : dk_H} {h : Nat} {D : kp_D} {σ : kp_S} (H : kp_at G w h D σ) : ∀ n, n ≤ 6 → ∀ x ∈ lv_fl σ.lv n, en_ok x := by
  intro n
  induction n with
  | zero => intro _ x hx; simp [lv_fl] at hx
  | succ n ih =>
    intro hn x hx
    simp only [lv_fl, List.mem_append, List.mem_flatten] at hx
    rcases hx with hx | ⟨R, hR, hx⟩
    · exact ih (by omega) x hx
    · exact lv_fl_ok H (by omega) R hR x hx
theorem ga_ok {G : dk_G} {w : dk_H} {h : Nat} {D : kp_D} {σ : kp_S} (H : kp_at G w h D σ) : ∀ x ∈ σ.tb ++ lv_fl σ.lv 6, en_ok x := by
  intro x hx
  rcases List.mem_append.mp hx with h1 | h1
  · exact H.tk x h1
  · exact lv_flk H 6 (by omega) x h1
/-- looking in a level: the runs below r, the latest first; (how many were probed, how many in vain) -/
def pb_q (k : Nat) (R : List en_T) (q : Nat × Nat) : Nat × Nat := (q.1 + 1, if R.any (fun x => decide (x.1 = k)) = true then q.2 else q.2 + 1)
def lk_l (k u : Nat) (Rs : List (List en_T)) : Nat → Nat × Nat → Option en_T × (Nat × Nat)
  | 0, q => (none, q)
  | r + 1, q => match Rs[r]? with
    | none => lk_l k u Rs r q
    | some R => if rn_m R k = true then (match la_L k u R with
      | none => lk_l k u Rs r (pb_q k R q)
      | some x => (some x, pb_q k R q)) else lk_l k u Rs r q
theorem lk_no {k u : Nat} {Rs : List (List en_T)} {r : Nat} {q : Nat × Nat} {R : List en_T} (h : Rs[r]? = some R) (h1 : rn_m R k = false) : lk_l k u Rs (r + 1) q = lk_l k u Rs r q := by simp [lk_l, h, h1]
theorem lk_0 {k u : Nat} {Rs : List (List en_T)} {r : Nat} {q : Nat × Nat} {R : List en_T} (h : Rs[r]? = some R) (h1 : rn_m R k = true) (h2 : la_L k u R = none) : lk_l k u Rs (r + 1) q = lk_l k u Rs r (pb_q k R q) := by simp [lk_l, h, h1, h2]
theorem lk_1 {k u : Nat} {Rs : List (List en_T)} {r : Nat} {q : Nat × Nat} {R : List en_T} {x : en_T} (h : Rs[r]? = some R) (h1 : rn_m R k = true) (h2 : la_L k u R = some x) : lk_l k u Rs (r + 1) q = (some x, pb_q k R q) := by simp [lk_l, h, h1, h2]
/-- looking in the last n of the six levels -/
def lk_v (k u : Nat) (lv : Nat → List (List en_T)) : Nat → Nat × Nat → Option en_T × (Nat × Nat)
  | 0, q => (none, q)
  | n + 1, q => match (lk_l k u (lv (5 - n)) (lv (5 - n)).length q).1 with
    | none => lk_v k u lv n (lk_l k u (lv (5 - n)) (lv (5 - n)).length q).2
    | some x => (some x, (lk_l k u (lv (5 - n)) (lv (5 - n)).length q).2)
def lk_K (σ : kp_S) (k u : Nat) : Option en_T × (Nat × Nat) := match la_L k u σ.tb with
  | some x => (some x, (0, 0))
  | none => lk_v k u σ.lv 6 (0, 0)
/-- the newest of each key as of u -/
def nn_f (u : Nat) (nw : Nat → Option en_T) (x : en_T) : Nat → Option en_T := if x.2.1 ≤ u ∧ (nw x.1).all (fun y => decide (y.2.1 < x.2.1)) = true then va_up nw x.1 (some x) else nw
def nn_L (u : Nat) (L : List en_T) : Nat → Option en_T := L.foldl (nn_f u) (fun _ => none)
theorem nn_snoc (u : Nat) (L : List en_T) (x : en_T) : nn_L u (L ++ [x]) = nn_f u (nn_L u L) x := by simp [nn_L, List.foldl_append]
theorem nw_at.ext {G : dk_G} {w : dk_H} {a : Nat} {f g : Nat → Option en_T} (H : nw_at G w a f) (h : ∀ i, i < 1024 → g i = f i) : nw_at G w a g := by
  obtain ⟨nf, g1, g2⟩ := H
  exact ⟨nf, g1, fun i hi => by rw [h i hi]; exact g2 i hi⟩
theorem nw_at.put {G : dk_G} {w w1 : dk_H} {a b : Nat} {f : Nat → Option en_T} {nf : Nat → Option Nat} {x : en_T} {j : Nat} (h2 : ∀ i, i < 1024 → en_q w (nf i) (f i)) (hf : dk_fr (fun t => t = 10) w w1) (h1 : w1 a = some (10, dk_ca G 3 1024 (va_up nf j (some b)))) (hb : en_at w b x) : nw_at G w1 a (va_up f j (some x)) := by
  refine ⟨_, h1, fun i hi => ?_⟩
  by_cases e : i = j
  · subst e
    rw [dk_us, dk_us]
    exact ⟨b, rfl, hb.fr hf (by decide)⟩
  · rw [dk_un e, dk_un e]
    exact (h2 i hi).fr hf (by decide)
theorem nw_at.cut {G : dk_G} {w w1 : dk_H} {a : Nat} {f : Nat → Option en_T} {nf : Nat → Option Nat} {j : Nat} (h2 : ∀ i, i < 1024 → en_q w (nf i) (f i)) (hf : dk_fr (fun t => t = 10) w w1) (h1 : w1 a = some (10, dk_ca G 3 1024 (va_up nf j none))) : nw_at G w1 a (va_up f j none) := by
  refine ⟨_, h1, fun i hi => ?_⟩
  by_cases e : i = j
  · subst e
    rw [dk_us, dk_us]
    exact rfl
  · rw [dk_un e, dk_un e]
    exact (h2 i hi).fr hf (by decide)
