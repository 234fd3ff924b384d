/-! RUNS: the filter's bits (ts_nf, ts_nt, ts_bit as kit/laws/BITS.to-paste has them) -/
theorem ts_nf {x : Bool} (h : ¬ x = false) : x = true := by cases x <;> first | rfl | exact absurd rfl h
theorem ts_nt {x : Bool} (h : ¬ x = true) : x = false := by cases x <;> first | rfl | exact absurd rfl h
theorem ts_bit {w : Int64} {s : UInt64} {j : Nat} (hj : j < 64) (hs : s.toNat = j) : ((w.toUInt64 >>> s).toInt64 &&& 1) = 0 ↔ w.toBitVec.getLsbD j = false := by
  have e : (w.toUInt64 >>> s).toInt64.toBitVec = w.toBitVec >>> j := by
    apply BitVec.eq_of_toNat_eq
    show (w.toUInt64 >>> s).toNat = _
    rw [UInt64.toNat_shiftRight, hs, Nat.mod_eq_of_lt hj, BitVec.toNat_ushiftRight]
    rfl
  rw [← Int64.toBitVec_inj, Int64.toBitVec_and, e]
  show w.toBitVec >>> j &&& 1#64 = 0#64 ↔ _
  constructor
  · intro h
    have t := congrArg (fun x => x.getLsbD 0) h
    simpa using t
  · intro h
    apply BitVec.eq_of_getLsbD_eq
    intro i hi
    cases i with
    | zero => simp [h]
    | succ i => simp
/-- a key's number for the j-th factor, before it is taken modulo the bits -/
def hv_k (k j : Nat) : Nat := (nI k * dk_fac j).toBitVec.toNat / 4096
theorem hv_lt (k j : Nat) : hv_k k j < 2 ^ 20 := by
  have := (nI k * dk_fac j).toBitVec.isLt
  unfold hv_k
  omega
theorem hv_sh (y : Int32) : (y.toUInt32 >>> ((nI 12).toUInt32 &&& Int32.toUInt32 31)).toInt32 = nI (y.toBitVec.toNat / 4096) := by
  apply Int32.toBitVec_inj.mp
  apply BitVec.eq_of_toNat_eq
  rw [pk_ushr y (nI 12) 12 (by decide)]
  rw [pk_tn (by have := y.toBitVec.isLt; omega)]
theorem sh_am : ∀ k, k < 64 → ((nI k).toInt64.toUInt64 &&& Int64.toUInt64 63).toNat = k := by decide +kernel
theorem sh_one : ∀ k, k < 64 → ((1 : Int64) <<< ((nI k).toInt64 &&& 63)).toBitVec = BitVec.twoPow 64 k := by decide +kernel
/-- bit b of the words f -/
def bt_f (f : Nat → Int64) (b : Nat) : Bool := (f (b / 64)).toBitVec.getLsbD (b % 64)
theorem bt_or {f : Nat → Int64} {b0 : Nat} {m : Int64} (hm : m.toBitVec = BitVec.twoPow 64 (b0 % 64)) (b : Nat) : bt_f (vp_updL f (b0 / 64) (f (b0 / 64) ||| m)) b = (bt_f f b || decide (b = b0)) := by
  unfold bt_f
  have h1 : b % 64 < 64 := Nat.mod_lt _ (by decide)
  by_cases hq : b / 64 = b0 / 64
  · rw [hq, pk_uLs, Int64.toBitVec_or, BitVec.getLsbD_or, hm, BitVec.getLsbD_twoPow]
    congr 1
    have e : (b0 % 64 = b % 64) ↔ b = b0 := by omega
    have h2 : b0 % 64 < 64 := Nat.mod_lt _ (by decide)
    by_cases hb : b = b0
    · subst hb; simp [h1]
    · have : ¬ b0 % 64 = b % 64 := fun z => hb (e.mp z)
      simp [hb, this]
  · rw [pk_uLn hq]
    have : b ≠ b0 := fun z => hq (by rw [z])
    simp [this]
theorem bt_0 (b : Nat) : bt_f (fun _ => 0) b = false := by simp [bt_f]
/-- the bits of a row's keys -/
def fl_x (nb k b : Nat) : Bool := decide (hv_k k 0 % nb = b) || decide (hv_k k 1 % nb = b) || decide (hv_k k 2 % nb = b)
def fl_s (nb : Nat) (L : List en_T) (b : Nat) : Bool := L.any (fun x => fl_x nb x.1 b)
def fl_p (nb : Nat) (L : List en_T) (k : Nat) : Bool := fl_s nb L (hv_k k 0 % nb) && fl_s nb L (hv_k k 1 % nb) && fl_s nb L (hv_k k 2 % nb)
def rn_w (L : List en_T) : Nat := (L.length + 7) / 8
/-- may the run have the key -/
def rn_m (L : List en_T) (k : Nat) : Bool := decide ((L.getD 0 (0, 0, 0, false)).1 ≤ k) && decide (k ≤ (L.getD (L.length - 1) (0, 0, 0, false)).1) && fl_p (64 * rn_w L) L k
def rn_at (G : dk_G) (w : dk_H) (h : Nat) (L : List en_T) : Prop := ∃ (r fl : Nat) (f : Nat → Int64), w h = some (0, .inr (cx_U, [.ref r, .ref fl])) ∧ rw_at G w r 0 0 L.length L ∧ w fl = some (0, dk_cl G (rn_w L) f) ∧ (∀ b, b < 64 * rn_w L → bt_f f b = fl_s (64 * rn_w L) L b) ∧ 0 < L.length ∧ L.length ≤ 600 ∧ ∀ x ∈ L, en_ok x
theorem rn_at.fr {G : dk_G} {T : Nat → Prop} {w w1 : dk_H} {h : Nat} {L : List en_T} (H : rn_at G w h L) (hf : dk_fr T w w1) (h0 : ¬ T 0) : rn_at G w1 h L := by
  obtain ⟨r, fl, f, g1, g2, g3, g4⟩ := H
  exact ⟨r, fl, f, hf _ _ _ g1 h0, g2.fr hf h0 h0 h0, hf _ _ _ g3 h0, g4⟩
