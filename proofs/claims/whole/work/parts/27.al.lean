/-! ArrayList: its cells, and rows for arrays of Objects -/
abbrev al_c (mo : Int32) (ed n : Nat) : va_E := .inr (cx_A, [.int mo, .ref ed, .int (nI n)])
/-- the elements xs: cells of runs -/
def al_at (G : dk_G) (w : dk_H) (h t0 t1 : Nat) (xs : List Nat) : Prop := ∃ (mo : Int32) (ed : Nat), w h = some (t0, al_c mo ed xs.length) ∧ ((ed = G.2.2.2 1 ∧ xs = []) ∨ ∃ (cap : Nat) (f : Nat → Option Nat), w ed = some (t1, dk_ca G 5 cap f) ∧ xs.length ≤ cap ∧ 10 ≤ cap ∧ cap ≤ 900 ∧ ∀ i x, xs[i]? = some x → f i = some x)
def al_el (w : dk_H) (xs : List Nat) : Prop := ∀ x ∈ xs, ∃ fs, w x = some (0, .inr (cx_U, fs))
theorem al_at.fr {G : dk_G} {T : Nat → Prop} {w w1 : dk_H} {h t0 t1 : Nat} {xs : List Nat} (H : al_at G w h t0 t1 xs) (hf : dk_fr T w w1) (h0 : ¬ T t0) (h1 : ¬ T t1) : al_at G w1 h t0 t1 xs := by
  obtain ⟨mo, ed, g1, g2⟩ := H
  refine ⟨mo, ed, hf _ _ _ g1 h0, ?_⟩
  rcases g2 with g2 | ⟨cap, f, g2, g3⟩
  · exact Or.inl g2
  · exact Or.inr ⟨cap, f, hf _ _ _ g2 h1, g3⟩
theorem al_el.fr {T : Nat → Prop} {w w1 : dk_H} {xs : List Nat} (H : al_el w xs) (hf : dk_fr T w w1) (h0 : ¬ T 0) : al_el w1 xs := fun x hx => (H x hx).imp fun fs h => hf _ _ _ h h0
section ALR
variable {p : Program} {l : Launch} {e : Env} {R : Room} {s : State} {m : MethodId} {args : Array Value} {below : List Frame} {meth : Method} {c : Code} {H : Heap} {locs : List Loc} {cells slots : Nat} {Q : State → Prop}
variable {cc : ByteArray} {pc : Nat} {ls : Array Slot} {rest : List Value} {G : dk_G} {w : dk_H} {a t : Nat} {H0 : Heap}
/-- a reference into an array of a class that its own can be cast to -/
theorem dk_aastO (hexec : p.tables.exec = Jvm.exec) (hb : c.code = cc) (hK : dk_K G s) (hP : dk_P G w H) (hS : dk_S G H0 H locs) {E : String} {ka n v ci tv : Nat} {r : vw_C} {vs : List Value} {f : Nat → Option Nat} (ha : w a = some (t, dk_ca G ka n f)) (ht : (dk_tys G)[ka]? = some (G.2.1 ka, .object E)) (hca : va_Nw (.castable r.1 E) s) (hv : w v = some (tv, .inr (ci, vs))) (hc : vwCl[ci]? = some r) {i : Int32} (j : Nat) (hi : i = nI j) (hj : j < n) (hn : n < 2 ^ 31) (hdg : decode cc pc = .ok (.aastore, 1))
    (kk : ∀ (H1 : Heap) (locs1 : List Loc) (w1 : dk_H), w1 = va_up w a (some (t, dk_ca G ka n (va_up f j (some v)))) → dk_P G w1 H1 → dk_S G H0 H1 locs1 → W p l e R s m args below meth c H1 locs1 cells slots Q (F0 m (pc + 1) ls rest)) : W p l e R s m args below meth c H locs cells slots Q (F0 m pc ls (.ref v :: .int i :: .ref a :: rest)) := by
  have ec : i.toNatClampNeg = j := by rw [hi]; exact nI_clamp (by omega)
  have hge := (hP a t _ ha).1
  have hin := dk_in hi hj hn
  have hlt : i.toNatClampNeg < n := Nat.not_le.mp fun q => hin (Or.inr q)
  have h0 : ¬ i < 0 := fun q => hin (Or.inl q)
  obtain ⟨-, r', hr', cellV, g1, g2, g3, -⟩ := hP v tv _ hv
  have hcls := (hK.1 ci r hc).2
  obtain ⟨kA, comp, k1, k2, k3, -⟩ := (hK.2 ka _ ht).2
  obtain ⟨kE, hkE, -⟩ := Vm.findClass_spec k3
  obtain ⟨c0, t1, f1, f2, f3⟩ := Cond.castable_spec (va_Nw.use (A := args) rfl hca)
  cases hcls.1.symm.trans f1
  cases k3.symm.trans f2
  obtain ⟨kC, hkC, -⟩ := hcls.2
  refine W.aast hexec hb (hP a t _ ha).2 (fun q h => by cases h) (fun h => by cases h) k1 k2 rfl hkE ⟨h0, by show _ < (arrV _ _ _).slots.size; rw [arrV_size]; exact hlt⟩ g1 (fun q h => by rw [g3] at h; cases h) (by rw [g2]; exact hkC) (by rw [g2]; exact f3) rfl rfl hdg fun H1 e z oq => ?_
  refine kk H1 _ _ rfl (hP.set hge ?_ oq) (hS.put z oq hge)
  show H1[a]? = some (vp_cell _ _)
  rw [e]
  rw [vp_cell_q, vp_cell_q, arrV_store]
  congr 2
  funext q
  rw [ec]
  by_cases hq : q = j
  · subst hq
    simp [updV, va_up, va_rf]
  · simp [updV, va_up, hq]
theorem dk_any {E : String} {ci : Nat} {r : vw_C} {fs : List Value} (hK : dk_K G s) (hP : dk_P G w H) (he : w a = some (t, .inr (ci, fs))) (hc : vwCl[ci]? = some r) (hca : va_Nw (.castable r.1 E) s) : va_Any E s H a := by
  refine va_rAny hK (hP.one he) (q0 := 0) rfl hc (fun comp c0 h1 h2 => ?_)
  obtain ⟨c1, c2, f1, f2, f3⟩ := Cond.castable_spec (va_Nw.use (A := #[]) rfl hca)
  cases h2.symm.trans f1
  cases h1.symm.trans f2
  exact f3
/-- arraycopy of n first elements, in a method that has written nothing yet -/
theorem dk_copyM {ta : Nat} (hexec : p.tables.exec = Jvm.exec) (hb : c.code = cc) (hml : c.maxLocals = ls.size) {own : String} {index : Nat} (hown : s.vm.findClass own = some m.cls) (hlink : (Cond.methodLink own index arraycopyName).before args s = true) (hnat : (Cond.native arraycopyName).before args s = true) (hstat : (Cond.static arraycopyName).before args s = true) (hini : (Cond.initialized "java/lang/System").before args s = true)
    (hK : dk_K G s) (hP : dk_P G w H) (hS : dk_S G H0 H []) {a0 n0 n1 : Nat} {f g : Nat → Option Nat} (ha0 : w a0 = some (ta, dk_ca G 5 n0 f)) (ha1 : w a = some (t, dk_ca G 5 n1 g)) (hne : a0 ≠ a) (n : Nat) (hn : n < 2 ^ 31) (h4 : n ≤ n0) (h5 : n ≤ n1) (hel : ∀ i : Nat, i < n → ∀ y : Nat, f i = some y → va_Any dk_nO s H y)
    (hframes : 1 ≤ R.frames) (hlocals : (rest.map fun v => v.category).sum + (nativeFrameWords "java/lang/System" "arraycopy" 5 + 11) ≤ R.locals) (hdg : decode cc pc = .ok (.invokestatic index, 3))
    (kk : ∀ (H1 : Heap) (locs1 : List Loc) (w1 : dk_H), w1 = va_up w a (some (t, dk_ca G 5 n1 (va_cpy f g 0 0 n))) → dk_P G w1 H1 → dk_S G H0 H1 locs1 → W p l e R s m args below meth c H1 locs1 cells slots Q (F0 m (pc + 3) ls rest)) : W p l e R s m args below meth c H [] cells slots Q (F0 m pc ls (.int (nI n) :: .int (nI 0) :: .ref a :: .int (nI 0) :: .ref a0 :: rest)) := by
  have e0 : (nI 0).toNatClampNeg = 0 := nI_clamp (by decide)
  have en : (nI n).toNatClampNeg = n := nI_clamp hn
  have hP2 : va_P G.1 vwCl [(a0, dk_ca G 5 n0 f), (a, dk_ca G 5 n1 g)] H := fun k q hk => by
    match k, hk with
    | 0, hk => cases hk; exact (hP a0 ta _ ha0).2
    | 1, hk => cases hk; exact (hP a t _ ha1).2
    | k + 2, hk => simp at hk
  have hD : va_D (fun q => q = a0 ∨ q = a) [(a0, dk_ca G 5 n0 f), (a, dk_ca G 5 n1 g)] := by
    refine ⟨fun i j x y hi hj hxy => ?_, fun k q hk => ?_⟩
    · match i, j, hi, hj with
      | 0, 0, _, _ => rfl
      | 1, 1, _, _ => rfl
      | 0, 1, hi, hj => cases hi; cases hj; exact absurd hxy hne
      | 1, 0, hi, hj => cases hi; cases hj; exact absurd hxy.symm hne
      | i + 2, _, hi, _ => simp at hi
      | _, j + 2, _, hj => simp at hj
    · match k, hk with
      | 0, hk => cases hk; exact Or.inl rfl
      | 1, hk => cases hk; exact Or.inr rfl
      | k + 2, hk => simp at hk
  have hge0 := (hP a0 ta _ ha0).1
  have hge := (hP a t _ ha1).1
  refine va_copyM hexec hb hml hown hlink hnat hstat hini hK hP2 hD (va_S.rf (H0 := H)) 0 1 5 5 (E0 := dk_nO) (E1 := dk_nO) rfl rfl rfl rfl (nI_pos (by decide)) (nI_pos (by decide)) (nI_pos hn) (by rw [e0, en]; omega) (by rw [e0, en]; omega) (fun i hi y hy => hel i (by rw [en] at hi; exact hi) y (by rw [e0, Nat.zero_add] at hy; exact hy)) hframes hlocals hdg (fun H1 locs1 hP1 _ hS1 => ?_)
  rw [e0, en] at hP1
  have q0 : va_at G.1 vwCl (a0, dk_ca G 5 n0 f) H1 := hP1 0 _ rfl
  have q1 : va_at G.1 vwCl (a, dk_ca G 5 n1 (va_cpy f g 0 0 n)) H1 := hP1 1 _ rfl
  refine kk H1 locs1 _ rfl (fun b u x hb => ?_) ⟨Nat.le_trans hS.1 hS1.1, fun q z1 z2 => ?_, fun x hx => ?_⟩
  · by_cases hba : b = a
    · subst hba
      rw [dk_us] at hb
      cases hb
      exact ⟨hge, q1⟩
    · rw [dk_un hba] at hb
      by_cases hb0 : b = a0
      · subst hb0
        rw [ha0] at hb
        cases hb
        exact ⟨hge0, q0⟩
      · obtain ⟨y1, y2⟩ := hP b u x hb
        exact ⟨y1, y2.kept (hS1.2.1 b y2.lt (fun z => by rcases z with z | z; exact hb0 z; exact hba z))⟩
  · rw [hS1.2.1 q (Nat.lt_of_lt_of_le z1 hS.1) (fun z => z2 (by rcases z with z | z; rw [z]; exact hge0; rw [z]; exact hge))]
    exact hS.2.1 q z1 z2
  · rcases hS1.2.2 x hx with z | z
    · rw [z]; exact hge0
    · rw [z]; exact hge
end ALR
