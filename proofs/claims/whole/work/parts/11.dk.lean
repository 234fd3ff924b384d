/-! A SIMPLE HEAP: all cells that are made since the law began, as a function from addresses to a tag (ours, to tell cells apart) and a cell of the kit's worlds. -/
abbrev dk_H : Type := Nat → Option (Nat × va_E)
def dk_P (G : dk_G) (w : dk_H) (H : Heap) : Prop := ∀ (a t : Nat) (e : va_E), w a = some (t, e) → G.2.2.1 ≤ a ∧ va_at G.1 vwCl (a, e) H
theorem dk_us {α : Type} {w : Nat → α} {a : Nat} {v : α} : va_up w a v a = v := by simp [va_up]
theorem dk_un {α : Type} {w : Nat → α} {a b : Nat} {v : α} (h : b ≠ a) : va_up w a v b = w b := by simp [va_up, h]
/-- cells of two tags are two cells -/
theorem dk_ne {w : dk_H} {a b t u : Nat} {e f : va_E} (ha : w a = some (t, e)) (hb : w b = some (u, f)) (h : t ≠ u) : a ≠ b := by
  intro z
  subst z
  rw [ha] at hb
  cases hb
  exact h rfl
theorem dk_nn {w : dk_H} {a b : Nat} {x : Nat × va_E} (ha : w a = some x) (hb : w b = none) : a ≠ b := by
  intro z
  subst z
  rw [ha] at hb
  cases hb
theorem dk_keep {w w1 : dk_H} {a b t u : Nat} {e f : va_E} {x : Option (Nat × va_E)} (hw : w1 = va_up w a x) (ha : w a = some (t, e)) (hb : w b = some (u, f)) (h : u ≠ t) : w1 b = some (u, f) := by
  rw [hw, dk_un (dk_ne hb ha h)]
  exact hb
theorem dk_keepN {w w1 : dk_H} {a b u : Nat} {f : va_E} {x : Option (Nat × va_E)} (hw : w1 = va_up w a x) (ha : w a = none) (hb : w b = some (u, f)) : w1 b = some (u, f) := by
  rw [hw, dk_un (dk_nn hb ha)]
  exact hb
theorem dk_here {w w1 : dk_H} {a : Nat} {x : Option (Nat × va_E)} (hw : w1 = va_up w a x) : w1 a = x := by rw [hw, dk_us]
theorem dk_P.one {G : dk_G} {w : dk_H} {H : Heap} (hP : dk_P G w H) {a t : Nat} {e : va_E} (h : w a = some (t, e)) : va_P G.1 vwCl [(a, e)] H := by
  intro k q hk
  cases k with
  | zero =>
    cases hk
    exact (hP a t e h).2
  | succ k => simp at hk
theorem dk_P.lt {G : dk_G} {w : dk_H} {H : Heap} (hP : dk_P G w H) {a : Nat} {x : Nat × va_E} (h : w a = some x) : a < H.size := by
  obtain ⟨t, e⟩ := x
  exact (hP a t e h).2.lt
theorem dk_P.fresh {G : dk_G} {w : dk_H} {H : Heap} (hP : dk_P G w H) {a : Nat} (h : H.size ≤ a) : w a = none := by
  cases hw : w a with
  | none => rfl
  | some x => exact absurd (hP.lt hw) (by omega)
theorem dk_P.set {G : dk_G} {w : dk_H} {H H1 : Heap} (hP : dk_P G w H) {a t : Nat} {e : va_E} (hge : G.2.2.1 ≤ a) (he : va_at G.1 vwCl (a, e) H1) (oq : ∀ q : Nat, q ≠ a → H1[q]? = H[q]?) : dk_P G (va_up w a (some (t, e))) H1 := by
  intro b u f hb
  by_cases hba : b = a
  · subst hba
    rw [dk_us] at hb
    cases hb
    exact ⟨hge, he⟩
  · rw [dk_un hba] at hb
    obtain ⟨h1, h2⟩ := hP b u f hb
    exact ⟨h1, h2.kept (oq b hba)⟩
theorem dk_P.put {G : dk_G} {w : dk_H} {H H1 : Heap} (hP : dk_P G w H) {a t : Nat} {e : va_E} (hz : a = H.size) (hge : G.2.2.1 ≤ a) (he : va_at G.1 vwCl (a, e) H1) (oq : ∀ q : Nat, q < H.size → H1[q]? = H[q]?) : dk_P G (va_up w a (some (t, e))) H1 := by
  intro b u f hb
  by_cases hba : b = a
  · subst hba
    rw [dk_us] at hb
    cases hb
    exact ⟨hge, he⟩
  · rw [dk_un hba] at hb
    obtain ⟨h1, h2⟩ := hP b u f hb
    exact ⟨h1, h2.kept (oq b h2.lt)⟩
/-- the tag of a cell changed (ours to choose) -/
theorem dk_P.tag {G : dk_G} {w : dk_H} {H : Heap} (hP : dk_P G w H) {a t u : Nat} {e : va_E} (h : w a = some (t, e)) : dk_P G (va_up w a (some (u, e))) H := hP.set (hP a t e h).1 (hP a t e h).2 (fun _ _ => rfl)
/-! cells -/
abbrev dk_ci (G : dk_G) (n : Nat) (f : Nat → Int32) : va_E := .inl (G.2.1 0, n, .inl f)
abbrev dk_cl (G : dk_G) (n : Nat) (f : Nat → Int64) : va_E := .inl (G.2.1 1, n, .inr (.inl f))
abbrev dk_cz (G : dk_G) (n : Nat) (f : Nat → Int32) : va_E := .inl (G.2.1 2, n, .inl f)
/-- an array of references: of the k-th array class -/
abbrev dk_ca (G : dk_G) (k n : Nat) (f : Nat → Option Nat) : va_E := .inl (G.2.1 k, n, .inr (.inr (.inr (.inr f))))
/-- the array classes that the system makes; which class is which number: see dk_K -/
def dk_tys (G : dk_G) : List (ClassId × FieldType) := [(G.2.1 0, .int), (G.2.1 1, .long), (G.2.1 2, .boolean), (G.2.1 3, .object dk_nE), (G.2.1 4, .object dk_nL), (G.2.1 5, .object dk_nO)]
abbrev dk_K (G : dk_G) (U : State) : Prop := va_K G.1 vwCl (dk_tys G) U
abbrev dk_S (G : dk_G) (H0 H : Heap) (locs : List Loc) : Prop := va_S (dk_A G) H0 H locs
section DKR
variable {p : Program} {l : Launch} {e : Env} {R : Room} {s : State} {m : MethodId} {args : Array Value} {below : List Frame} {meth : Method} {c : Code} {H : Heap} {locs : List Loc} {cells slots : Nat} {Q : State → Prop}
variable {cc : ByteArray} {pc : Nat} {ls : Array Slot} {rest : List Value} {G : dk_G} {w : dk_H} {a t : Nat} {H0 : Heap}
theorem dk_get (hexec : p.tables.exec = Jvm.exec) (hb : c.code = cc) {own ref C : String} {T : u_T} {N ci index : Nat} {Ts : List Cond} (hts : ∀ w ∈ Ts, w.before args s = true) (hin : ∀ w ∈ u_ws C T N, w ∈ Ts) (hown : s.vm.findClass own = some m.cls) (hK : dk_K G s) (hP : dk_P G w H) {fs : List Value} (he : w a = some (t, .inr (ci, fs))) (hc : vwCl[ci]? = some (C, T, N)) (k : Nat) (hk : k < N) (hlink : (Cond.fieldLink own index ref (T k).2.1 (T k).2.2.1).before args s = true) (hsame : ∀ x, s.fieldFound? (T k).1 (T k).2.1 (T k).2.2.1 = some x → s.fieldFound? ref (T k).2.1 (T k).2.2.1 = some x) {v : Value} (hv : fs[k]? = some v) (hdg : decode cc pc = .ok (.getfield index, 3))
    (kk : W p l e R s m args below meth c H locs cells slots Q (F0 m (pc + 3) ls (v :: rest))) : W p l e R s m args below meth c H locs cells slots Q (F0 m pc ls (.ref a :: rest)) :=
  va_get hexec hb hts hin hown hK (hP.one he) 0 rfl hc k hk hlink hsame hv hdg kk
theorem dk_getN (hexec : p.tables.exec = Jvm.exec) (hb : c.code = cc) {own ref C host : String} {T : u_T} {N ci index : Nat} {Ts : List Cond} (hts : ∀ w ∈ Ts, w.before args s = true) (hin : ∀ w ∈ u_ws C T N, w ∈ Ts) (hown : s.vm.findClass own = some m.cls) (hK : dk_K G s) (hP : dk_P G w H) {fs : List Value} (he : w a = some (t, .inr (ci, fs))) (hc : vwCl[ci]? = some (C, T, N)) (k : Nat) (hk : k < N) (hlink : (Cond.fieldLinkNest own index ref (T k).2.1 (T k).2.2.1 host).before args s = true) (hsame : ∀ x, s.fieldFound? (T k).1 (T k).2.1 (T k).2.2.1 = some x → s.fieldFound? ref (T k).2.1 (T k).2.2.1 = some x) {v : Value} (hv : fs[k]? = some v) (hdg : decode cc pc = .ok (.getfield index, 3))
    (kk : W p l e R s m args below meth c H locs cells slots Q (F0 m (pc + 3) ls (v :: rest))) : W p l e R s m args below meth c H locs cells slots Q (F0 m pc ls (.ref a :: rest)) :=
  va_getN hexec hb hts hin hown hK (hP.one he) 0 rfl hc k hk hlink hsame hv hdg kk
theorem dk_put (hexec : p.tables.exec = Jvm.exec) (hb : c.code = cc) {own ref C : String} {T : u_T} {N ci index : Nat} {Ts : List Cond} (hts : ∀ w ∈ Ts, w.before args s = true) (hin : ∀ w ∈ u_ws C T N, w ∈ Ts) (ty0 : Nat → FieldType) (hty : ∀ k, k < N → parseFieldDescriptor (T k).2.2.1 = some (ty0 k)) (hnm : ∀ a, a < N → ∀ b, b < N → a ≠ b → (T a).2.1 ≠ (T b).2.1) (hown : s.vm.findClass own = some m.cls) (hK : dk_K G s) (hP : dk_P G w H) (hS0 : dk_S G H0 H locs) {fs : List Value} (he : w a = some (t, .inr (ci, fs))) (hc : vwCl[ci]? = some (C, T, N)) (k : Nat) (hk : k < N) (hlink : (Cond.fieldLink own index ref (T k).2.1 (T k).2.2.1).before args s = true) (hsame : ∀ x, s.fieldFound? (T k).1 (T k).2.1 (T k).2.2.1 = some x → s.fieldFound? ref (T k).2.1 (T k).2.2.1 = some x) (hfin : (T k).2.2.2 = false) {ty : FieldType} {v : Value} (hd : parseFieldDescriptor (T k).2.2.1 = some ty) (hn : narrow ty v = v) (hfit : fits ty v = true) (hl : k < fs.length)
    (hdg : decode cc pc = .ok (.putfield index, 3)) (kk : ∀ (H1 : Heap) (locs1 : List Loc) (w1 : dk_H), w1 = va_up w a (some (t, .inr (ci, fs.set k v))) → dk_P G w1 H1 → dk_S G H0 H1 locs1 → W p l e R s m args below meth c H1 locs1 cells slots Q (F0 m (pc + 3) ls rest)) : W p l e R s m args below meth c H locs cells slots Q (F0 m pc ls (v :: .ref a :: rest)) := by
  have hap := va_apart (own := own) hts hin ty0 hty hnm hK hc
  obtain ⟨hge, r, h1, cell, q1, q2, q3, q4⟩ := hP a t _ he
  have hr : r = (C, T, N) := Option.some.inj (h1.symm.trans hc)
  subst hr
  obtain ⟨hS, hfc, kC, hkC, hkind⟩ := hK.1 ci _ hc
  obtain ⟨cf, kf, fi, f, hi, hsl⟩ := hS k hk
  have hlay := hts _ (hin _ (u_in_lay hk))
  unfold u_lay at hlay
  rw [if_neg (by rw [hfin]; decide)] at hlay
  have hst := (u_facts hfc hkC (u_lays hts hin hk) hi).1
  have h6 := u_store hfc hkC hkind hlay hi hd hn hfit
  refine W.putK hexec hb (f := f) ⟨hown, hlink, ⟨_, _, _, hsame _ hi⟩, hst⟩ (by rw [q2]; exact h6) q1 q3 (by rw [hsl]; exact k2_hasslot (q4 k hk)) rfl rfl hdg fun H' e1 e2 e3 => ?_
  rw [hsl] at e1 ⊢
  exact kk H' _ _ rfl (hP.set hge ⟨_, hc, t_OB.to (V := updV (vp_V fs) k v) ⟨_, e1, q2, q3, t_set q4 hap hk v⟩ (fun j _ => vp_updV_set hl v j)⟩ e3) (hS0.put e2 e3 hge)
theorem dk_putF (hexec : p.tables.exec = Jvm.exec) (hb : c.code = cc) {own ref C : String} {T : u_T} {N ci index : Nat} {Ts : List Cond} (hts : ∀ w ∈ Ts, w.before args s = true) (hin : ∀ w ∈ u_ws C T N, w ∈ Ts) (ty0 : Nat → FieldType) (hty : ∀ k, k < N → parseFieldDescriptor (T k).2.2.1 = some (ty0 k)) (hnm : ∀ a, a < N → ∀ b, b < N → a ≠ b → (T a).2.1 ≠ (T b).2.1) (hown : s.vm.findClass own = some m.cls) (hK : dk_K G s) (hP : dk_P G w H) (hS0 : dk_S G H0 H locs) {fs : List Value} (he : w a = some (t, .inr (ci, fs))) (hc : vwCl[ci]? = some (C, T, N)) (k : Nat) (hk : k < N) (hlink : (Cond.fieldLink own index ref (T k).2.1 (T k).2.2.1).before args s = true) (hsame : ∀ x, s.fieldFound? (T k).1 (T k).2.1 (T k).2.2.1 = some x → s.fieldFound? ref (T k).2.1 (T k).2.2.1 = some x) (hfin : (T k).2.2.2 = true) (hin2 : meth.name = "<init>") (hdecl : (T k).1 = own) {ty : FieldType} {v : Value} (hd : parseFieldDescriptor (T k).2.2.1 = some ty) (hn : narrow ty v = v) (hfit : fits ty v = true) (hl : k < fs.length)
    (hdg : decode cc pc = .ok (.putfield index, 3)) (kk : ∀ (H1 : Heap) (locs1 : List Loc) (w1 : dk_H), w1 = va_up w a (some (t, .inr (ci, fs.set k v))) → dk_P G w1 H1 → dk_S G H0 H1 locs1 → W p l e R s m args below meth c H1 locs1 cells slots Q (F0 m (pc + 3) ls rest)) : W p l e R s m args below meth c H locs cells slots Q (F0 m pc ls (v :: .ref a :: rest)) := by
  have hap := va_apart (own := own) hts hin ty0 hty hnm hK hc
  obtain ⟨hge, r, h1, cell, q1, q2, q3, q4⟩ := hP a t _ he
  have hr : r = (C, T, N) := Option.some.inj (h1.symm.trans hc)
  subst hr
  obtain ⟨hS, hfc, kC, hkC, hkind⟩ := hK.1 ci _ hc
  obtain ⟨cf, kf, fi, f, hi, hsl⟩ := hS k hk
  have hlay := hts _ (hin _ (u_in_lay hk))
  unfold u_lay at hlay
  rw [if_pos hfin] at hlay
  have hst := (u_facts hfc hkC (u_lays hts hin hk) hi).1
  have hcf : m.cls = cf := by
    obtain ⟨_, _, c', _, _, _, -, -, hf', -, -, -, hown2, -⟩ := Cond.laysFinal_spec hlay
    have e1 : c' = cf := by have := hi.symm.trans hf'; simp at this; exact this.1.symm
    rw [hdecl] at hown2
    rw [← e1]; exact Option.some.inj (hown.symm.trans hown2)
  have h6 := u_fits hfc hkC hkind (Or.inr hlay) hi hd hn hfit
  refine W.putFinK hexec hb hown hlink (hsame _ hi) hst hcf hin2 (by rw [q2]; exact h6) q1 q3 (by rw [hsl]; exact k2_hasslot (q4 k hk)) rfl rfl hdg fun H' e1 e2 e3 => ?_
  rw [hsl] at e1 ⊢
  exact kk H' _ _ rfl (hP.set hge ⟨_, hc, t_OB.to (V := updV (vp_V fs) k v) ⟨_, e1, q2, q3, t_set q4 hap hk v⟩ (fun j _ => vp_updV_set hl v j)⟩ e3) (hS0.put e2 e3 hge)
theorem dk_in {i : Int32} {j n : Nat} (hi : i = nI j) (hj : j < n) (hn : n < 2 ^ 31) : vp_in i n := by rw [hi]; exact vp_in_nI hj hn
theorem dk_iald (hexec : p.tables.exec = Jvm.exec) (hb : c.code = cc) (hK : dk_K G s) (hP : dk_P G w H) {n : Nat} {f : Nat → Int32} (ha : w a = some (t, dk_ci G n f)) {i : Int32} (j : Nat) (hi : i = nI j) (hj : j < n) (hn : n < 2 ^ 31) (hdg : decode cc pc = .ok (.iaload, 1))
    (kk : W p l e R s m args below meth c H locs cells slots Q (F0 m (pc + 1) ls (.int (f j) :: rest))) : W p l e R s m args below meth c H locs cells slots Q (F0 m pc ls (.int i :: .ref a :: rest)) := by
  have ec : i.toNatClampNeg = j := by rw [hi]; exact nI_clamp (by omega)
  exact va_iald hexec hb hK (hP.one ha) 0 0 rfl rfl (dk_in hi hj hn) hdg (by rw [ec]; exact kk)
theorem dk_zald (hexec : p.tables.exec = Jvm.exec) (hb : c.code = cc) (hK : dk_K G s) (hP : dk_P G w H) {n : Nat} {f : Nat → Int32} (ha : w a = some (t, dk_cz G n f)) {i : Int32} (j : Nat) (hi : i = nI j) (hj : j < n) (hn : n < 2 ^ 31) (hdg : decode cc pc = .ok (.baload, 1))
    (kk : W p l e R s m args below meth c H locs cells slots Q (F0 m (pc + 1) ls (.int (f j) :: rest))) : W p l e R s m args below meth c H locs cells slots Q (F0 m pc ls (.int i :: .ref a :: rest)) := by
  have ec : i.toNatClampNeg = j := by rw [hi]; exact nI_clamp (by omega)
  exact va_zald hexec hb hK (hP.one ha) 0 2 rfl rfl (dk_in hi hj hn) hdg (by rw [ec]; exact kk)
theorem dk_lald (hexec : p.tables.exec = Jvm.exec) (hb : c.code = cc) (hK : dk_K G s) (hP : dk_P G w H) {n : Nat} {f : Nat → Int64} (ha : w a = some (t, dk_cl G n f)) {i : Int32} (j : Nat) (hi : i = nI j) (hj : j < n) (hn : n < 2 ^ 31) (hdg : decode cc pc = .ok (.laload, 1))
    (kk : W p l e R s m args below meth c H locs cells slots Q (F0 m (pc + 1) ls (.long (f j) :: rest))) : W p l e R s m args below meth c H locs cells slots Q (F0 m pc ls (.int i :: .ref a :: rest)) := by
  have ec : i.toNatClampNeg = j := by rw [hi]; exact nI_clamp (by omega)
  exact va_lald hexec hb hK (hP.one ha) 0 1 rfl rfl (dk_in hi hj hn) hdg (by rw [ec]; exact kk)
theorem dk_aald (hexec : p.tables.exec = Jvm.exec) (hb : c.code = cc) (hK : dk_K G s) (hP : dk_P G w H) {ka n : Nat} {C : String} {f : Nat → Option Nat} (ha : w a = some (t, dk_ca G ka n f)) (ht : (dk_tys G)[ka]? = some (G.2.1 ka, .object C)) {i : Int32} (j : Nat) {r : Option Nat} (hi : i = nI j) (hj : j < n) (hn : n < 2 ^ 31) (hr : f j = r) (hdg : decode cc pc = .ok (.aaload, 1))
    (kk : W p l e R s m args below meth c H locs cells slots Q (F0 m (pc + 1) ls (va_rf r :: rest))) : W p l e R s m args below meth c H locs cells slots Q (F0 m pc ls (.int i :: .ref a :: rest)) := by
  have ec : i.toNatClampNeg = j := by rw [hi]; exact nI_clamp (by omega)
  subst hr
  exact va_aldq hexec hb hK (hP.one ha) 0 ka rfl ht (dk_in hi hj hn) hdg (by rw [ec]; exact kk)
theorem dk_alen (hexec : p.tables.exec = Jvm.exec) (hb : c.code = cc) (hK : dk_K G s) (hP : dk_P G w H) {cA : ClassId} {x : vp_A} (ha : w a = some (t, .inl (cA, x))) (t0 : Nat) {ty : FieldType} (ht : (dk_tys G)[t0]? = some (cA, ty)) (hdg : decode cc pc = .ok (.arraylength, 1))
    (kk : W p l e R s m args below meth c H locs cells slots Q (F0 m (pc + 1) ls (.int (nI x.1) :: rest))) : W p l e R s m args below meth c H locs cells slots Q (F0 m pc ls (.ref a :: rest)) :=
  va_alen hexec hb hK (hP.one ha) 0 t0 rfl ht rfl hdg kk
theorem dk_iast (hexec : p.tables.exec = Jvm.exec) (hb : c.code = cc) (hK : dk_K G s) (hP : dk_P G w H) (hS : dk_S G H0 H locs) {n : Nat} {f : Nat → Int32} (ha : w a = some (t, dk_ci G n f)) {i x : Int32} (j : Nat) (hi : i = nI j) (hj : j < n) (hn : n < 2 ^ 31) (hdg : decode cc pc = .ok (.iastore, 1))
    (kk : ∀ (H1 : Heap) (locs1 : List Loc) (w1 : dk_H), w1 = va_up w a (some (t, dk_ci G n (upd f j x))) → dk_P G w1 H1 → dk_S G H0 H1 locs1 → W p l e R s m args below meth c H1 locs1 cells slots Q (F0 m (pc + 1) ls rest)) : W p l e R s m args below meth c H locs cells slots Q (F0 m pc ls (.int x :: .int i :: .ref a :: rest)) := by
  have ec : i.toNatClampNeg = j := by rw [hi]; exact nI_clamp (by omega)
  have hge := (hP a t _ ha).1
  refine W.iast hexec hb (hP a t _ ha).2 ((hK.2 0 _ rfl).1 n (fun j => .int (f j))) (fun q => by cases q) (by show ¬ (i < 0 ∨ (arrV _ _ _).slots.size ≤ _); rw [arrV_size]; exact dk_in hi hj hn) rfl rfl hdg fun H1 e z oq => ?_
  refine kk H1 _ _ rfl (hP.set hge ?_ oq) (hS.put z oq hge)
  show H1[a]? = some (vp_cell _ _)
  rw [e]
  rw [vp_cell_i, vp_cell_i, arrV_store]
  congr 2
  funext q
  rw [ec]
  by_cases hq : q = j
  · subst hq
    simp [updV, upd]
  · simp [updV, upd, hq]
theorem dk_zast (hexec : p.tables.exec = Jvm.exec) (hb : c.code = cc) (hK : dk_K G s) (hP : dk_P G w H) (hS : dk_S G H0 H locs) {n : Nat} {f : Nat → Int32} (ha : w a = some (t, dk_cz G n f)) {i x : Int32} (j : Nat) (hi : i = nI j) (hj : j < n) (hn : n < 2 ^ 31) (hx : vp_nar .boolean x = x) (hdg : decode cc pc = .ok (.bastore, 1))
    (kk : ∀ (H1 : Heap) (locs1 : List Loc) (w1 : dk_H), w1 = va_up w a (some (t, dk_cz G n (upd f j x))) → dk_P G w1 H1 → dk_S G H0 H1 locs1 → W p l e R s m args below meth c H1 locs1 cells slots Q (F0 m (pc + 1) ls rest)) : W p l e R s m args below meth c H locs cells slots Q (F0 m pc ls (.int x :: .int i :: .ref a :: rest)) := by
  have ec : i.toNatClampNeg = j := by rw [hi]; exact nI_clamp (by omega)
  have hge := (hP a t _ ha).1
  refine W.zast hexec hb (hP a t _ ha).2 ((hK.2 2 _ rfl).1 n (fun j => .int (f j))) (fun q => by cases q) (by show ¬ (i < 0 ∨ (arrV _ _ _).slots.size ≤ _); rw [arrV_size]; exact dk_in hi hj hn) rfl rfl hdg fun H1 e z oq => ?_
  refine kk H1 _ _ rfl (hP.set hge ?_ oq) (hS.put z oq hge)
  show H1[a]? = some (vp_cell _ _)
  rw [e]
  rw [vp_cell_i, vp_cell_i, arrV_store]
  congr 2
  funext q
  rw [ec]
  by_cases hq : q = j
  · subst hq
    have e2 : narrow .boolean (.int x) = .int x := by
      have h := hx
      simp only [vp_nar, narrow] at h ⊢
      first | (rw [h]) | (simp at h ⊢; exact h) | (simpa using h)
    simp [updV, upd, e2]
    try (first | exact e2 | rfl)
  · simp [updV, upd, hq]
theorem dk_last (hexec : p.tables.exec = Jvm.exec) (hb : c.code = cc) (hK : dk_K G s) (hP : dk_P G w H) (hS : dk_S G H0 H locs) {n : Nat} {f : Nat → Int64} (ha : w a = some (t, dk_cl G n f)) {i : Int32} {x : Int64} (j : Nat) (hi : i = nI j) (hj : j < n) (hn : n < 2 ^ 31) (hdg : decode cc pc = .ok (.lastore, 1))
    (kk : ∀ (H1 : Heap) (locs1 : List Loc) (w1 : dk_H), w1 = va_up w a (some (t, dk_cl G n (vp_updL f j x))) → dk_P G w1 H1 → dk_S G H0 H1 locs1 → W p l e R s m args below meth c H1 locs1 cells slots Q (F0 m (pc + 1) ls rest)) : W p l e R s m args below meth c H locs cells slots Q (F0 m pc ls (.long x :: .int i :: .ref a :: rest)) := by
  have ec : i.toNatClampNeg = j := by rw [hi]; exact nI_clamp (by omega)
  have hge := (hP a t _ ha).1
  refine W.last hexec hb (hP a t _ ha).2 ((hK.2 1 _ rfl).1 n (fun j => .long (f j))) (fun q => by cases q) (by show ¬ (i < 0 ∨ (arrV _ _ _).slots.size ≤ _); rw [arrV_size]; exact dk_in hi hj hn) rfl rfl hdg fun H1 e z oq => ?_
  refine kk H1 _ _ rfl (hP.set hge ?_ oq) (hS.put z oq hge)
  show H1[a]? = some (vp_cell _ _)
  rw [e]
  rw [vp_cell_l, vp_cell_l, arrV_store]
  congr 2
  funext q
  rw [ec]
  by_cases hq : q = j
  · subst hq
    simp [updV, vp_updL]
  · simp [updV, vp_updL, hq]
/-- a reference into an array of its own class -/
theorem dk_aast (hexec : p.tables.exec = Jvm.exec) (hb : c.code = cc) (hK : dk_K G s) (hP : dk_P G w H) (hS : dk_S G H0 H locs) {ka n v ci tv : Nat} {r : vw_C} {vs : List Value} {f : Nat → Option Nat} (ha : w a = some (t, dk_ca G ka n f)) (ht : (dk_tys G)[ka]? = some (G.2.1 ka, .object r.1)) (hv : w v = some (tv, .inr (ci, vs))) (hc : vwCl[ci]? = some r) {i : Int32} (j : Nat) (hi : i = nI j) (hj : j < n) (hn : n < 2 ^ 31) (hdg : decode cc pc = .ok (.aastore, 1))
    (kk : ∀ (H1 : Heap) (locs1 : List Loc) (w1 : dk_H), w1 = va_up w a (some (t, dk_ca G ka n (va_up f j (some v)))) → dk_P G w1 H1 → dk_S G H0 H1 locs1 → W p l e R s m args below meth c H1 locs1 cells slots Q (F0 m (pc + 1) ls rest)) : W p l e R s m args below meth c H locs cells slots Q (F0 m pc ls (.ref v :: .int i :: .ref a :: rest)) := by
  have ec : i.toNatClampNeg = j := by rw [hi]; exact nI_clamp (by omega)
  have hge := (hP a t _ ha).1
  have hin := dk_in hi hj hn
  have hlt : i.toNatClampNeg < n := Nat.not_le.mp fun q => hin (Or.inr q)
  have h0 : ¬ i < 0 := fun q => hin (Or.inl q)
  obtain ⟨-, r', hr', cellV, g1, g2, g3, -⟩ := hP v tv _ hv
  have hcls := (hK.1 ci r hc).2
  obtain ⟨kA, comp, k1, k2, k3, -⟩ := (hK.2 ka _ ht).2
  have hcomp : comp = G.1.1 ci := Option.some.inj (k3.symm.trans hcls.1)
  subst hcomp
  obtain ⟨kC, hkC, -⟩ := hcls.2
  refine W.aast hexec hb (hP a t _ ha).2 (fun q h => by cases h) (fun h => by cases h) k1 k2 rfl hkC ⟨h0, by show _ < (arrV _ _ _).slots.size; rw [arrV_size]; exact hlt⟩ g1 (fun q h => by rw [g3] at h; cases h) (by rw [g2]; exact hkC) (by rw [g2]; exact va_assign hcls) rfl rfl hdg fun H1 e z oq => ?_
  refine kk H1 _ _ rfl (hP.set hge ?_ oq) (hS.put z oq hge)
  show H1[a]? = some (vp_cell _ _)
  rw [e]
  rw [vp_cell_q, vp_cell_q, arrV_store]
  congr 2
  funext q
  rw [ec]
  by_cases hq : q = j
  · subst hq
    simp [updV, va_up, va_rf]
  · simp [updV, va_up, hq]
theorem dk_aastN (hexec : p.tables.exec = Jvm.exec) (hb : c.code = cc) (hK : dk_K G s) (hP : dk_P G w H) (hS : dk_S G H0 H locs) {ka n : Nat} {C : String} {f : Nat → Option Nat} (ha : w a = some (t, dk_ca G ka n f)) (ht : (dk_tys G)[ka]? = some (G.2.1 ka, .object C)) {i : Int32} (j : Nat) (hi : i = nI j) (hj : j < n) (hn : n < 2 ^ 31) (hdg : decode cc pc = .ok (.aastore, 1))
    (kk : ∀ (H1 : Heap) (locs1 : List Loc) (w1 : dk_H), w1 = va_up w a (some (t, dk_ca G ka n (va_up f j none))) → dk_P G w1 H1 → dk_S G H0 H1 locs1 → W p l e R s m args below meth c H1 locs1 cells slots Q (F0 m (pc + 1) ls rest)) : W p l e R s m args below meth c H locs cells slots Q (F0 m pc ls (.null :: .int i :: .ref a :: rest)) := by
  have ec : i.toNatClampNeg = j := by rw [hi]; exact nI_clamp (by omega)
  have hge := (hP a t _ ha).1
  refine va_WaastN (C := C) hexec hb (hP a t _ ha).2 ((hK.2 ka _ ht).1 n (fun j => va_rf (f j))) (fun h => by cases h) (by show ¬ (i < 0 ∨ (arrV _ _ _).slots.size ≤ _); rw [arrV_size]; exact dk_in hi hj hn) rfl rfl hdg fun H1 e z oq => ?_
  refine kk H1 _ _ rfl (hP.set hge ?_ oq) (hS.put z oq hge)
  show H1[a]? = some (vp_cell _ _)
  rw [e]
  rw [vp_cell_q, vp_cell_q, arrV_store]
  congr 2
  funext q
  rw [ec]
  by_cases hq : q = j
  · subst hq
    simp [updV, va_up, va_rf]
  · simp [updV, va_up, hq]
theorem dk_S.push {G : dk_G} {H0 H H1 : Heap} {locs : List Loc} (hS : dk_S G H0 H locs) (z1 : H1.size = H.size + 1) (o1 : ∀ q : Nat, q < H.size → H1[q]? = H[q]?) : dk_S G H0 H1 locs :=
  ⟨Nat.le_trans hS.1 (by omega), fun x h1 h2 => (o1 x (Nat.lt_of_lt_of_le h1 hS.1)).trans (hS.2.1 x h1 h2), hS.2.2⟩
/-- a new object; its tag is ours to choose -/
theorem dk_new {c0 : Code} (t : Nat) (hexec : p.tables.exec = Jvm.exec) (hb : c0.code = cc) {own C : String} {T : u_T} {N ci index : Nat} {Ts : List Cond} (hts : ∀ w ∈ Ts, w.before args s = true) (hin : ∀ w ∈ u_ws C T N, w ∈ Ts) (ty : Nat → FieldType) (hty : ∀ k, k < N → parseFieldDescriptor (T k).2.2.1 = some (ty k)) (hown : s.vm.findClass own = some m.cls) (hcl : (Cond.classLink own index C).before args s = true) (hinst : (Cond.instantiable C N).before args s = true) (hini : (Cond.initialized C).before args s = true)
    (hK : dk_K G s) (hP : dk_P G w H) (hS : dk_S G H0 H locs) (hA : G.2.2.1 ≤ H0.size) (hc : vwCl[ci]? = some (C, T, N)) {fs : List Value} (hfs : ∀ j, j < N → defaultValue (ty j) = vp_V fs j) (hcells : cells + 1 ≤ R.cells) (hslots : slots + N ≤ R.slots) (hdg : decode cc pc = .ok (.new index, 3))
    (kk : ∀ (q : Nat) (H1 : Heap) (w1 : dk_H), w q = none → w1 = va_up w q (some (t, .inr (ci, fs))) → dk_P G w1 H1 → dk_S G H0 H1 locs →
      W p l e R s m args below meth c0 H1 locs (cells + 1) (slots + N) Q (F0 m (pc + 3) ls (.ref q :: rest))) : W p l e R s m args below meth c0 H locs cells slots Q (F0 m pc ls rest) := by
  have hKn := hK.1 ci _ hc
  refine W.newcK hexec hb hown hcl hinst hini rfl hdg hcells hslots hKn.2.1 rfl fun H1 kC hkC e1 z1 o1 => ?_
  exact kk H.size H1 _ (hP.fresh (Nat.le_refl _)) rfl (hP.put rfl (Nat.le_trans hA hS.1) ⟨_, hc, (u_born ty hts hin hKn hkC e1 hty).to hfs⟩ o1) (dk_S.push hS z1 o1)
theorem dk_newa (t t0 : Nat) (hexec : p.tables.exec = Jvm.exec) (hb : c.code = cc) {atype : ArrayType} (harr : (Cond.arrayClass (newarray.typeOf atype)).before args s = true) {ty : FieldType} (hty : newarray.typeOf atype = ty) (hK : dk_K G s) (hP : dk_P G w H) (hS : dk_S G H0 H locs) (hA : G.2.2.1 ≤ H0.size)
    (ht : (dk_tys G)[t0]? = some (G.2.1 t0, ty)) (hprim : ∀ U cA, va_RA U cA ty → U.vm.findClass ("[" ++ ty.toString) = some cA)
    {n : Int32} {N' : Nat} {a0 : vp_A} (ha : ∀ cA : ClassId, vp_cell cA a0 = arrV cA N' (fun _ => defaultValue ty)) (hn : n = nI N') (hN : N' < 2 ^ 31) (hbytes : N' * componentBytes ty ≤ 536870912) (hcells : cells + 1 ≤ R.cells) (hslots : slots + N' ≤ R.slots) (hdg : decode cc pc = .ok (.newarray atype, 2))
    (kk : ∀ (q : Nat) (H1 : Heap) (w1 : dk_H), w q = none → w1 = va_up w q (some (t, .inl (G.2.1 t0, a0))) → dk_P G w1 H1 → dk_S G H0 H1 locs →
      W p l e R s m args below meth c H1 locs (cells + 1) (slots + N') Q (F0 m (pc + 2) ls (.ref q :: rest))) : W p l e R s m args below meth c H locs cells slots Q (F0 m pc ls (.int n :: rest)) := by
  subst hty
  refine va_newaK hexec hb harr rfl hdg rfl (by rw [hn]; exact nI_pos hN) (by rw [hn]; exact nI_clamp hN) hbytes hcells hslots rfl fun H1 cA e1 z1 o1 hAr hNm => ?_
  have hcA : cA = G.2.1 t0 := Option.some.inj (hNm.symm.trans (hprim s _ (hK.2 t0 _ ht).2))
  subst hcA
  refine kk H.size H1 _ (hP.fresh (Nat.le_refl _)) rfl (hP.put rfl (Nat.le_trans hA hS.1) ?_ o1) (dk_S.push hS z1 o1)
  show H1[H.size]? = some (vp_cell _ _)
  rw [ha]
  exact e1
theorem dk_newq (t ka : Nat) (hexec : p.tables.exec = Jvm.exec) (hb : c.code = cc) {own C : String} {index : Nat} (hown : s.vm.findClass own = some m.cls) (hclink : (Cond.classLink own index C).before args s = true) (hover : (Cond.arrayOver (.object C)).before args s = true) (hK : dk_K G s) (hP : dk_P G w H) (hS : dk_S G H0 H locs) (hA : G.2.2.1 ≤ H0.size)
    (ht : (dk_tys G)[ka]? = some (G.2.1 ka, .object C))
    {n : Int32} {N' : Nat} (hn : n = nI N') (hN : N' < 2 ^ 31) (hbytes : N' * 4 ≤ 536870912) (hcells : cells + 1 ≤ R.cells) (hslots : slots + N' ≤ R.slots) (hdg : decode cc pc = .ok (.anewarray index, 3))
    (kk : ∀ (q : Nat) (H1 : Heap) (w1 : dk_H), w q = none → w1 = va_up w q (some (t, dk_ca G ka N' (fun _ => none))) → dk_P G w1 H1 → dk_S G H0 H1 locs →
      W p l e R s m args below meth c H1 locs (cells + 1) (slots + N') Q (F0 m (pc + 3) ls (.ref q :: rest))) : W p l e R s m args below meth c H locs cells slots Q (F0 m pc ls (.int n :: rest)) := by
  have hn0 : ¬ n < 0 := by rw [hn]; exact nI_pos hN
  have ec : n.toNatClampNeg = N' := by rw [hn]; exact nI_clamp hN
  subst ec
  refine W.anew hexec hb hown hclink hover rfl hdg rfl hn0 hbytes hcells hslots fun cA kA comp f1 f2 f3 f4 => ?_
  generalize hH1 : H.push ({ cls := cA, slots := Array.replicate n.toNatClampNeg .null, vm := .none } : Cell) = H1
  have z1 : H1.size = H.size + 1 := by rw [← hH1, Array.size_push]
  have e1 : H1[H.size]? = some (arrV cA n.toNatClampNeg (fun _ => .null)) := by rw [← hH1, Array.getElem?_push_size, ← arrV_new]
  have o1 : ∀ q : Nat, q < H.size → H1[q]? = H[q]? := fun q hq => by rw [← hH1, Array.getElem?_push, if_neg (Nat.ne_of_lt hq)]
  obtain ⟨_, _, _, _, _, g4⟩ := (hK.2 ka _ ht).2
  have hcA : cA = G.2.1 ka := Option.some.inj (f1.symm.trans g4)
  subst hcA
  refine kk H.size H1 _ (hP.fresh (Nat.le_refl _)) rfl (hP.put rfl (Nat.le_trans hA hS.1) ?_ o1) (dk_S.push hS z1 o1)
  show H1[H.size]? = some (vp_cell _ _)
  rw [vp_cell_q]
  exact e1
end DKR
