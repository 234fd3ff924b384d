/-! what holds of the machine at the law's start: classes, array classes, statics, strings -/
theorem lw_tw {w : Cond} (i : Nat) (h : tables_1[i]? = some w) : w ∈ lw_tbl := List.mem_append_right _ (List.mem_of_getElem? h)
theorem lw_ll {args : Array Value} {s : State} {n d : String} {A : Nat → Prop} (hl : (Cond.laysStatic "java/lang/Throwable" n d).before args s = true) (hr : (Cond.isRef (.static "java/lang/Throwable" n d)).before args s = true) (hA : ∀ a : Nat, a < s.heap.size → ¬ A a) : dk_LS n d A s s.heap := by
  obtain ⟨c, k, i, f, a, cell, hc, hi, hst, ha, hcell, hs, hcls, hlt, hty⟩ := Cond.laysStatic_spec hl
  obtain ⟨v, hv, hvr⟩ := Cond.isRef_spec hr
  obtain ⟨hst', a', cell', ha', hcell', -, hslot⟩ := Term.static_spec hi hv
  cases ha.symm.trans ha'
  cases hcell.symm.trans hcell'
  exact ⟨c, k, i, f, a, cell, v, hc, hi, hst, ha, hcell, hs, hcls, hlt, hty, hslot, hvr, hA a (Array.getElem?_eq_some_iff.mp hcell).1⟩
theorem lw_kn {args : Array Value} {s : State} (hts : ∀ w ∈ wd_all, w.before args s = true) (k : Nat) : ∃ x : ClassId × (Nat → Nat), ∀ q : vw_C, vwCl[k]? = some q → u_Kn s q.1 q.2.1 q.2.2 x.1 x.2 := by
  match k with
  | 0 =>
    obtain ⟨c, i, h⟩ := u_known (C := kn_E) (T := kt_E) (N := 4) (n := 4) hts ki_E (hts _ wi_439)
    exact ⟨(c, i), fun q hq => by cases hq; exact h⟩
  | 1 =>
    obtain ⟨c, i, h⟩ := u_known (C := kn_V) (T := kt_V) (N := 2) (n := 2) hts ki_V (hts _ wi_65)
    exact ⟨(c, i), fun q hq => by cases hq; exact h⟩
  | 2 =>
    obtain ⟨c, i, h⟩ := u_known (C := kn_R) (T := kt_R) (N := 2) (n := 2) hts ki_R (hts _ wi_33)
    exact ⟨(c, i), fun q hq => by cases hq; exact h⟩
  | 3 =>
    obtain ⟨c, i, h⟩ := u_known (C := kn_U) (T := kt_U) (N := 2) (n := 2) hts ki_U (hts _ wi_172)
    exact ⟨(c, i), fun q hq => by cases hq; exact h⟩
  | 4 =>
    obtain ⟨c, i, h⟩ := u_known (C := kn_S) (T := kt_S) (N := 2) (n := 2) hts ki_S (hts _ wi_50)
    exact ⟨(c, i), fun q hq => by cases hq; exact h⟩
  | 5 =>
    obtain ⟨c, i, h⟩ := u_known (C := kn_K) (T := kt_K) (N := 12) (n := 12) hts ki_K (hts _ wi_25)
    exact ⟨(c, i), fun q hq => by cases hq; exact h⟩
  | 6 =>
    obtain ⟨c, i, h⟩ := u_known (C := kn_M) (T := kt_M) (N := 22) (n := 22) hts ki_M (hts _ wi_709)
    exact ⟨(c, i), fun q hq => by cases hq; exact h⟩
  | 7 =>
    obtain ⟨c, i, h⟩ := u_known (C := kn_A) (T := kt_A) (N := 3) (n := 3) hts ki_A (hts _ wi_71)
    exact ⟨(c, i), fun q hq => by cases hq; exact h⟩
  | k + 8 => exact ⟨(0, fun _ => 0), fun q hq => by simp [vwCl] at hq⟩
def lw_ty : List FieldType := [.int, .long, .boolean, .object dk_nE, .object dk_nL, .object dk_nO]
theorem lw_ao {args : Array Value} {s : State} {n : String} (h : (Cond.arrayOver (.object n)).before args s = true) : ∃ cA : ClassId, ArrOfT s cA (.object n) ∧ va_RA s cA (.object n) := by
  obtain ⟨comp, c, k, h1, -, h3, h4, h5⟩ := Cond.arrayOver_spec h
  exact ⟨c, fun N z => ⟨(fun k h => by cases h), k, h3, comp, h4⟩, k, comp, h3, h4, h1, h5⟩
theorem lw_ar {args : Array Value} {s : State} (hts : ∀ w ∈ lw_tbl, w.before args s = true) (k : Nat) : ∃ cA : ClassId, ∀ ty : FieldType, lw_ty[k]? = some ty → ArrOfT s cA ty ∧ va_RA s cA ty := by
  match k with
  | 0 =>
    obtain ⟨c, k, comp, h1, h2, h3⟩ := Cond.arrayClass_spec (hts (.arrayClass .int) (lw_tw 62 (by decide +kernel)))
    exact ⟨c, fun ty hq => by cases hq; exact ⟨fun N z => ⟨(fun k h => by cases h), k, h2, comp, h3⟩, h1⟩⟩
  | 1 =>
    obtain ⟨c, k, comp, h1, h2, h3⟩ := Cond.arrayClass_spec (hts (.arrayClass .long) (lw_tw 207 (by decide +kernel)))
    exact ⟨c, fun ty hq => by cases hq; exact ⟨fun N z => ⟨(fun k h => by cases h), k, h2, comp, h3⟩, h1⟩⟩
  | 2 =>
    obtain ⟨c, k, comp, h1, h2, h3⟩ := Cond.arrayClass_spec (hts (.arrayClass .boolean) (lw_tw 63 (by decide +kernel)))
    exact ⟨c, fun ty hq => by cases hq; exact ⟨fun N z => ⟨(fun k h => by cases h), k, h2, comp, h3⟩, h1⟩⟩
  | 3 =>
    obtain ⟨c, h⟩ := lw_ao (hts (.arrayOver (.object dk_nE)) (lw_tw 39 (by decide +kernel)))
    exact ⟨c, fun ty hq => by cases hq; exact h⟩
  | 4 =>
    obtain ⟨c, h⟩ := lw_ao (hts (.arrayOver (.object dk_nL)) (lw_tw 48 (by decide +kernel)))
    exact ⟨c, fun ty hq => by cases hq; exact h⟩
  | 5 =>
    obtain ⟨c, h⟩ := lw_ao (hts (.arrayOver (.object dk_nO)) (lw_tw 261 (by decide +kernel)))
    exact ⟨c, fun ty hq => by cases hq; exact h⟩
  | k + 6 => exact ⟨0, fun q hq => by simp [lw_ty] at hq⟩
theorem lw_sm : ∀ q ∈ dk_str, Cond.stringRef "RunKeeper" q.1 q.2 ∈ lw_tbl := by
  unfold dk_str
  refine List.forall_mem_cons.mpr ⟨lw_tw 384 (by decide +kernel), List.forall_mem_cons.mpr ⟨lw_tw 432 (by decide +kernel), List.forall_mem_cons.mpr ⟨lw_tw 500 (by decide +kernel), List.forall_mem_cons.mpr ⟨lw_tw 514 (by decide +kernel), List.forall_mem_cons.mpr ⟨lw_tw 515 (by decide +kernel), List.forall_mem_cons.mpr ⟨lw_tw 524 (by decide +kernel), List.forall_mem_cons.mpr ⟨lw_tw 580 (by decide +kernel), List.forall_mem_cons.mpr ⟨lw_tw 596 (by decide +kernel), List.forall_mem_cons.mpr ⟨lw_tw 614 (by decide +kernel), List.forall_mem_cons.mpr ⟨lw_tw 665 (by decide +kernel), List.forall_mem_cons.mpr ⟨lw_tw 694 (by decide +kernel), List.forall_mem_cons.mpr ⟨lw_tw 695 (by decide +kernel), List.forall_mem_cons.mpr ⟨lw_tw 703 (by decide +kernel), fun _ h => absurd h List.not_mem_nil⟩⟩⟩⟩⟩⟩⟩⟩⟩⟩⟩⟩⟩
set_option maxHeartbeats 4000000 in
set_option maxRecDepth 100000 in
theorem lw_f1 {args : Array Value} {s : State} {A : Nat → Prop} (hts : ∀ w ∈ lw_tbl, w.before args s = true) (hwd : ∀ w ∈ wd_all, w.before args s = true) (hgv : (Jvm.Cond.and given_1 narrow_1).before args s = true) (hA : ∀ a : Nat, a < s.heap.size → ¬ A a) : ∃ t : Nat, va_Z "RunKeeper$Run" "FACTORS" "[I" (.ref t) A s s.heap ∧ va_T .int t 3 (fun j => .int (dk_fac j)) A s s.heap := by
  have hs := flat_of_before _ hgv
  obtain ⟨t, h1, h2⟩ := va_Tof (args := args) (s := s) (tm := .static "RunKeeper$Run" "FACTORS" "[I") (ty := .int) (N := 3) (f := fun j => .int (dk_fac j)) (A := A) (by decide) (hs _ (by decide +kernel)) (va_eqt (z := 3) (hs _ (by decide +kernel))) (fun j hj => by
    match j, hj with
    | 0, _ => exact va_eqt (z := -1640531535) (hs (.eq (.elem (.static "RunKeeper$Run" "FACTORS" "[I") (.int 0)) (.int (-1640531535))) (by decide +kernel))
    | 1, _ => exact va_eqt (z := -2048144777) (hs (.eq (.elem (.static "RunKeeper$Run" "FACTORS" "[I") (.int 1)) (.int (-2048144777))) (by decide +kernel))
    | 2, _ => exact va_eqt (z := -1028477379) (hs (.eq (.elem (.static "RunKeeper$Run" "FACTORS" "[I") (.int 2)) (.int (-1028477379))) (by decide +kernel))
    | k + 3, h => exact absurd h (by omega)) hA
  exact ⟨t, va_Zof (hts _ (lw_tw 196 (by decide +kernel))) (hwd _ wi_15) h1 hA, h2⟩
set_option maxHeartbeats 4000000 in
set_option maxRecDepth 100000 in
theorem lw_f2 {args : Array Value} {s : State} {A : Nat → Prop} (hts : ∀ w ∈ lw_tbl, w.before args s = true) (hwd : ∀ w ∈ wd_all, w.before args s = true) (hgv : (Jvm.Cond.and given_1 narrow_1).before args s = true) (hA : ∀ a : Nat, a < s.heap.size → ¬ A a) : ∃ t : Nat, va_Z "java/util/ArrayList" "DEFAULTCAPACITY_EMPTY_ELEMENTDATA" "[Ljava/lang/Object;" (.ref t) A s s.heap ∧ va_T (.object "java/lang/Object") t 0 (fun _ => .null) A s s.heap := by
  have hs := flat_of_before _ hgv
  obtain ⟨t, h1, h2⟩ := va_Tof (args := args) (s := s) (tm := .static "java/util/ArrayList" "DEFAULTCAPACITY_EMPTY_ELEMENTDATA" "[Ljava/lang/Object;") (ty := .object "java/lang/Object") (N := 0) (f := fun _ => .null) (A := A) (by decide) (hs _ (by decide +kernel)) (va_eqt (z := 0) (hs _ (by decide +kernel))) (fun j hj => absurd hj (by omega)) hA
  exact ⟨t, va_Zof (hts _ (lw_tw 83 (by decide +kernel))) (hwd _ wi_7) h1 hA, h2⟩
set_option maxHeartbeats 4000000 in
set_option maxRecDepth 100000 in
theorem lw_E {args : Array Value} {s : State} (hts : ∀ w ∈ lw_tbl, w.before args s = true) (hwd : ∀ w ∈ wd_all, w.before args s = true) (hgv : (Jvm.Cond.and given_1 narrow_1).before args s = true) : ∃ G : dk_G, G.2.2.1 = s.heap.size ∧ dk_E G s := by
  have hs := flat_of_before _ hgv
  have hA : ∀ a : Nat, a < s.heap.size → ¬ (fun q : Nat => s.heap.size ≤ q) a := fun a h => Nat.not_le.mpr h
  obtain ⟨t0, z0, y0⟩ := lw_f1 hts hwd hgv hA
  obtain ⟨t1, z1, y1⟩ := lw_f2 hts hwd hgv hA
  obtain ⟨mi, hmi⟩ := va_Mi.of (C := "[Ljava/lang/Object;") (hs _ (by decide +kernel))
  have hkn := lw_kn hwd
  have har := lw_ar hts
  refine ⟨((fun k => (Classical.choose (hkn k)).1, fun k => (Classical.choose (hkn k)).2), fun k => Classical.choose (har k), s.heap.size, fun k => if k = 0 then t0 else if k = 1 then t1 else mi), rfl, ⟨fun k q hq => Classical.choose_spec (hkn k) q hq, fun k q hq => ?_⟩, fun w hw => va_Nw.of (dk_non (List.mem_filter.mp hw).2) (hts w (List.mem_append_right _ (List.mem_filter.mp hw).1)), ⟨⟨z0, y0⟩, ⟨z1, y1⟩, lw_ll (hts _ (lw_tw 369 (by decide +kernel))) (hs _ (by decide +kernel)) hA, lw_ll (hts _ (lw_tw 371 (by decide +kernel))) (hs _ (by decide +kernel)) hA, fun q hq => ?_, ⟨va_Nc.of (hs _ (by decide +kernel)), va_Nc.of (hs _ (by decide +kernel)), va_Nc.of (hs _ (by decide +kernel))⟩, hmi, va_AO.of (hts _ (lw_tw 39 (by decide +kernel))), va_AO.of (hts _ (lw_tw 48 (by decide +kernel))), va_AO.of (hts _ (lw_tw 261 (by decide +kernel)))⟩, Nat.le_refl _⟩
  · match k, hq with
    | 0, hq => cases hq; exact Classical.choose_spec (har 0) _ rfl
    | 1, hq => cases hq; exact Classical.choose_spec (har 1) _ rfl
    | 2, hq => cases hq; exact Classical.choose_spec (har 2) _ rfl
    | 3, hq => cases hq; exact Classical.choose_spec (har 3) _ rfl
    | 4, hq => cases hq; exact Classical.choose_spec (har 4) _ rfl
    | 5, hq => cases hq; exact Classical.choose_spec (har 5) _ rfl
    | k + 6, hq => simp [dk_tys] at hq
  · have hw := hts _ (lw_sm q hq)
    obtain ⟨k, cf, i, a, -, -, -, -, -, h6⟩ := Cond.stringRef_spec (Classical.choose_spec (hkn 5) _ rfl).2.1 hw
    exact ⟨a, vk_R.of hw h6⟩
