/-! what the world is made of beside our cells: names of the array classes, words that are carried (nest mates, casts), statics, strings -/
abbrev dk_nE : String := "RunKeeper$Entry"
abbrev dk_nL : String := "RunKeeper$Level"
abbrev dk_nO : String := "java/lang/Object"
def dk_nk : Cond → Bool
  | .fieldLinkNest .. => true
  | .methodLinkNest .. => true
  | .castable .. => true
  | .declares .. => true
  | _ => false
def dk_nw : List Cond := tables_1.filter dk_nk
def dk_N (U : State) : Prop := ∀ w ∈ dk_nw, va_Nw w U
theorem dk_nwarm {w : Cond} {s U : State} (hk : dk_nk w = true) (hW : s.WarmedH U.vm) (h : va_Nw w s) : va_Nw w U := by
  cases w <;> first | exact va_Nw.warmF hW h | exact va_Nw.warmM hW h | exact va_Nw.warmC hW h | exact va_Nw.warmD hW h | (simp [dk_nk] at hk)
theorem dk_non {w : Cond} (hk : dk_nk w = true) : w.onTables = true := by
  cases w <;> first | rfl | (simp [dk_nk] at hk)
theorem dn_m {w : Cond} (i : Nat) (h : tables_1[i]? = some w) (hk : dk_nk w = true) : w ∈ dk_nw := List.mem_filter.mpr ⟨List.mem_of_getElem? h, hk⟩
theorem dk_N.use {w : Cond} {s : State} {args : Array Value} (h : dk_N s) (hw : w ∈ dk_nw) : w.before args s = true := va_Nw.use (dk_non (List.mem_filter.mp hw).2) (h w hw)
theorem dk_N.warm {s U : State} (h : dk_N s) (hW : s.WarmedH U.vm) : dk_N U := fun w hw => dk_nwarm (List.mem_filter.mp hw).2 hW (h w hw)
theorem dk_N.same {s U : State} (h : dk_N s) (hv : s.vm = U.vm) : dk_N U := fun w hw => va_Nw.same (dk_non (List.mem_filter.mp hw).2) hv (h w hw)
/-- the classes' numbers and slots, the array classes' numbers, the first cell that is ours, the statics' addresses -/
abbrev dk_G : Type := va_G × (Nat → ClassId) × Nat × (Nat → Nat)
def dk_A (G : dk_G) : Nat → Prop := fun q => G.2.2.1 ≤ q
def dk_fac (j : Nat) : Int32 := if j = 0 then -1640531535 else if j = 1 then -2048144777 else -1028477379
def dk_str : List (Nat × String) := [(203, "key"), (207, "there are as many entries as can be"), (70, "a batch is begun"), (75, "no batch is begun"), (86, "there would be too many entries"), (105, "n"), (127, "there are as many snapshots as can be"), (137, "snapshot"), (265, "key or snapshot"), (158, "the key has nothing"), (171, "level or what"), (183, "there is no such entry"), (189, "what or k")]
/-- a static of Throwable's that holds a reference or null, laid as the tables say -/
def dk_LS (n d : String) (A : Nat → Prop) (U : State) (H : Heap) : Prop := ∃ (c : ClassId) (k : Class) (i : Nat) (f : Field) (a : Nat) (cell : Cell) (v : Value), U.vm.findClass "java/lang/Throwable" = some c ∧ U.fieldFound? "java/lang/Throwable" n d = some (c, k, i, f) ∧ f.isStatic = true ∧ k.statics = some a ∧ H[a]? = some cell ∧ cell.vm.isStatics = true ∧ cell.cls = c ∧ f.slot < cell.slots.size ∧ k.staticTypes[f.slot]? = some f.type ∧ cell.slots[f.slot]? = some v ∧ v.isRef = true ∧ ¬ A a
theorem dk_LS.moved {n d : String} {A : Nat → Prop} {u U : State} {H : Heap} (hvm : u.vm.Alike U.vm) (h : dk_LS n d A u H) : dk_LS n d A U H := by
  obtain ⟨c, k, i, f, a, cell, v, h0, h1, h2, h3, h4, h5, h6, h7, h8, h9⟩ := h
  obtain ⟨k', hi', he⟩ := State.fieldFound?_setVm hvm h1
  exact ⟨c, k', i, f, a, cell, v, by rw [hvm.findClass]; exact h0, hi', h2, by rw [he]; exact h3, h4, h5, h6, h7, by rw [he]; exact h8, h9⟩
theorem dk_LS.kept {n d : String} {A : Nat → Prop} {U : State} {H H1 : Heap} (h : dk_LS n d A U H) (hq : ∀ a : Nat, a < H.size → ¬ A a → H1[a]? = H[a]?) : dk_LS n d A U H1 := by
  obtain ⟨c, k, i, f, a, cell, v, h0, h1, h2, h3, h4, h5, h6, h7, h8, h9, h10, h11⟩ := h
  exact ⟨c, k, i, f, a, cell, v, h0, h1, h2, h3, by rw [hq a (Array.getElem?_eq_some_iff.mp h4).1 h11]; exact h4, h5, h6, h7, h8, h9, h10, h11⟩
def dk_Z (G : dk_G) (U : State) (H : Heap) : Prop :=
  (va_Z "RunKeeper$Run" "FACTORS" "[I" (.ref (G.2.2.2 0)) (dk_A G) U H ∧ va_T .int (G.2.2.2 0) 3 (fun j => .int (dk_fac j)) (dk_A G) U H) ∧
  (va_Z "java/util/ArrayList" "DEFAULTCAPACITY_EMPTY_ELEMENTDATA" "[Ljava/lang/Object;" (.ref (G.2.2.2 1)) (dk_A G) U H ∧ va_T (.object "java/lang/Object") (G.2.2.2 1) 0 (fun _ => .null) (dk_A G) U H) ∧
  dk_LS "UNASSIGNED_STACK" "[Ljava/lang/StackTraceElement;" (dk_A G) U H ∧ dk_LS "SUPPRESSED_SENTINEL" "Ljava/util/List;" (dk_A G) U H ∧
  (∀ q ∈ dk_str, ∃ a, vk_R "RunKeeper" q.1 q.2 a U) ∧ (va_Nc "java/lang/IndexOutOfBoundsException" "java/lang/IllegalArgumentException" U ∧ va_Nc "java/lang/IndexOutOfBoundsException" "java/lang/IllegalStateException" U ∧ va_Nc "java/lang/UnsupportedOperationException" "java/lang/IllegalArgumentException" U) ∧ va_Mi "[Ljava/lang/Object;" (G.2.2.2 2) U ∧ va_AO dk_nE U ∧ va_AO dk_nL U ∧ va_AO dk_nO U
theorem dk_Z.moved {G : dk_G} {s U : State} {locs : List Loc} (hS : va_S (dk_A G) s.heap U.heap locs) (hW : s.WarmedH U.vm) (h : dk_Z G s s.heap) : dk_Z G U U.heap := by
  obtain ⟨⟨h1, h2⟩, ⟨h3, h4⟩, h5, h6, h7, ⟨h8, h9, h10⟩, h11, h12, h13, h14⟩ := h
  exact ⟨⟨(h1.kept hS.2.1).moved hW.alike, (h2.kept hS.2.1).moved hW.alike⟩, ⟨(h3.kept hS.2.1).moved hW.alike, (h4.kept hS.2.1).moved hW.alike⟩, (h5.kept hS.2.1).moved hW.alike, (h6.kept hS.2.1).moved hW.alike, fun q hq => (h7 q hq).imp fun a ha => ha.warm hW, ⟨h8.moved hW.alike, h9.moved hW.alike, h10.moved hW.alike⟩, h11.moved hW.alike, h12.moved hW.alike, h13.moved hW.alike, h14.moved hW.alike⟩
theorem dk_Z.same {G : dk_G} {s U : State} (hv : U.vm = s.vm) (hh : U.heap = s.heap) (h : dk_Z G s s.heap) : dk_Z G U U.heap := by
  have ha : s.vm.Alike U.vm := by rw [hv]; exact Vm.Alike.refl s.vm
  obtain ⟨⟨h1, h2⟩, ⟨h3, h4⟩, h5, h6, h7, ⟨h8, h9, h10⟩, h11, h12, h13, h14⟩ := h
  rw [hh]
  exact ⟨⟨h1.moved ha, h2.moved ha⟩, ⟨h3.moved ha, h4.moved ha⟩, h5.moved ha, h6.moved ha, fun q hq => (h7 q hq).imp fun a hq => hq.same hv, ⟨h8.moved ha, h9.moved ha, h10.moved ha⟩, h11.moved ha, h12.moved ha, h13.moved ha, h14.moved ha⟩
