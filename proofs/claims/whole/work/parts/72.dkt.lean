/-! METHODS THAT THROW, over the simple heap: the exception is a cell x of the kind called C (it is no cell of the simple heap) -/
def dk_X (C : String) (x : Nat) (t : State) : Prop := ∃ cell : Cell, t.heap[x]? = some cell ∧ cell.vm = .none ∧ t.vm.findClass C = some cell.cls
def dk_Qt (G : dk_G) (C : String) (post : dk_H → Prop) (mc ms : Nat) : Array Value → State → Outcome → State → Prop := fun _ st o t =>
  ∃ (x : Nat) (u : dk_H), o = .threw x ∧ dk_X C x t ∧ post u ∧ dk_P G u t.heap ∧ va_F (dk_A G) st t ∧ st.WarmedH t.vm ∧ ∃ L : List Loc, st.sameButNew ({ t with vm := st.vm } : State) L mc ms ∧ ∀ q ∈ L, dk_A G q.base
abbrev dk_Mt (l : Launch) (y : MethodName) (ws : List Cond) (rm : Room) (G : dk_G) (w : dk_H) (av : List Value) (C : String) (post : dk_H → Prop) (mc ms : Nat) : Prop := MetFree l y (headSpec ws rm) (va_Pc av (dk_W G w)) (fun _ _ _ _ _ => True) (dk_Qt G C post mc ms)
def dk_QT (below : List Frame) (G : dk_G) (C : String) (post : dk_H → Prop) (args : Array Value) (s : State) (mc ms : Nat) : State → Prop := fun t => ∃ o, t.status = .running ∧ Ended t below o ∧ dk_Qt G C post mc ms args s o t
def dk_no (c : Code) : Prop := ∀ x ∈ c.exceptionTable.toList, ∀ pc : Nat, covers x pc = false
theorem dk_enterT {l : Launch} {y : MethodName} {rm : Room} {G : dk_G} {w : dk_H} {av : List Value} {C : String} {post : dk_H → Prop} {mc ms : Nat} {cc : ByteArray} {maxL : Nat} {ret : Option FieldType} {lv : List (Nat × Value)}
    (hy : plainName y.cls = true) (hlen : (lg_sl av).length ≤ maxL) (hlv : lv_args 0 av = lv)
    (body : ∀ (p : Program) (e : Env) (s : State) (m : MethodId) (args : Array Value) (below : List Frame) (meth : Method) (c : Code) (ls : Array Slot) (Q : State → Prop), Q = dk_QT below G C post args s mc ms → dk_C p s m args meth c G y cc maxL ret → dk_no c → dk_P G w s.heap → dk_S G s.heap s.heap [] → lv_has ls maxL lv →
      W p l e rm s m args below meth c s.heap [] 0 0 Q (F0 m 0 ls [])) :
    dk_Mt l y (wd_c y cc maxL ret) rm G w av C post mc ms := by
  refine MetFree.of_bodyS (code := cc) (maxLocals := maxL) (ret := ret) hy ?_ ?_
  · intro args s m h hn
    obtain ⟨meth, c, h1, h2, h3, h4, h5, h6, -, -⟩ := Cond.code_spec hn (atoms_spec (ws := wd_c y cc maxL ret) h _ List.mem_cons_self)
    exact ⟨meth, c, h1, h2, h3, h4, h5, h6⟩
  · intro p e s m args below meth c s₁ B hml hv _
    obtain ⟨rfl, hE, hP⟩ := hv
    have hts0 := atoms_spec (ws := wd_c y cc maxL ret) B.pre
    have hts := fun w h => hts0 w (List.mem_cons_of_mem _ h)
    have hl := lv_entry av (n := maxL) hlen
    rw [hlv] at hl
    have hne := B.noHandlers (hts0 _ List.mem_cons_self)
    have hno : dk_no c := by
      have h0 : c.exceptionTable.size = 0 := by simpa [Array.isEmpty] using hne
      have h1 : c.exceptionTable.toList = [] := List.eq_nil_of_length_eq_zero (by simpa using h0)
      intro x hx
      rw [h1] at hx
      cases hx
    have hh0 : s₁.heap = s.heap := by rw [B.state]; rfl
    have key := body p e s m _ below meth c _ _ rfl ⟨B.exec, B.bytes, B.returns, hml, B.notSynchronized, findClass_of_methodNamed B.named, (name_of_methodNamed B.named B.method).1, hts, hE⟩ hno hP va_S.rf hl
    rw [← lg_entry_eq] at key
    obtain ⟨t, a1, o, b1, b2, b3⟩ := key s₁ hh0 (Stand.of_body B)
    exact ⟨t, o, a1, b1, b2, b3⟩
theorem dk_LS.word {n d : String} {A : Nat → Prop} {U : State} {args : Array Value} (h : dk_LS n d A U U.heap) : (Cond.isRef (.static "java/lang/Throwable" n d)).before args U = true := by
  obtain ⟨c, k, i, f, a, cell, v, h0, h1, h2, h3, h4, h5, h6, h7, h8, h9, h10, h11⟩ := h
  have he : (Term.static "java/lang/Throwable" n d).eval args U none [] U = some v := by
    simp [Term.eval, State.fieldNamed?, h1, h2, h3, h4, h5, h9]
  simp only [Cond.before, Cond.holds, Cond.value]
  rw [he]
  cases v <;> first | rfl | simp [Value.isRef] at h10
theorem dk_LS.lays {n d : String} {A : Nat → Prop} {U : State} {args : Array Value} (h : dk_LS n d A U U.heap) : (Cond.laysStatic "java/lang/Throwable" n d).before args U = true := by
  obtain ⟨c, k, i, f, a, cell, v, h0, h1, h2, h3, h4, h5, h6, h7, h8, h9, h10, h11⟩ := h
  simp [Cond.before, Cond.holds, Cond.value, h0, h1, h2, h3, h4, h5, h6, h7, h8]
abbrev th_up : List String := ["java/lang/RuntimeException", "java/lang/Exception"]
def th_w (a : Cond) : Prop := a ∈ wd_all ∨ a ∈ dk_nw ∨ a = .laysStatic Bundle.tN "UNASSIGNED_STACK" Bundle.steD ∨ a = .laysStatic Bundle.tN "SUPPRESSED_SENTINEL" Bundle.listD ∨ a = .isRef (.static Bundle.tN "UNASSIGNED_STACK" Bundle.steD) ∨ a = .isRef (.static Bundle.tN "SUPPRESSED_SENTINEL" Bundle.listD)
def th_ow (ic : Nat) (C : String) : Prop := ∀ a ∈ Bundle.ownAtoms "RunKeeper" ic C th_up, th_w a
section DKT
variable {p : Program} {l : Launch} {e : Env} {R : Room} {s : State} {m : MethodId} {args : Array Value} {below : List Frame} {meth : Method} {c : Code} {H : Heap} {locs : List Loc} {cells slots : Nat} {Q : State → Prop}
variable {cc : ByteArray} {pc : Nat} {ls : Array Slot} {rest : List Value} {G : dk_G} {w : dk_H} {mc ms : Nat} {C : String} {post : dk_H → Prop}
theorem th_at (hts : ∀ w ∈ wd_all, w.before args s = true) (hE : dk_E G s) {T : State} (hS : dk_S G s.heap T.heap locs) {a : Cond} (h : th_w a) : a.before args (th_s s T m args below) = true := by
  have hW : s.WarmedH (th_s s T m args below).vm := State.WarmedH.refl s
  have hZ := hE.2.2.1
  have hal : s.vm.Alike (th_s s T m args below).vm := Vm.Alike.refl _
  rcases h with h | h | rfl | rfl | rfl | rfl
  · exact word_at hW (wd_ok h) (hts a h)
  · exact dk_N.use (hE.2.1.same (U := th_s s T m args below) rfl) h
  · exact ((hZ.2.2.1.kept hS.2.1).moved hal : dk_LS _ _ _ (th_s s T m args below) (th_s s T m args below).heap).lays
  · exact ((hZ.2.2.2.1.kept hS.2.1).moved hal : dk_LS _ _ _ (th_s s T m args below) (th_s s T m args below).heap).lays
  · exact ((hZ.2.2.1.kept hS.2.1).moved hal : dk_LS _ _ _ (th_s s T m args below) (th_s s T m args below).heap).word
  · exact ((hZ.2.2.2.1.kept hS.2.1).moved hal : dk_LS _ _ _ (th_s s T m args below) (th_s s T m args below).heap).word
theorem dk_grow {H1 : Heap} (hP : dk_P G w H) (hq : ∀ q : Nat, q < H.size → H1[q]? = H[q]?) : dk_P G w H1 := by
  intro b u f hb
  obtain ⟨h1, h2⟩ := hP b u f hb
  exact ⟨h1, h2.kept (hq b h2.lt)⟩
/-- throw new C("tx") -/
theorem dk_thr (hQ : Q = dk_QT below G C post args s mc ms) (hno : dk_no c) (hlt : l.stackTraces = false) (hx : p.tables.exec = Jvm.exec) (hb : c.code = cc) (hml : c.maxLocals = ls.size) (hlocks : meth.locks = false) (hown : s.vm.findClass "RunKeeper" = some m.cls) (hts : ∀ w ∈ wd_all, w.before args s = true) (hE : dk_E G s) (hP : dk_P G w H) (hS : dk_S G s.heap H locs) (hpost : post w)
    (h1 : cells + 1 ≤ mc) (h2 : slots + 6 ≤ ms) (hR1 : cells + 1 ≤ R.cells) (hR2 : slots + 6 ≤ R.slots) (hRf : 5 < R.frames) (hRl : 82 ≤ R.locals) (hfit : Bundle.fit C = true)
    {tx : String} {ix ik ic : Nat} (hstr : (ik, tx) ∈ dk_str) (hcl : Cond.classLink "RunKeeper" ix C ∈ wd_all) (hin : Cond.initialized C ∈ wd_all) (how : th_ow ic C)
    (hd0 : decode cc pc = .ok (.new ix, 3)) (hd3 : decode cc (pc + 3) = .ok (.dup, 1)) (hd4 : decode cc (pc + 4) = .ok (.ldc ik, 2)) (hd6 : decode cc (pc + 6) = .ok (.invokespecial ic, 3)) (hd9 : decode cc (pc + 9) = .ok (.athrow, 1)) :
    W p l e R s m args below meth c H locs cells slots Q (F0 m pc ls []) := by
  subst hQ
  subst hb
  intro T hT X
  subst hT
  have htr : e.platform.stackTraces = false := (show e.platform.stackTraces = l.stackTraces by rw [X.admits.platform]).trans hlt
  obtain ⟨q, hq⟩ := hE.2.2.1.2.2.2.2.1 _ hstr
  have hq' : vk_R "RunKeeper" ik tx q (th_s s T m args below) := hq.same rfl
  obtain ⟨U, g1, g2, g3, g4, g5, g6, g7, ce, g8, g9, g10⟩ := th_thr X hx htr (own := "RunKeeper") (C := C) (tx := tx) (names := th_up) (ix := ix) (ik := ik) (ic := ic) (q := q) (pc := pc) (ls := ls) hown hfit (by decide +kernel)
    (th_at hts hE hS (Or.inl hcl)) (th_at hts hE hS (Or.inl hin)) (fun a ha => th_at hts hE hS (how a ha)) hq'.1 hq'.2 hml.symm hd0 hd3 hd4 hd6 hd9 (fun x hx => hno x hx _) hR1 hR2 hRf hRl hlocks
  refine ⟨U, g1, _, g2, g3, T.heap.size, w, rfl, ⟨ce, g8, g9, by rw [g4.alike.findClass]; exact g10⟩, hpost, dk_grow hP g5, ⟨Nat.le_trans hS.1 (Nat.le_of_lt g6), fun q h3 h4 => by rw [g5 q (Nat.lt_of_lt_of_le h3 hS.1)]; exact hS.2.1 q h3 h4⟩, g4, locs, g7.mono h1 h2, hS.2.2⟩
/-- the same with a wide ldc -/
theorem dk_thrW (hQ : Q = dk_QT below G C post args s mc ms) (hno : dk_no c) (hlt : l.stackTraces = false) (hx : p.tables.exec = Jvm.exec) (hb : c.code = cc) (hml : c.maxLocals = ls.size) (hlocks : meth.locks = false) (hown : s.vm.findClass "RunKeeper" = some m.cls) (hts : ∀ w ∈ wd_all, w.before args s = true) (hE : dk_E G s) (hP : dk_P G w H) (hS : dk_S G s.heap H locs) (hpost : post w)
    (h1 : cells + 1 ≤ mc) (h2 : slots + 6 ≤ ms) (hR1 : cells + 1 ≤ R.cells) (hR2 : slots + 6 ≤ R.slots) (hRf : 5 < R.frames) (hRl : 82 ≤ R.locals) (hfit : Bundle.fit C = true)
    {tx : String} {ix ik ic : Nat} (hstr : (ik, tx) ∈ dk_str) (hcl : Cond.classLink "RunKeeper" ix C ∈ wd_all) (hin : Cond.initialized C ∈ wd_all) (how : th_ow ic C)
    (hd0 : decode cc pc = .ok (.new ix, 3)) (hd3 : decode cc (pc + 3) = .ok (.dup, 1)) (hd4 : decode cc (pc + 4) = .ok (.ldc_w ik, 3)) (hd6 : decode cc (pc + 7) = .ok (.invokespecial ic, 3)) (hd9 : decode cc (pc + 10) = .ok (.athrow, 1)) :
    W p l e R s m args below meth c H locs cells slots Q (F0 m pc ls []) := by
  subst hQ
  subst hb
  intro T hT X
  subst hT
  have htr : e.platform.stackTraces = false := (show e.platform.stackTraces = l.stackTraces by rw [X.admits.platform]).trans hlt
  obtain ⟨q, hq⟩ := hE.2.2.1.2.2.2.2.1 _ hstr
  have hq' : vk_R "RunKeeper" ik tx q (th_s s T m args below) := hq.same rfl
  obtain ⟨U, g1, g2, g3, g4, g5, g6, g7, ce, g8, g9, g10⟩ := th_thrW X hx htr (own := "RunKeeper") (C := C) (tx := tx) (names := th_up) (ix := ix) (ik := ik) (ic := ic) (q := q) (pc := pc) (ls := ls) hown hfit (by decide +kernel)
    (th_at hts hE hS (Or.inl hcl)) (th_at hts hE hS (Or.inl hin)) (fun a ha => th_at hts hE hS (how a ha)) hq'.1 hq'.2 hml.symm hd0 hd3 hd4 hd6 hd9 (fun x hx => hno x hx _) hR1 hR2 hRf hRl hlocks
  refine ⟨U, g1, _, g2, g3, T.heap.size, w, rfl, ⟨ce, g8, g9, by rw [g4.alike.findClass]; exact g10⟩, hpost, dk_grow hP g5, ⟨Nat.le_trans hS.1 (Nat.le_of_lt g6), fun q h3 h4 => by rw [g5 q (Nat.lt_of_lt_of_le h3 hS.1)]; exact hS.2.1 q h3 h4⟩, g4, locs, g7.mono h1 h2, hS.2.2⟩
/-- a call of a method that throws -/
def dk_TRun (p : Program) (l : Launch) (e : Env) (R : Room) (s : State) (m : MethodId) (args : Array Value) (below : List Frame) (meth : Method) (c : Code) (H : Heap) (locs : List Loc) (cells slots mc ms : Nat) (g : JFrame) (rest : List Value) (G : dk_G) (C : String) (post : dk_H → Prop) : Prop :=
  ∀ T : State, T.heap = H → Stand p l e R s m args below meth c T locs cells slots → ∃ (x : Nat) (u : dk_H) (T' : State) (L : List Loc), Stand p l e R s m args below meth c T' (locs ++ L) (cells + mc) (slots + ms) ∧ dk_X C x T' ∧ post u ∧ dk_P G u T'.heap ∧ dk_S G s.heap T'.heap (locs ++ L) ∧
    ∀ target, Steps p.tables e below ((T'.setTop { g with stack := rest }).pushFrame (.throwing x)) target → Steps p.tables e below (T.setTop g) target
theorem dk_runT {y : MethodName} {bytes : ByteArray} {maxL nL n index : Nat} {ret : Option FieldType} {ws : List Cond} {rm : Room} {own D : String} {b : Addr} {As : List Value} {g : JFrame} {w0 : dk_H}
    (S : CallFix p m c cc nL s args wd_all own) (hM : dk_Mt l y ws rm G w0 (.ref b :: As) C post mc ms) (cw : CallW R s args own D index y bytes maxL ret ws rm mc ms n) (hp : PreV s H D b (va_Pc (.ref b :: As) (dk_W G w0)) As) (hS : dk_S G s.heap H locs)
    (hg : g.method = m) (hn : As.length = n) (hsize : g.locals.size = nL) (hstack : g.stack = As.reverse ++ .ref b :: rest) (hW : 2 * g.monitorRoom + (rest.map fun v => v.category).sum ≤ 8) (hdg : decode cc g.pc = .ok (.invokevirtual index, 3)) (hf : cells + mc ≤ R.cells ∧ slots + ms ≤ R.slots) :
    dk_TRun p l e R s m args below meth c H locs cells slots mc ms g rest G C post := by
  obtain ⟨⟨hrc, hrs, hfr, hlo, hws, -, hcode, hini, hy, hlen, hl⟩, hin, hse⟩ := cw
  obtain ⟨hx, hb, hml, ho, -⟩ := S
  obtain ⟨hbl, ⟨cellB, hcB, hoB, hclB⟩, hPc⟩ := hp
  subst hrc
  subst hrs
  intro T hT X
  subst hT
  obtain ⟨x, st, t, T', L, e1, e2, X', e3, e4, hq, hsame, hgo⟩ := th_callV X hx (C := D) (bytes := bytes) (maxL := maxL) (ret := ret) hM hfr hlo hf.1 hf.2 hws ho hl hin hse hcode hini hy hcB hoB hclB hg (hsize.trans hml.symm) (argsL := As) (rest := rest) (fun sig h => hn.trans (hlen sig h)) hstack hW (by rw [hb]; exact hdg) hPc hbl
    (fun st o t hq => by
      obtain ⟨x, u, h1, h2, h3, h4, h5, h6, L, h7, h8⟩ := hq
      exact ⟨x, L, h1, h6, h7⟩)
  obtain ⟨x2, u, h1, h2, h3, h4, h5, h6, L2, h7, h8⟩ := hq
  cases h1
  have hz : T.heap.size ≤ T'.heap.size := by rw [e3, ← e1]; exact h5.1
  have hk : ∀ q : Nat, q < T.heap.size → ¬ dk_A G q → T'.heap[q]? = T.heap[q]? := by
    intro q h9 h10
    rw [e3, ← e1]
    exact h5.2 q (by rw [e1]; exact h9) h10
  have X2 : Stand p l e R s m args below meth c T' (locs ++ L2) (cells + rm.cells) (slots + rm.slots) := by
    refine ⟨X'.admits, X'.cas, X'.clock, X'.frames, X'.room, X'.hears, X'.method, X'.code, X'.here, X'.tail, X'.warmed, X'.limits, X'.bytes, ?_⟩
    obtain ⟨a1, a2, a3, a4, a5, a6⟩ := X'.same
    refine ⟨a1, a2, a3, a4, a5, fun a cl hcl => ?_⟩
    obtain ⟨c1, b1, b2, b3, b4⟩ := a6 a cl hcl
    obtain ⟨c0, d1, d2, d3, d4⟩ := X.same.2.2.2.2.2 a cl hcl
    have d1 : T.heap[a]? = some c0 := d1
    have hst : st.heap[a]? = some c0 := by rw [e1]; exact d1
    obtain ⟨c2, f1, f2, f3, f4⟩ := h7.2.2.2.2.2 a c0 hst
    have f1 : t.heap[a]? = some c2 := f1
    have b1 : T'.heap[a]? = some c1 := b1
    rw [e3, f1] at b1
    have hcc := Option.some.inj b1
    subst hcc
    refine ⟨_, by show T'.heap[a]? = _; rw [e3]; exact f1, b2, b3, fun i hi => ?_⟩
    rw [f4 i (fun z => hi (List.mem_append_right _ z))]
    exact d4 i (fun z => hi (List.mem_append_left _ z))
  refine ⟨x, u, T', L2, X2, ?_, h3, by rw [e3]; exact h4, ?_, hgo⟩
  · obtain ⟨cell, k1, k2, k3⟩ := h2
    exact ⟨cell, by rw [e3]; exact k1, k2, by rw [e4]; exact k3⟩
  · refine ⟨Nat.le_trans hS.1 hz, fun q h9 h10 => ?_, fun q hq => ?_⟩
    · rw [hk q (Nat.lt_of_lt_of_le h9 hS.1) h10]
      exact hS.2.1 q h9 h10
    · rcases List.mem_append.mp hq with h | h
      · exact hS.2.2 q h
      · exact h8 q h
/-- it goes on through a method that does not catch it -/
theorem dk_thrV {post0 : dk_H → Prop} {mc0 ms0 : Nat} {st0 : List Value} (hQ : Q = dk_QT below G C post args s mc ms) (hr : dk_TRun p l e R s m args below meth c H locs cells slots mc0 ms0 (F0 m pc ls st0) rest G C post0) (hno : dk_no c) (hlocks : meth.locks = false) (h1 : cells + mc0 ≤ mc) (h2 : slots + ms0 ≤ ms) (hpost : ∀ u, post0 u → post u) :
    W p l e R s m args below meth c H locs cells slots Q (F0 m pc ls st0) := by
  subst hQ
  intro T hT X
  obtain ⟨x, u, T', L, X', hX, hp, hP, hS, hgo⟩ := hr T hT X
  obtain ⟨g1, g2, g3, g4, g5⟩ := X'.leaveThrown x (g := { F0 m pc ls st0 with stack := rest }) rfl rfl rfl (fun y hy => hno y hy _) hlocks
  exact ⟨_, hgo _ g1, _, g2, g3, x, u, rfl, hX, hpost u hp, hP, ⟨hS.1, hS.2.1⟩, g4, locs ++ L, g5.mono h1 h2, hS.2.2⟩
theorem th_self (vm : Vm) (k : ClassId) : vm.assignable k k = true := by
  show vm.assignableAux (255 + 1) k k = true
  rw [Vm.assignableAux]
  simp
theorem th_map {α β : Type} {f : α → β} {L : List α} {q : β} {qs : List β} (h : L.map f = q :: qs) : ∃ x xs, L = x :: xs ∧ f x = q ∧ xs.map f = qs := by
  cases L with
  | nil => cases h
  | cons x xs =>
    simp only [List.map_cons, List.cons.injEq] at h
    exact ⟨x, xs, rfl, h.1, h.2⟩
abbrev th_row (x : ExceptionTableEntry) : Nat × Nat × Nat × Nat := (x.startPc, x.endPc, x.handlerPc, x.catchType)
/-- caught by the first row -/
theorem dk_catch1 {mc0 ms0 a1 b1 p1 t1 : Nat} {qs : List (Nat × Nat × Nat × Nat)} {own : String} {st0 : List Value} (hr : dk_TRun p l e R s m args below meth c H locs cells slots mc0 ms0 (F0 m pc ls st0) rest G C post) (hown : s.vm.findClass own = some m.cls) (hts : ∀ w ∈ wd_all, w.before args s = true) (ht : c.exceptionTable.toList.map th_row = (a1, b1, p1, t1) :: qs) (hc : a1 ≤ pc ∧ pc < b1) (h0 : t1 ≠ 0) (hlink : Cond.classLink own t1 C ∈ wd_all)
    (kk : ∀ (x : Nat) (w1 : dk_H) (H1 : Heap) (locs1 : List Loc), post w1 → dk_P G w1 H1 → dk_S G s.heap H1 locs1 → W p l e R s m args below meth c H1 locs1 (cells + mc0) (slots + ms0) Q (F0 m p1 ls [.ref x])) : W p l e R s m args below meth c H locs cells slots Q (F0 m pc ls st0) := by
  intro T hT X
  obtain ⟨x, u, T', L, X', ⟨cell, k1, k2, k3⟩, hp, hP, hS, hgo⟩ := hr T hT X
  obtain ⟨y, ys, e1, e2, -⟩ := th_map ht
  obtain ⟨f1, f2, f3, f4⟩ : y.startPc = a1 ∧ y.endPc = b1 ∧ y.handlerPc = p1 ∧ y.catchType = t1 := by
    have := e2
    simp only [th_row, Prod.mk.injEq] at this
    exact this
  have hcov : covers y pc = true := by
    simp only [covers, Bool.and_eq_true, decide_eq_true_eq]
    rw [f1, f2]
    exact hc
  obtain ⟨vm', X2, go⟩ := th_catch1 X' hown (a := x) (cell := cell) (g := { F0 m pc ls st0 with stack := rest }) rfl e1 hcov (by rw [f4]; exact h0) (C := C) (by rw [f4]; exact hts _ hlink) k1 k2 (by rw [← X'.warmed.alike.findClass]; exact k3) (th_self _ _)
  obtain ⟨t, s1, s2⟩ := kk x u T'.heap (locs ++ L) hp hP hS (T'.setVm vm') rfl X2
  refine ⟨t, hgo _ (go _ ?_), s2⟩
  rw [f3]
  exact s1
/-- passed by the first row, caught by the second -/
theorem dk_catch2 {mc0 ms0 a1 b1 p1 t1 a2 b2 p2 t2 : Nat} {qs : List (Nat × Nat × Nat × Nat)} {own D : String} {st0 : List Value} (hr : dk_TRun p l e R s m args below meth c H locs cells slots mc0 ms0 (F0 m pc ls st0) rest G C post) (hown : s.vm.findClass own = some m.cls) (hts : ∀ w ∈ wd_all, w.before args s = true) (ht : c.exceptionTable.toList.map th_row = (a1, b1, p1, t1) :: (a2, b2, p2, t2) :: qs) (hc : a1 ≤ pc ∧ pc < b1) (hc2 : a2 ≤ pc ∧ pc < b2) (h0 : t1 ≠ 0) (h02 : t2 ≠ 0) (hlink : Cond.classLink own t1 D ∈ wd_all) (hlink2 : Cond.classLink own t2 C ∈ wd_all) (hNc : va_Nc C D s)
    (kk : ∀ (x : Nat) (w1 : dk_H) (H1 : Heap) (locs1 : List Loc), post w1 → dk_P G w1 H1 → dk_S G s.heap H1 locs1 → W p l e R s m args below meth c H1 locs1 (cells + mc0) (slots + ms0) Q (F0 m p2 ls [.ref x])) : W p l e R s m args below meth c H locs cells slots Q (F0 m pc ls st0) := by
  intro T hT X
  obtain ⟨x, u, T', L, X', ⟨cell, k1, k2, k3⟩, hp, hP, hS, hgo⟩ := hr T hT X
  obtain ⟨y, ys, e1, e2, e3⟩ := th_map ht
  obtain ⟨z, zs, e4, e5, -⟩ := th_map e3
  rw [e4] at e1
  obtain ⟨f1, f2, f3, f4⟩ : y.startPc = a1 ∧ y.endPc = b1 ∧ y.handlerPc = p1 ∧ y.catchType = t1 := by
    have := e2
    simp only [th_row, Prod.mk.injEq] at this
    exact this
  obtain ⟨g1, g2, g3, g4⟩ : z.startPc = a2 ∧ z.endPc = b2 ∧ z.handlerPc = p2 ∧ z.catchType = t2 := by
    have := e5
    simp only [th_row, Prod.mk.injEq] at this
    exact this
  have hcov : covers y pc = true := by
    simp only [covers, Bool.and_eq_true, decide_eq_true_eq]
    rw [f1, f2]
    exact hc
  have hcov2 : covers z pc = true := by
    simp only [covers, Bool.and_eq_true, decide_eq_true_eq]
    rw [g1, g2]
    exact hc2
  obtain ⟨vm', X2, go⟩ := th_catch2 X' hown (a := x) (cell := cell) (g := { F0 m pc ls st0 with stack := rest }) rfl e1 hcov (by rw [f4]; exact h0) hcov2 (by rw [g4]; exact h02) (C := C) (D := D) (by rw [f4]; exact hts _ hlink) (by rw [g4]; exact hts _ hlink2) k1 k2 (by rw [← X'.warmed.alike.findClass]; exact k3) (th_self _ _) hNc
  obtain ⟨t, s1, s2⟩ := kk x u T'.heap (locs ++ L) hp hP hS (T'.setVm vm') rfl X2
  refine ⟨t, hgo _ (go _ ?_), s2⟩
  rw [g3]
  exact s1
end DKT
/-! METHODS WITH HANDLERS -/
abbrev wd_h (y : MethodName) (c : ByteArray) (n : Nat) (r : Option FieldType) (hs : List (Nat × Nat × Nat × Nat)) : List Cond := Cond.codeWith y c n r hs :: wd_all
theorem dk_enterH {l : Launch} {y : MethodName} {rm : Room} {G : dk_G} {w : dk_H} {av : List Value} {Qc : Array Value → State → Outcome → State → Prop} {mc ms : Nat} {cc : ByteArray} {maxL : Nat} {ret : Option FieldType} {hs : List (Nat × Nat × Nat × Nat)} {lv : List (Nat × Value)}
    (hy : plainName y.cls = true) (hlen : (lg_sl av).length ≤ maxL) (hlv : lv_args 0 av = lv)
    (body : ∀ (p : Program) (e : Env) (s : State) (m : MethodId) (args : Array Value) (below : List Frame) (meth : Method) (c : Code) (ls : Array Slot) (Q : State → Prop), Q = MQ below Qc args s mc ms (dk_A G) → dk_C p s m args meth c G y cc maxL ret → c.exceptionTable.toList.map th_row = hs → dk_P G w s.heap → dk_S G s.heap s.heap [] → lv_has ls maxL lv →
      W p l e rm s m args below meth c s.heap [] 0 0 Q (F0 m 0 ls [])) :
    Met l y (wd_h y cc maxL ret hs) rm (va_Pc av (dk_W G w)) Qc mc ms (dk_A G) := by
  refine MetFree.of_bodyS (code := cc) (maxLocals := maxL) (ret := ret) hy ?_ ?_
  · intro args s m h hn
    obtain ⟨m', meth, c, q1, h1, h2, h3, h4, -, h5, h6, -⟩ := Cond.codeWith_spec (atoms_spec (ws := wd_h y cc maxL ret hs) h _ List.mem_cons_self)
    cases hn.symm.trans q1
    exact ⟨meth, c, h1, h2, h3, h4, h5, h6⟩
  · intro p e s m args below meth c s₁ B hml hv _
    obtain ⟨rfl, hE, hP⟩ := hv
    have hts0 := atoms_spec (ws := wd_h y cc maxL ret hs) B.pre
    have hts := fun w h => hts0 w (List.mem_cons_of_mem _ h)
    have hl := lv_entry av (n := maxL) hlen
    rw [hlv] at hl
    obtain ⟨m', meth', c', q1, q2, q3, -, -, q4, -, -, -⟩ := Cond.codeWith_spec (hts0 _ List.mem_cons_self)
    have X0 := Stand.of_body B
    cases B.named.symm.trans q1
    cases X0.method.symm.trans q2
    cases X0.code.symm.trans q3
    have hh0 : s₁.heap = s.heap := by rw [B.state]; rfl
    have key := body p e s m _ below meth c _ _ rfl ⟨B.exec, B.bytes, B.returns, hml, B.notSynchronized, findClass_of_methodNamed B.named, (name_of_methodNamed B.named B.method).1, hts, hE⟩ q4 hP va_S.rf hl
    rw [← lg_entry_eq] at key
    obtain ⟨t, a1, o, b1, b2, b3⟩ := key s₁ hh0 X0
    exact ⟨t, o, a1, b1, b2, ⟨b3.1, b3.2⟩⟩
theorem dk_runH {p : Program} {l : Launch} {e : Env} {R : Room} {s : State} {m : MethodId} {args : Array Value} {below : List Frame} {meth : Method} {c : Code} {H : Heap} {locs : List Loc} {cells slots : Nat} {y : MethodName} {bytes cc : ByteArray} {maxL nL mc ms n index : Nat} {ret : Option FieldType} {hs : List (Nat × Nat × Nat × Nat)} {rm : Room} {Pc : Array Value → State → Prop} {Qc : Array Value → State → Outcome → State → Prop} {free : Addr → Prop} {own : String} {As rest : List Value} {g : JFrame}
    (S : CallFix p m c cc nL s args wd_all own) (hM : Met l y (wd_h y bytes maxL ret hs) rm Pc Qc mc ms free) (hcw : Cond.codeWith y bytes maxL ret hs ∈ wd_all) (hlk : Cond.methodLink own index y ∈ wd_all) (hst : Cond.static y ∈ wd_all) (hin : Cond.initialized y.cls ∈ wd_all) (hrc : rm.cells = mc) (hrs : rm.slots = ms) (hR : rm.frames + 1 ≤ R.frames ∧ 8 + (maxL + 11) + rm.locals ≤ R.locals)
    (hd : y.cls ≠ "java/lang/invoke/MethodHandle" ∧ y.cls ≠ "java/lang/invoke/VarHandle" ∧ (parseMethodDescriptor y.desc).map (fun d => d.parameters.length) = some n) (hp : PreS s H Pc As)
    (hg : g.method = m) (hn : As.length = n) (hsize : g.locals.size = nL) (hstack : g.stack = As.reverse ++ rest) (hW : 2 * g.monitorRoom + (rest.map fun v => v.category).sum ≤ 8) (hdg : decode cc g.pc = .ok (.invokestatic index, 3)) (hf : cells + mc ≤ R.cells ∧ slots + ms ≤ R.slots) :
    va_Run p l e R s m args below meth c H locs cells slots mc ms g rest (Qc As.toArray) (free) := by
  obtain ⟨hx, hb, hml, ho, hts⟩ := S
  have hall : ∀ w ∈ wd_all, ∀ (a' : Array Value) (U : State), s.WarmedH U.vm → w.before a' U = true := fun w hw a' U hU => word_at hU (wd_ok hw) (hts w hw)
  have hK : Back l R p e below s args y 3 8 (PreOf R mc ms Pc) (PostOf Qc mc ms free) := th_back (bytes := bytes) (maxL := maxL) (ret := ret) (handlers := hs) hM hp.1 hrc hrs hR.1 hR.2 (fun w hw => by
    rcases List.mem_cons.mp hw with rfl | hw
    · exact hall _ hcw
    · exact hall _ hw) List.mem_cons_self (hall _ hin)
  intro T hT X
  obtain ⟨v, vm₁, ⟨U', l2, c2, s2⟩, hW₁, X', ⟨g', mk, t, L, e1, e2, hq, h1, hL, h2, h3⟩, st⟩ := th_callS X hx (bytes := bytes) (maxL := maxL) (ret := ret) (handlers := hs) ho (hts _ hlk) (hts _ hst) (hts _ hin) (hts _ hcw) ⟨hd.1, hd.2.1⟩ hK hg (hsize.trans hml.symm) (argsL := As) (rest := rest) (fun sig h => by
      have h2 := hd.2.2
      rw [h] at h2
      exact hn.trans (Option.some.inj h2).symm) hstack hW (by rw [hb]; exact hdg)
    (fun vm₁ hW₁ => ⟨hf.1, hf.2, hp.2 (T.setVm vm₁) hT hW₁⟩)
  dsimp only [Pt.U, Pt.locs, Pt.cells, Pt.slots] at X' e1 e2 h1 h2 h3 st
  subst h1; subst h2; subst h3
  exact ⟨v, (T.setVm vm₁).calling g' mk As.toArray, t, U', L, hT, X', hL, e1, e2, hq, st⟩
