/-! THROWING AND CATCHING: laws on walks -/
theorem th_go {E : CtlPost} {e : Env} {d : Bool} {acts : List Action} {s : State} {f : JFrame} {a : Addr} {Q : Handler → Pre} {x : ExceptionTableEntry} {t : List ExceptionTableEntry} {c : ClassId} {vm' : Vm} (hx : covers x f.pc = true) (h0 : x.catchType ≠ 0) (hg : (Jvm.resolveClass f.method.cls x.catchType).Gives e.toSetting s.vm (.ok c) vm') (hr : vm'.classReady f.method.cls x.catchType c) (hsz : vm'.classes.size ≤ s.vm.classes.size) :
    wp (findHandler.go f a (x :: t)) Q E e d acts s ↔ wp (findHandler.go f a (x :: t)) Q E e d acts (s.setVm vm') := by
  simp only [covers] at hx
  obtain ⟨ha, ht⟩ := hg.op (op := VmOp.resolveClass f.method.cls x.catchType) rfl
  obtain ⟨k, hkd, hres⟩ := hr
  have hm := resolveClass_memo e hkd hres
  have hv : (s.setVm vm').setVm vm' = s.setVm vm' := rfl
  simp [findHandler.go, hx, h0, ha, ht, hsz, hm.1, hm.2, hv, VmOp.dirties, VmOp.acts]
/-- the search ends with h, and leaves the tables vm' -/
def th_F (e : Env) (s : State) (f : JFrame) (a : Addr) (h : Handler) (vm' : Vm) : Prop := ∀ (Q : Handler → Pre) (E : CtlPost) (d : Bool) (acts : List Action), wp (findHandler f a) Q E e d acts s ↔ Q h d acts (s.setVm vm')
theorem th_catch {e : Env} {s : State} {a : Addr} {f : JFrame} {r : List Frame} {pc : Nat} {vm' : Vm} (hfind : th_F e s f a (.found pc) vm') :
    (stepThrowing e s a (.java f :: r)).Is ((s.setVm vm').setFrames (.java { f with pc := pc, stack := [.ref a] } :: r)) [] := by
  simp only [stepThrowing, searchFrame, vmDo]
  generalize hr : Sem.go _ e false [] s = res
  obtain ⟨as, rfl, ha⟩ := Sem.eq_ok_of hr (a := Handler.found pc) (s' := s.setVm vm') (acts' := []) (by simp [hfind _ _ _ _])
  exact ⟨rfl, ha⟩
theorem th_caught {tb : Tables} {e : Env} {s target : State} {g : JFrame} {c : Code} {below : List Frame} {a : Addr} {vm' : Vm} (h : At s g.method c below) {pc : Nat} (hfind : th_F e ((s.setTop g).pushFrame (.throwing a)) g a (.found pc) vm')
    (hrest : Steps tb e below ((s.setVm vm').setTop { g with pc := pc, stack := [.ref a] }) target) :
    Steps tb e below ((s.setTop g).pushFrame (.throwing a)) target := by
  obtain ⟨hgo, hw⟩ := h.throwing a
  refine Steps.head hgo hw ?_
  rw [stepThread_throwing (frames_entered h.top _), (th_catch (s := (s.setTop g).pushFrame (.throwing a)) hfind).1]
  obtain ⟨g₀, hg⟩ := Option.isSome_iff_exists.mp h.top
  obtain ⟨r, hr⟩ := State.topJava?_eq_some.mp hg
  have hr2 : (s.setVm vm').frames = .java g₀ :: r := hr
  rw [State.setTop_of_frames _ hr2] at hrest
  have e1 : (((s.setTop g).pushFrame (.throwing a)).setVm vm').setFrames (.java { g with pc := pc, stack := [.ref a] } :: s.frames.tail) = (s.setVm vm').setFrames (.java { g with pc := pc, stack := [.ref a] } :: r) := by
    have e2 : ((s.setTop g).pushFrame (.throwing a)).setFrames (.java { g with pc := pc, stack := [.ref a] } :: s.frames.tail) = s.setFrames (.java { g with pc := pc, stack := [.ref a] } :: r) := by
      rw [State.pushFrame, State.setFrames_setFrames, State.setTop_of_frames _ hr, State.setFrames_setFrames, hr]; rfl
    exact congrArg (fun z : State => z.setVm vm') e2
  rw [e1]
  exact hrest
/-- a walk begun anew: from the state as it stands -/
def th_s (s T : State) (m : MethodId) (args : Array Value) (below : List Frame) : State := (T.setVm s.vm).setFrames (.invoking m args :: below)
section TH
variable {p : Program} {l : Launch} {e : Env} {R : Room} {s : State} {m : MethodId} {args : Array Value} {below : List Frame} {meth : Method} {c : Code} {T : State} {locs : List Loc} {cells slots : Nat}
theorem th_cur (X : Stand p l e R s m args below meth c T locs cells slots) : T.cur < T.threads.size := by
  obtain ⟨g₀, hfr⟩ := X.frames_eq
  exact State.cur_lt_of_frames hfr
theorem th_root (X : Stand p l e R s m args below meth c T locs cells slots) {k n : Nat} (hk : cells + k ≤ R.cells) (hn : slots + n ≤ R.slots) : Stand p l e { frames := R.frames, cells := k, slots := n, locals := R.locals } (th_s s T m args below) m args below meth c T [] 0 0 := by
  have hcur := th_cur X
  have hfr : (th_s s T m args below).frames = .invoking m args :: below := State.frames_setFrames _ hcur
  have hlim : e.platform.stackLimits (th_s s T m args below).me = e.platform.stackLimits s.me := (State.stackLimits_setFrames _ _ _).trans X.limits
  have hby : (th_s s T m args below).me.stackBytes = s.me.stackBytes := (State.stackBytes_setFrames _ _).trans X.bytes
  have hloc : (th_s s T m args below).localsInUse = s.localsInUse := by
    unfold State.localsInUse
    rw [hfr, X.frames]
    rfl
  refine ⟨X.admits, X.cas, X.clock, hfr, ?_, ?_, X.method, X.code, X.here, X.tail, State.WarmedH.of_rootvm rfl X.warmed, (State.stackLimits_setFrames _ (T.setVm s.vm) _).symm, (State.stackBytes_setFrames (T.setVm s.vm) _).symm, ?_⟩
  · have hr := X.room
    have h1 := X.heapSize
    have h2 := X.used
    have hb : (th_s s T m args below).slotsTrue = true := X.book
    simp only [State.hasRoom, Bool.and_eq_true, decide_eq_true_eq] at hr ⊢
    rw [hloc, hlim, hby, hfr]
    rw [X.frames] at hr
    refine ⟨⟨⟨⟨hr.1.1.1.1, hr.1.1.1.2⟩, ?_⟩, ?_⟩, hb⟩
    · show T.heap.size + k ≤ _
      have := hr.1.1.2
      omega
    · show T.slotsUsed + n ≤ _
      have := hr.1.2
      omega
  · have h := X.hears
    unfold State.hears at h ⊢
    exact h
  · obtain ⟨t, ht, -⟩ := State.frames_cons hfr
    have h := (State.sameButNew.refl (th_s s T m args below) ht).setFrames T.frames (State.cur_lt_of_frames hfr)
    obtain ⟨g₀, hf0⟩ := X.frames_eq
    obtain ⟨t2, ht2, -⟩ := State.frames_cons hf0
    have e1 : (th_s s T m args below).setFrames T.frames = T.setVm s.vm := by
      unfold th_s
      rw [State.setFrames_setFrames]
      exact State.setFrames_self (s := T.setVm s.vm) ht2
    rw [e1] at h
    exact h
/-- what such a walk's end says of the old cells -/
theorem th_old {s' U : State} {k n : Nat} (h : s'.sameButNew ({ U with vm := s'.vm } : State) [] k n) : ∀ q : Nat, q < s'.heap.size → U.heap[q]? = s'.heap[q]? := by
  intro q hq
  have hc : s'.heap[q]? = some s'.heap[q] := Array.getElem?_eq_getElem hq
  obtain ⟨c', h1, h2, h3, h4⟩ := h.2.2.2.2.2 q _ hc
  have h1 : U.heap[q]? = some c' := h1
  rw [h1, hc, h2]
  have e : c'.slots = s'.heap[q].slots := by
    apply Array.ext_getElem?
    intro i
    exact h4 i (by simp)
  rw [e]
theorem th_same (X : Stand p l e R s m args below meth c T locs cells slots) {U : State} {k n : Nat} (h : (th_s s T m args below).sameButNew ({ U with vm := s.vm } : State) [] k n) : s.sameButNew ({ U with vm := s.vm } : State) locs (cells + k) (slots + n) := by
  obtain ⟨e1, q⟩ := h
  have h2 : (T.setVm s.vm).sameButNew ({ U with vm := s.vm } : State) [] k n := by
    refine ⟨?_, q⟩
    unfold th_s at e1
    rw [State.setFrames_setFrames] at e1
    exact e1
  have h3 := X.same.trans h2
  rw [List.append_nil] at h3
  exact h3
/-- a new exception, made and thrown, by a method that does not catch it -/
theorem th_thr (X : Stand p l e R s m args below meth c T locs cells slots) (hexec : p.tables.exec = Jvm.exec) (htr : e.platform.stackTraces = false) {own C tx : String} {names : List String} {ix ik ic q pc : Nat} {ls : Array Slot}
    (hown : s.vm.findClass own = some m.cls) (hcls : Bundle.fit C = true) (hnames : ∀ n ∈ names, Bundle.fit n = true)
    (hlink : (Cond.classLink own ix C).before args (th_s s T m args below) = true) (hini : (Cond.initialized C).before args (th_s s T m args below) = true)
    (hat : ∀ a ∈ Bundle.ownAtoms own ic C names, a.before args (th_s s T m args below) = true)
    (hs1 : (Cond.stringRef own ik tx).before #[] (th_s s T m args below) = true) (hs2 : (Term.string own ik).eval #[] (th_s s T m args below) none [] (th_s s T m args below) = some (.ref q))
    (hsize : ls.size = c.maxLocals) (hd0 : decode c.code pc = .ok (.new ix, 3)) (hd3 : decode c.code (pc + 3) = .ok (.dup, 1)) (hd4 : decode c.code (pc + 4) = .ok (.ldc ik, 2)) (hd6 : decode c.code (pc + 6) = .ok (.invokespecial ic, 3)) (hd9 : decode c.code (pc + 9) = .ok (.athrow, 1))
    (hout : ∀ x ∈ c.exceptionTable.toList, covers x (pc + 9) = false) (hk : cells + 1 ≤ R.cells) (hn : slots + 6 ≤ R.slots) (hRf : names.length + 3 < R.frames) (hRl : 1 + (13 * (names.length + 1) + 42) ≤ R.locals) (hlocks : meth.locks = false) :
    ∃ U : State, Steps p.tables e below (T.setTop { method := m, pc := pc, locals := ls, stack := [], locked := none }) U ∧ U.status = .running ∧ Ended U below (.threw T.heap.size) ∧ s.WarmedH U.vm ∧ (∀ q : Nat, q < T.heap.size → U.heap[q]? = T.heap[q]?) ∧ T.heap.size < U.heap.size ∧ s.sameButNew ({ U with vm := s.vm } : State) locs (cells + 1) (slots + 6) ∧
      ∃ ce : Cell, U.heap[T.heap.size]? = some ce ∧ ce.vm = .none ∧ s.vm.findClass C = some ce.cls := by
  have X' := th_root X hk hn
  have hheap : (th_s s T m args below).heap = T.heap := rfl
  have hown' : (th_s s T m args below).vm.findClass own = some m.cls := hown
  obtain ⟨vm₁, cX, kX, hfX, hkX, -, -, X₁, st1⟩ := X'.newCold hexec hown' hlink (hat (.instantiable C 6) (by simp [Bundle.ownAtoms])) hini
    (g := { method := m, pc := pc, locals := ls, stack := [], locked := none }) rfl hd0 (Nat.le_refl 1) (Nat.le_refl 6)
  generalize hT : (T.setVm vm₁).pushCell { cls := cX, slots := kX.instanceTypes.map defaultValue, vm := .none } = T₁ at X₁ st1
  have hcellA : T₁.heap[T.heap.size]? = some (freshCell cX kX) := by rw [← hT]; exact State.heap_pushCell_size _ _
  obtain ⟨U, hsteps, hrun, hend, hW, hsame, ce, hce, K⟩ := X₁.ctorThrowS hexec htr (own := own) (cls := C) (names := names) (ic := ic) hown' hcls hnames hat (fun y hy => by cases hy) hfX hkX hcellA (by rw [hheap]; exact Nat.le_refl _) (msg := .ref q) rfl
    (g := { method := m, pc := pc + 6, locals := ls, stack := [.ref q, .ref T.heap.size, .ref T.heap.size], locked := none }) rfl hsize rfl rfl (rest := []) rfl
    hd6 hd9 hout hRf (by simpa [JFrame.monitorRoom, Value.category] using hRl) hlocks
  refine ⟨U, ?_, hrun, hend, State.WarmedH.of_rootvm (s := th_s s T m args below) rfl hW, th_old (s' := th_s s T m args below) hsame, ?_, th_same X hsame, ce, hce, K.vm, K.cls⟩
  · refine st1 _ ?_
    show Steps p.tables e below (T₁.setTop { method := m, pc := pc + 3, locals := ls, stack := [.ref T.heap.size], locked := none }) _
    jvm_step X₁.here [X₁.here.top, hexec, hd3, Value.category]
    exact X₁.ldcString hexec hown' (text := tx) (a := q) hs1 hs2 (g := { method := m, pc := pc + 4, locals := ls, stack := [.ref T.heap.size, .ref T.heap.size], locked := none }) rfl hd4 _ hsteps
  · exact (Array.getElem?_eq_some_iff.mp hce).1
/-- the same with a wide ldc -/
theorem th_thrW (X : Stand p l e R s m args below meth c T locs cells slots) (hexec : p.tables.exec = Jvm.exec) (htr : e.platform.stackTraces = false) {own C tx : String} {names : List String} {ix ik ic q pc : Nat} {ls : Array Slot}
    (hown : s.vm.findClass own = some m.cls) (hcls : Bundle.fit C = true) (hnames : ∀ n ∈ names, Bundle.fit n = true)
    (hlink : (Cond.classLink own ix C).before args (th_s s T m args below) = true) (hini : (Cond.initialized C).before args (th_s s T m args below) = true)
    (hat : ∀ a ∈ Bundle.ownAtoms own ic C names, a.before args (th_s s T m args below) = true)
    (hs1 : (Cond.stringRef own ik tx).before #[] (th_s s T m args below) = true) (hs2 : (Term.string own ik).eval #[] (th_s s T m args below) none [] (th_s s T m args below) = some (.ref q))
    (hsize : ls.size = c.maxLocals) (hd0 : decode c.code pc = .ok (.new ix, 3)) (hd3 : decode c.code (pc + 3) = .ok (.dup, 1)) (hd4 : decode c.code (pc + 4) = .ok (.ldc_w ik, 3)) (hd6 : decode c.code (pc + 7) = .ok (.invokespecial ic, 3)) (hd9 : decode c.code (pc + 10) = .ok (.athrow, 1))
    (hout : ∀ x ∈ c.exceptionTable.toList, covers x (pc + 10) = false) (hk : cells + 1 ≤ R.cells) (hn : slots + 6 ≤ R.slots) (hRf : names.length + 3 < R.frames) (hRl : 1 + (13 * (names.length + 1) + 42) ≤ R.locals) (hlocks : meth.locks = false) :
    ∃ U : State, Steps p.tables e below (T.setTop { method := m, pc := pc, locals := ls, stack := [], locked := none }) U ∧ U.status = .running ∧ Ended U below (.threw T.heap.size) ∧ s.WarmedH U.vm ∧ (∀ q : Nat, q < T.heap.size → U.heap[q]? = T.heap[q]?) ∧ T.heap.size < U.heap.size ∧ s.sameButNew ({ U with vm := s.vm } : State) locs (cells + 1) (slots + 6) ∧
      ∃ ce : Cell, U.heap[T.heap.size]? = some ce ∧ ce.vm = .none ∧ s.vm.findClass C = some ce.cls := by
  have X' := th_root X hk hn
  have hheap : (th_s s T m args below).heap = T.heap := rfl
  have hown' : (th_s s T m args below).vm.findClass own = some m.cls := hown
  obtain ⟨vm₁, cX, kX, hfX, hkX, -, -, X₁, st1⟩ := X'.newCold hexec hown' hlink (hat (.instantiable C 6) (by simp [Bundle.ownAtoms])) hini
    (g := { method := m, pc := pc, locals := ls, stack := [], locked := none }) rfl hd0 (Nat.le_refl 1) (Nat.le_refl 6)
  generalize hT : (T.setVm vm₁).pushCell { cls := cX, slots := kX.instanceTypes.map defaultValue, vm := .none } = T₁ at X₁ st1
  have hcellA : T₁.heap[T.heap.size]? = some (freshCell cX kX) := by rw [← hT]; exact State.heap_pushCell_size _ _
  obtain ⟨U, hsteps, hrun, hend, hW, hsame, ce, hce, K⟩ := X₁.ctorThrowS hexec htr (own := own) (cls := C) (names := names) (ic := ic) hown' hcls hnames hat (fun y hy => by cases hy) hfX hkX hcellA (by rw [hheap]; exact Nat.le_refl _) (msg := .ref q) rfl
    (g := { method := m, pc := pc + 7, locals := ls, stack := [.ref q, .ref T.heap.size, .ref T.heap.size], locked := none }) rfl hsize rfl rfl (rest := []) rfl
    hd6 hd9 hout hRf (by simpa [JFrame.monitorRoom, Value.category] using hRl) hlocks
  refine ⟨U, ?_, hrun, hend, State.WarmedH.of_rootvm (s := th_s s T m args below) rfl hW, th_old (s' := th_s s T m args below) hsame, ?_, th_same X hsame, ce, hce, K.vm, K.cls⟩
  · refine st1 _ ?_
    show Steps p.tables e below (T₁.setTop { method := m, pc := pc + 3, locals := ls, stack := [.ref T.heap.size], locked := none }) _
    jvm_step X₁.here [X₁.here.top, hexec, hd3, Value.category]
    exact X₁.ldcStringW hexec hown' (text := tx) (a := q) hs1 hs2 (g := { method := m, pc := pc + 4, locals := ls, stack := [.ref T.heap.size, .ref T.heap.size], locked := none }) rfl hd4 _ hsteps
  · exact (Array.getElem?_eq_some_iff.mp hce).1
/-- a callee that throws: the walk goes on with the note laid over the caller's frame -/
theorem th_callV (X : Stand p l e R s m args below meth c T locs cells slots) (hexec : p.tables.exec = Jvm.exec) {own C : String} {index : Nat} {y : MethodName} {bytes : ByteArray} {maxL : Nat} {ret : Option FieldType} {ws : List Cond} {rm : Room} {P : Array Value → State → Prop} {Q : Array Value → State → Outcome → State → Prop}
    (hM : MetFree l y (headSpec ws rm) P (fun _ _ _ _ _ => True) Q) (hfr : rm.frames + 1 ≤ R.frames) (hlo : 8 + (maxL + 11) + rm.locals ≤ R.locals) (hc1 : cells + rm.cells ≤ R.cells) (hc2 : slots + rm.slots ≤ R.slots)
    (hws : ∀ w ∈ ws, ∀ (a' : Array Value) (U : State), s.WarmedH U.vm → w.before a' U = true)
    (hown : s.vm.findClass own = some m.cls) (hlink : (Cond.methodLink own index y).before args s = true) (hinst : (Cond.instanceMethod y).before args s = true) (hsel : (Cond.selects C y y).before args s = true)
    (hcode : (Cond.code y bytes maxL ret).before args s = true) (hini : (Cond.initialized y.cls).before args s = true) (hy : y.cls ≠ "java/lang/invoke/MethodHandle" ∧ y.cls ≠ "java/lang/invoke/VarHandle")
    {b : Addr} {cellB : Cell} (hcell : T.heap[b]? = some cellB) (hobj : cellB.vm.isStatics = false) (hcls : s.vm.findClass C = some cellB.cls)
    {g : JFrame} (hg : g.method = m) (hsize : g.locals.size = c.maxLocals) {argsL rest : List Value} (hlen : ∀ sig, parseMethodDescriptor y.desc = some sig → argsL.length = sig.parameters.length)
    (hstack : g.stack = argsL.reverse ++ .ref b :: rest) (hW : 2 * g.monitorRoom + (rest.map fun v => v.category).sum ≤ 8) (hdg : decode c.code g.pc = .ok (.invokevirtual index, 3))
    (hP : ∀ U : State, U.heap = T.heap → s.WarmedH U.vm → P (Value.ref b :: argsL).toArray U) (hbl : FrameBlind P)
    (hQ : ∀ st o t, Q (Value.ref b :: argsL).toArray st o t → ∃ (x : Addr) (L : List Loc), o = .threw x ∧ st.WarmedH t.vm ∧ st.sameButNew ({ t with vm := st.vm } : State) L rm.cells rm.slots) :
    ∃ (x : Addr) (st t T' : State) (L : List Loc), st.heap = T.heap ∧ s.WarmedH st.vm ∧ Stand p l e R s m args below meth c T' (locs ++ L) (cells + rm.cells) (slots + rm.slots) ∧ T'.heap = t.heap ∧ T'.vm = t.vm ∧ Q (Value.ref b :: argsL).toArray st (.threw x) t ∧ st.sameButNew ({ t with vm := st.vm } : State) L rm.cells rm.slots ∧
      ∀ target, Steps p.tables e below ((T'.setTop { g with stack := rest }).pushFrame (.throwing x)) target → Steps p.tables e below (T.setTop g) target := by
  obtain ⟨mk, methM, hnamed, hmethM, hstM, habM⟩ := Cond.instanceMethod_spec hinst
  obtain ⟨methM', cM, hmethM', hcM, -, hlM, -, -, -, hsigM⟩ := Cond.code_spec hnamed hcode
  cases hmethM.symm.trans hmethM'
  obtain ⟨c2, r2, m2, q1, q2, q3, q4, kP, hkP, hkPi⟩ := Cond.selects_spec hsel
  cases hcls.symm.trans q1
  cases (State.methodFound?_of_named hnamed hy).symm.trans q2
  cases hnamed.symm.trans q3
  have hselP : selectMethod e.platform s.vm cellB.cls mk = .method mk := by rw [Launch.admits_selectMethod X.admits]; exact q4
  obtain ⟨vm₁, X₁, hstep₁⟩ := X.invokevirtual hexec hown hlink hnamed hmethM hstM hkP hkPi hy (a := b) (cell := cellB) hcell
    (fun z h => by rw [h] at hobj; cases hobj) hselP hmethM habM hkP hkPi (g := g) hg (argsL := argsL) (rest := rest) (hlen _ hsigM) hstack hdg
  have hW₁ := X₁.warmed
  have hg1 : ({ g with stack := rest } : JFrame).method = m := hg
  have hA : At (T.setVm vm₁) ({ g with stack := rest } : JFrame).method c below := by rw [hg1]; exact X₁.here
  have hm1 : (T.setVm vm₁).vm.method? mk = some methM := by rw [hW₁.alike.method?]; exact hmethM
  obtain ⟨kY, hkY, -⟩ := className_of_methodNamed (X₁.named hnamed)
  have hinitY : kY.init = .initialized := Cond.initialized_spec (findClass_of_methodNamed (X₁.named hnamed)) hkY (word_at hW₁ (Or.inl (by first | rfl | simp [Cond.onTables, Cond.keeps, Cond.steady])) hini : (Cond.initialized y.cls).before #[] (T.setVm vm₁) = true)
  have happ : (headSpec ws rm).appliesLoose y e.platform ((T.setVm vm₁).calling { g with stack := rest } mk (Value.ref b :: argsL).toArray) = true :=
    Spec.appliesLoose_calling (g := { g with stack := rest }) hA hdg (X₁.named hnamed) hkY hinitY
      (X₁.room_calling (g := { g with stack := rest }) (R' := rm) hsize hm1 hcM hfr (by rw [hlM]; show 2 * g.monitorRoom + (rest.map fun v => v.category).sum + (maxL + 11) + rm.locals ≤ R.locals; omega) hc1 hc2) (atoms_intro fun w hw => hws w hw _ _ hW₁)
  obtain ⟨mid, hmid⟩ := hA.above
  have hfrs : ((T.setVm vm₁).setTop { g with stack := rest }).frames = (.java { g with stack := rest } :: mid) ++ below := by rw [State.frames_setTop' _ hA.top, hmid]; rfl
  obtain ⟨o, s₂, hsteps, -, hend, hq⟩ := Steps.callFree hM p X.admits X.cas X.clock (acts := []) hfrs happ (hbl _ (T.setVm vm₁) { g with stack := rest } mk (hP (T.setVm vm₁) rfl hW₁)) trivial
  have hq' : Q (Value.ref b :: argsL).toArray ((T.setVm vm₁).calling { g with stack := rest } mk (Value.ref b :: argsL).toArray) o s₂ := hq
  obtain ⟨x, L, rfl, hWt, hsame⟩ := hQ _ _ _ hq'
  rw [State.frames_setTop' _ hA.top] at hend
  have htl : (T.setVm vm₁).frames.tail = below := X₁.tail
  rw [htl] at hend
  obtain ⟨T', X', hW2, hB, ht⟩ := X₁.outOfThrown hg1 hend hWt hsame
  have hT1 : T'.heap = s₂.heap := by rw [ht]; exact (Stand.throwing_heap T' _ x).symm
  have hT2 : T'.vm = s₂.vm := by rw [ht]; exact (Stand.throwing_vm T' _ x).symm
  refine ⟨x, (T.setVm vm₁).calling { g with stack := rest } mk (Value.ref b :: argsL).toArray, s₂, T', L, rfl, hW₁, X', hT1, hT2, hq', hsame, fun target h => hstep₁ _ fun acts => ?_⟩
  rw [doInvoke_state]
  rw [← ht] at h
  exact Steps.trans hsteps h
/-- a row of the table whose type links: the search goes on from warmer tables -/
theorem th_link (X : Stand p l e R s m args below meth c T locs cells slots) {own C : String} (hown : s.vm.findClass own = some m.cls) {ct : Nat} (hlink : (Cond.classLink own ct C).before args s = true) : ∃ (cC : ClassId) (vm' : Vm), s.vm.findClass C = some cC ∧ s.WarmedH vm' ∧ vm'.classReady m.cls ct cC ∧ (Jvm.resolveClass m.cls ct).Gives e.toSetting T.vm (.ok cC) vm' := by
  have hpl : e.platform.magicAccessors = ({} : Platform).magicAccessors := by rw [X.admits.platform]
  obtain ⟨cC, hfc, hcl⟩ := Cond.classLink_spec hown hlink e.platform hpl
  obtain ⟨hg₁, hwarm₁, hready₁⟩ := State.classEntry (e := e) X.warmed hcl
  exact ⟨cC, _, hfc, hwarm₁, hready₁, hg₁⟩
theorem th_sz {vm1 vm2 : Vm} (h1 : s.WarmedH vm1) (h2 : s.WarmedH vm2) : vm2.classes.size ≤ vm1.classes.size := by rw [h1.2.1, h2.2.1]; exact Nat.le_refl _
/-- caught by the first row -/
theorem th_catch1 (X : Stand p l e R s m args below meth c T locs cells slots) {own C : String} (hown : s.vm.findClass own = some m.cls) {a : Addr} {cell : Cell} {g : JFrame} (hg : g.method = m) {x : ExceptionTableEntry} {xs : List ExceptionTableEntry} (ht : c.exceptionTable.toList = x :: xs) (hx : covers x g.pc = true) (h0 : x.catchType ≠ 0)
    (hlink : (Cond.classLink own x.catchType C).before args s = true) (hcell : T.heap[a]? = some cell) (hvm : cell.vm = .none) (hcls : s.vm.findClass C = some cell.cls) (hself : s.vm.assignable cell.cls cell.cls = true) :
    ∃ vm' : Vm, Stand p l e R s m args below meth c (T.setVm vm') locs cells slots ∧ ∀ target, Steps p.tables e below ((T.setVm vm').setTop { g with pc := x.handlerPc, stack := [.ref a] }) target → Steps p.tables e below ((T.setTop g).pushFrame (.throwing a)) target := by
  obtain ⟨cC, vm', h1, h2, h3, h4⟩ := th_link X hown hlink
  cases hcls.symm.trans h1
  have X' := X.noted h2
  refine ⟨vm', X', fun target hrest => ?_⟩
  have hA : At T g.method c below := by rw [hg]; exact X.here
  refine th_caught (vm' := vm') hA (pc := x.handlerPc) ?_ hrest
  obtain ⟨kc, hkc⟩ := Vm.classAt_of_findClass hcls
  obtain ⟨kc', hkc', -⟩ := h2.alike.2.2 _ _ hkc
  have hvm0 : ((T.setTop g).pushFrame (.throwing a)).vm = T.vm := Stand.throwing_vm T g a
  have hhp0 : ((T.setTop g).pushFrame (.throwing a)).heap = T.heap := Stand.throwing_heap T g a
  intro Q E d acts
  rw [W.findHandler_eq (meth := meth) (code := c) (by rw [hvm0, hg]; exact X.method') X.code, ht,
    th_go (vm' := vm') hx h0 (by rw [hg, hvm0]; exact h4) (by rw [hg]; exact h3) (by rw [hvm0]; exact th_sz X.warmed h2),
    W.findHandler_go_class hx h0 (c := cell.cls) (cell := cell) (by rw [hg]; exact h3) (by show ((T.setTop g).pushFrame (.throwing a)).heap[a]? = _; rw [hhp0]; exact hcell) (fun k => by rw [hvm]; intro z; cases z) ⟨kc', hkc'⟩ ⟨kc', hkc'⟩,
    if_pos (by show vm'.assignable _ _ = true; rw [h2.alike.assignable]; exact hself)]
/-- passed by the first row, caught by the second -/
theorem th_catch2 (X : Stand p l e R s m args below meth c T locs cells slots) {own C D : String} (hown : s.vm.findClass own = some m.cls) {a : Addr} {cell : Cell} {g : JFrame} (hg : g.method = m) {x x2 : ExceptionTableEntry} {xs : List ExceptionTableEntry} (ht : c.exceptionTable.toList = x :: x2 :: xs) (hx : covers x g.pc = true) (h0 : x.catchType ≠ 0) (hx2 : covers x2 g.pc = true) (h02 : x2.catchType ≠ 0)
    (hlink : (Cond.classLink own x.catchType D).before args s = true) (hlink2 : (Cond.classLink own x2.catchType C).before args s = true) (hcell : T.heap[a]? = some cell) (hvm : cell.vm = .none) (hcls : s.vm.findClass C = some cell.cls) (hself : s.vm.assignable cell.cls cell.cls = true)
    (hno : ∃ cc ct : ClassId, s.vm.findClass C = some cc ∧ s.vm.findClass D = some ct ∧ s.vm.assignable cc ct = false) :
    ∃ vm' : Vm, Stand p l e R s m args below meth c (T.setVm vm') locs cells slots ∧ ∀ target, Steps p.tables e below ((T.setVm vm').setTop { g with pc := x2.handlerPc, stack := [.ref a] }) target → Steps p.tables e below ((T.setTop g).pushFrame (.throwing a)) target := by
  obtain ⟨cD, vm1, h1, h2, h3, h4⟩ := th_link X hown hlink
  have X1 := X.noted h2
  obtain ⟨cC, vm', k1, k2, k3, k4⟩ := th_link X1 hown hlink2
  cases hcls.symm.trans k1
  obtain ⟨cc, ct, n1, n2, n3⟩ := hno
  cases n1.symm.trans hcls
  cases n2.symm.trans h1
  have X' := X.noted k2
  refine ⟨vm', X', fun target hrest => ?_⟩
  have hA : At T g.method c below := by rw [hg]; exact X.here
  refine th_caught (vm' := vm') hA (pc := x2.handlerPc) ?_ hrest
  obtain ⟨kc, hkc⟩ := Vm.classAt_of_findClass hcls
  obtain ⟨kc1, hkc1, -⟩ := h2.alike.2.2 _ _ hkc
  obtain ⟨kc2, hkc2, -⟩ := k2.alike.2.2 _ _ hkc
  obtain ⟨kd, hkd⟩ := Vm.classAt_of_findClass h1
  obtain ⟨kd1, hkd1, -⟩ := h2.alike.2.2 _ _ hkd
  have hvm0 : ((T.setTop g).pushFrame (.throwing a)).vm = T.vm := Stand.throwing_vm T g a
  have hhp0 : ((T.setTop g).pushFrame (.throwing a)).heap = T.heap := Stand.throwing_heap T g a
  intro Q E d acts
  rw [W.findHandler_eq (meth := meth) (code := c) (by rw [hvm0, hg]; exact X.method') X.code, ht,
    th_go (vm' := vm1) hx h0 (by rw [hg, hvm0]; exact h4) (by rw [hg]; exact h3) (by rw [hvm0]; exact th_sz X.warmed h2),
    W.findHandler_go_class hx h0 (c := cD) (cell := cell) (by rw [hg]; exact h3) (by show ((T.setTop g).pushFrame (.throwing a)).heap[a]? = _; rw [hhp0]; exact hcell) (fun k => by rw [hvm]; intro z; cases z) ⟨kc1, hkc1⟩ ⟨kd1, hkd1⟩,
    if_neg (by show ¬ vm1.assignable _ _ = true; rw [h2.alike.assignable, n3]; decide),
    th_go (vm' := vm') hx2 h02 (by rw [hg]; exact k4) (by rw [hg]; exact k3) (by exact th_sz h2 k2),
    W.findHandler_go_class hx2 h02 (c := cell.cls) (cell := cell) (by rw [hg]; exact k3) (by show ((T.setTop g).pushFrame (.throwing a)).heap[a]? = _; rw [hhp0]; exact hcell) (fun k => by rw [hvm]; intro z; cases z) ⟨kc2, hkc2⟩ ⟨kc2, hkc2⟩,
    if_pos (by show vm'.assignable _ _ = true; rw [k2.alike.assignable]; exact hself)]
  exact Iff.rfl
/-- a callee with handlers that returns: as back_of and callS have it for one without -/
theorem th_back {sargs : Array Value} {y : MethodName} {len V : Nat} {ws : List Cond} {rm : Room} {Pc : Array Value → State → Prop} {Qc : Array Value → State → Outcome → State → Prop} {mc ms : Nat} {free : Addr → Prop} {bytes : ByteArray} {maxL : Nat} {ret : Option FieldType} {handlers : List (Nat × Nat × Nat × Nat)}
    (hM : Met l y ws rm Pc Qc mc ms free) (hblind : FrameBlind Pc) (hrc : rm.cells = mc) (hrs : rm.slots = ms)
    (hframes : rm.frames + 1 ≤ R.frames) (hlocals : V + (maxL + 11) + rm.locals ≤ R.locals)
    (hws : ∀ w ∈ ws, ∀ a' U, s.WarmedH U.vm → w.before a' U = true) (hcode : Cond.codeWith y bytes maxL ret handlers ∈ ws) (hinit : ∀ a' U, s.WarmedH U.vm → (Cond.initialized y.cls).before a' U = true) :
    Back l R p e below s sargs y len V (PreOf R mc ms Pc) (PostOf Qc mc ms free) := by
  refine Back.of_freeWith (handlers := handlers) (S := headSpec ws rm) (P := Pc) (K := fun _ _ _ _ _ => True) (Q := fun a st o t => Qc a st o t ∧ ∃ L, FrameEnd st o t L mc ms ∧ ∀ q ∈ L, free q.base) (bytes := bytes) (maxL := maxL) (ret := ret)
    (E := fun a st o t L k n => k = mc ∧ n = ms ∧ ∀ q ∈ L, free q.base) hM hframes hlocals ?_ ?_ (fun _ _ _ _ _ _ _ _ _ => trivial) ?_ ?_
  · intro m meth c A a X hp
    exact ⟨atoms_intro fun w hw => hws w hw _ _ X.warmed, hws _ hcode _ _ X.warmed, hinit _ _ X.warmed, by rw [show (headSpec ws rm).room.cells = mc from hrc]; exact hp.1, by rw [show (headSpec ws rm).room.slots = ms from hrs]; exact hp.2.1⟩
  · intro m meth c A a g mk X hp
    exact hblind _ _ _ _ hp.2.2
  · intro a st o t ⟨hq, L, hF, hL⟩
    exact ⟨L, mc, ms, hF, rfl, rfl, hL⟩
  · intro m meth c A a g mk v t L k n X hp hq hF ⟨e1, e2, hL⟩
    subst e1; subst e2
    exact ⟨g, mk, t, L, rfl, rfl, hq.1, rfl, hL, rfl, rfl⟩
theorem th_callS (X : Stand p l e R s m args below meth c T locs cells slots) (hexec : p.tables.exec = Jvm.exec) {own : String} {index : Nat} {y : MethodName} {bytes : ByteArray} {maxL : Nat} {ret : Option FieldType} {handlers : List (Nat × Nat × Nat × Nat)}
    (hown : s.vm.findClass own = some m.cls) (hlink : (Cond.methodLink own index y).before args s = true) (hstat : (Cond.static y).before args s = true) (hinit : (Cond.initialized y.cls).before args s = true)
    (hcode : (Cond.codeWith y bytes maxL ret handlers).before args s = true) (hy : y.cls ≠ "java/lang/invoke/MethodHandle" ∧ y.cls ≠ "java/lang/invoke/VarHandle")
    {V : Nat} {Pre : Pt → Array Value → Prop} {Post : Pt → Array Value → Option Value → Pt → Prop} (hK : Back l R p e below s args y 3 V Pre Post)
    {g : JFrame} (hg : g.method = m) (hsize : g.locals.size = c.maxLocals) {argsL rest : List Value} (hlen : ∀ sig, parseMethodDescriptor y.desc = some sig → argsL.length = sig.parameters.length)
    (hstack : g.stack = argsL.reverse ++ rest) (hW : 2 * g.monitorRoom + (rest.map fun v => v.category).sum ≤ V) (hdg : decode c.code g.pc = .ok (.invokestatic index, 3))
    (hpre : ∀ vm₁, s.WarmedH vm₁ → Pre ⟨T.setVm vm₁, locs, cells, slots⟩ argsL.toArray) :
    ∃ (v : Option Value) (vm₁ : Vm) (B : Pt), s.WarmedH vm₁ ∧ Stand p l e R s m args below meth c B.U B.locs B.cells B.slots ∧ Post ⟨T.setVm vm₁, locs, cells, slots⟩ argsL.toArray v B ∧
      ∀ target, Steps p.tables e below (B.U.setTop { g with pc := g.pc + 3, stack := v.toList ++ rest }) target → Steps p.tables e below (T.setTop g) target := by
  obtain ⟨mk, methM, cM, hnamed, hmethM, -, -, -, -, -, -, hsigM⟩ := Cond.codeWith_spec hcode
  have hstatic : methM.isStatic = true := Cond.static_spec hnamed hmethM hstat
  obtain ⟨kP, hkP, -⟩ := className_of_methodNamed hnamed
  have hinitP : kP.init = .initialized := Cond.initialized_spec (findClass_of_methodNamed hnamed) hkP hinit
  obtain ⟨vm₁, X₁, hstep₁⟩ := X.invokestatic hexec hown hlink hnamed hmethM hstatic hkP hinitP hy (g := g) hg (argsL := argsL) (rest := rest) (hlen _ hsigM) hstack hdg
  obtain ⟨v, B, X', hpost, hsteps⟩ := hK m meth c ⟨T.setVm vm₁, locs, cells, slots⟩ { g with stack := rest } (.invokestatic index) mk argsL.toArray X₁ hg hsize hdg hW (X₁.named hnamed) (hpre vm₁ X₁.warmed)
  exact ⟨v, vm₁, B, X₁.warmed, X', hpost, fun target h => hstep₁ _ fun acts => by rw [doInvoke_state]; exact hsteps.trans h⟩
end TH
