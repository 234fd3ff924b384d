/-! CONTRACTS over the simple heap. dk_N: the nest mates' links; dk_Z: what lies below our cells and is read (statics). -/
def dk_E (G : dk_G) (U : State) : Prop := dk_K G U ∧ dk_N U ∧ dk_Z G U U.heap ∧ G.2.2.1 ≤ U.heap.size
def dk_W (G : dk_G) (w : dk_H) (U : State) : Prop := dk_E G U ∧ dk_P G w U.heap
theorem dk_E.moved {G : dk_G} {s U : State} {locs : List Loc} (h : dk_E G s) (hS : dk_S G s.heap U.heap locs) (hW : s.WarmedH U.vm) : dk_E G U :=
  ⟨va_K.moved hW.alike h.1, h.2.1.warm hW, dk_Z.moved hS hW h.2.2.1, Nat.le_trans h.2.2.2 hS.1⟩
theorem dk_blind {G : dk_G} {w : dk_H} {av : List Value} : FrameBlind (va_Pc av (dk_W G w)) := by
  intro a U g mk q
  obtain ⟨q0, ⟨q1, q2, q3, q4⟩, q5⟩ := q
  exact ⟨q0, ⟨va_K.moved (u := U) (U := U.calling g mk a) (Vm.Alike.refl U.vm) q1, q2.same rfl, dk_Z.same rfl rfl q3, q4⟩, q5⟩
abbrev dk_Mi (l : Launch) (y : MethodName) (ws : List Cond) (rm : Room) (G : dk_G) (w : dk_H) (av : List Value) (post : Int32 → dk_H → Prop) (mc ms : Nat) : Prop := Met l y ws rm (va_Pc av (dk_W G w)) (va_Qi post (fun w t => dk_P G w t.heap) (dk_A G)) mc ms (dk_A G)
abbrev dk_Ml (l : Launch) (y : MethodName) (ws : List Cond) (rm : Room) (G : dk_G) (w : dk_H) (av : List Value) (post : Int64 → dk_H → Prop) (mc ms : Nat) : Prop := Met l y ws rm (va_Pc av (dk_W G w)) (va_Ql post (fun w t => dk_P G w t.heap) (dk_A G)) mc ms (dk_A G)
abbrev dk_Mv (l : Launch) (y : MethodName) (ws : List Cond) (rm : Room) (G : dk_G) (w : dk_H) (av : List Value) (post : dk_H → Prop) (mc ms : Nat) : Prop := Met l y ws rm (va_Pc av (dk_W G w)) (va_Qv post (fun w t => dk_P G w t.heap) (dk_A G)) mc ms (dk_A G)
abbrev dk_Mq (l : Launch) (y : MethodName) (ws : List Cond) (rm : Room) (G : dk_G) (w : dk_H) (av : List Value) (post : Option Nat → dk_H → Prop) (mc ms : Nat) : Prop := Met l y ws rm (va_Pc av (dk_W G w)) (va_Qq post (fun w t => dk_P G w t.heap) (dk_A G)) mc ms (dk_A G)
/-- what a walk has at hand -/
def dk_C (p : Program) (s : State) (m : MethodId) (args : Array Value) (meth : Method) (c : Code) (G : dk_G) (y : MethodName) (cc : ByteArray) (maxL : Nat) (ret : Option FieldType) : Prop :=
  p.tables.exec = Jvm.exec ∧ c.code = cc ∧ meth.sig.returnType = ret ∧ c.maxLocals = maxL ∧ meth.locks = false ∧ s.vm.findClass y.cls = some m.cls ∧ meth.name = y.name ∧ (∀ w ∈ wd_all, w.before args s = true) ∧ dk_E G s
/-- a contract by the walk of its body -/
theorem dk_enter {l : Launch} {y : MethodName} {rm : Room} {G : dk_G} {w : dk_H} {av : List Value} {Qc : Array Value → State → Outcome → State → Prop} {mc ms : Nat} {cc : ByteArray} {maxL : Nat} {ret : Option FieldType} {lv : List (Nat × Value)}
    (hy : plainName y.cls = true) (hlen : (lg_sl av).length ≤ maxL) (hlv : lv_args 0 av = lv)
    (body : ∀ (p : Program) (e : Env) (s : State) (m : MethodId) (args : Array Value) (below : List Frame) (meth : Method) (c : Code) (ls : Array Slot) (Q : State → Prop), Q = MQ below Qc args s mc ms (dk_A G) → dk_C p s m args meth c G y cc maxL ret → dk_P G w s.heap → dk_S G s.heap s.heap [] → lv_has ls maxL lv →
      W p l e rm s m args below meth c s.heap [] 0 0 Q (F0 m 0 ls [])) :
    Met l y (wd_c y cc maxL ret) rm (va_Pc av (dk_W G w)) Qc mc ms (dk_A G) := by
  refine Met.ofW (cc := cc) (maxL := maxL) (ret := ret) hy rfl ?_
  intro p e s m args below meth c s₁ B hml hv
  obtain ⟨rfl, hE, hP⟩ := hv
  have hts := fun w h => atoms_spec (ws := wd_c y cc maxL ret) B.pre w (List.mem_cons_of_mem _ h)
  have hl := lv_entry av (n := maxL) hlen
  rw [lg_entry_eq]
  rw [hlv] at hl
  exact body p e s m _ below meth c _ _ rfl ⟨B.exec, B.bytes, B.returns, hml, B.notSynchronized, findClass_of_methodNamed B.named, (name_of_methodNamed B.named B.method).1, hts, hE⟩ hP va_S.rf hl
theorem dk_recv {G : dk_G} {s : State} {H : Heap} {w : dk_H} {b t ci : Nat} {fs : List Value} (q : vw_C) (hK : dk_K G s) (hP : dk_P G w H) (he : w b = some (t, .inr (ci, fs))) (hc : vwCl[ci]? = some q) : ∃ cell : Cell, H[b]? = some cell ∧ cell.vm.isStatics = false ∧ s.vm.findClass q.1 = some cell.cls :=
  va_recv hK (hP.one he) hc (q0 := 0) rfl
theorem dk_preS {G : dk_G} {s : State} {H : Heap} {w : dk_H} {locs : List Loc} {av : List Value} (hE : dk_E G s) (hP : dk_P G w H) (hS : dk_S G s.heap H locs) : PreS s H (va_Pc av (dk_W G w)) av :=
  ⟨dk_blind, fun U hU hW => ⟨rfl, hE.moved (by rw [hU]; exact hS) hW, by rw [hU]; exact hP⟩⟩
theorem dk_preV {G : dk_G} {s : State} {H : Heap} {w : dk_H} {locs : List Loc} {b t ci : Nat} {fs : List Value} {As : List Value} (q : vw_C) (hE : dk_E G s) (hP : dk_P G w H) (hS : dk_S G s.heap H locs) (he : w b = some (t, .inr (ci, fs))) (hc : vwCl[ci]? = some q) : PreV s H q.1 b (va_Pc (.ref b :: As) (dk_W G w)) As :=
  ⟨dk_blind, dk_recv q hE.1 hP he hc, fun U hU hW => ⟨rfl, hE.moved (by rw [hU]; exact hS) hW, by rw [hU]; exact hP⟩⟩
section DKC
variable {p : Program} {l : Launch} {e : Env} {R : Room} {s : State} {m : MethodId} {args : Array Value} {below : List Frame} {meth : Method} {c : Code} {H : Heap} {locs : List Loc} {cells slots : Nat} {Q : State → Prop}
variable {cc : ByteArray} {pc : Nat} {ls : Array Slot} {rest st0 : List Value} {G : dk_G} {w : dk_H} {H0 : Heap} {mc ms : Nat} {a : Array Value}
theorem dk_calli {post : Int32 → dk_H → Prop} (hr : va_Run p l e R s m args below meth c H locs cells slots mc ms (F0 m pc ls st0) rest (va_Qi post (fun w t => dk_P G w t.heap) (dk_A G) a) (dk_A G)) (hS : dk_S G H0 H locs)
    (kk : ∀ (r : Int32) (w1 : dk_H) (H1 : Heap) (locs1 : List Loc), post r w1 → dk_P G w1 H1 → dk_S G H0 H1 locs1 → W p l e R s m args below meth c H1 locs1 (cells + mc) (slots + ms) Q (F0 m (pc + 3) ls (.int r :: rest))) : W p l e R s m args below meth c H locs cells slots Q (F0 m pc ls st0) :=
  va_calli hr hS (fun _ _ h => h) (fun _ h => h) (fun r u t H1 locs1 ht _ hp hB _ _ hS1 => kk r u H1 locs1 hp (by rw [← ht]; exact hB) hS1)
theorem dk_calll {post : Int64 → dk_H → Prop} (hr : va_Run p l e R s m args below meth c H locs cells slots mc ms (F0 m pc ls st0) rest (va_Ql post (fun w t => dk_P G w t.heap) (dk_A G) a) (dk_A G)) (hS : dk_S G H0 H locs)
    (kk : ∀ (r : Int64) (w1 : dk_H) (H1 : Heap) (locs1 : List Loc), post r w1 → dk_P G w1 H1 → dk_S G H0 H1 locs1 → W p l e R s m args below meth c H1 locs1 (cells + mc) (slots + ms) Q (F0 m (pc + 3) ls (.long r :: rest))) : W p l e R s m args below meth c H locs cells slots Q (F0 m pc ls st0) :=
  va_calll hr hS (fun _ _ h => h) (fun _ h => h) (fun r u t H1 locs1 ht _ hp hB _ _ hS1 => kk r u H1 locs1 hp (by rw [← ht]; exact hB) hS1)
theorem dk_callv {post : dk_H → Prop} (hr : va_Run p l e R s m args below meth c H locs cells slots mc ms (F0 m pc ls st0) rest (va_Qv post (fun w t => dk_P G w t.heap) (dk_A G) a) (dk_A G)) (hS : dk_S G H0 H locs)
    (kk : ∀ (w1 : dk_H) (H1 : Heap) (locs1 : List Loc), post w1 → dk_P G w1 H1 → dk_S G H0 H1 locs1 → W p l e R s m args below meth c H1 locs1 (cells + mc) (slots + ms) Q (F0 m (pc + 3) ls rest)) : W p l e R s m args below meth c H locs cells slots Q (F0 m pc ls st0) :=
  va_callv hr hS (fun _ _ h => h) (fun _ h => h) (fun u t H1 locs1 ht _ hp hB _ _ hS1 => kk u H1 locs1 hp (by rw [← ht]; exact hB) hS1)
theorem dk_callq {post : Option Nat → dk_H → Prop} (hr : va_Run p l e R s m args below meth c H locs cells slots mc ms (F0 m pc ls st0) rest (va_Qq post (fun w t => dk_P G w t.heap) (dk_A G) a) (dk_A G)) (hS : dk_S G H0 H locs)
    (kk : ∀ (r : Option Nat) (w1 : dk_H) (H1 : Heap) (locs1 : List Loc), post r w1 → dk_P G w1 H1 → dk_S G H0 H1 locs1 → W p l e R s m args below meth c H1 locs1 (cells + mc) (slots + ms) Q (F0 m (pc + 3) ls (va_rf r :: rest))) : W p l e R s m args below meth c H locs cells slots Q (F0 m pc ls st0) :=
  va_callq hr hS (fun _ _ h => h) (fun _ h => h) (fun r u t H1 locs1 ht _ hp hB _ _ hS1 => kk r u H1 locs1 hp (by rw [← ht]; exact hB) hS1)
/-! returns -/
theorem dk_iret {post : Int32 → dk_H → Prop} {v : Int32} (hQ : Q = MQ below (va_Qi post (fun w t => dk_P G w t.heap) (dk_A G)) args s mc ms (dk_A G)) (hx : p.tables.exec = Jvm.exec) (hb : c.code = cc) (hr : meth.sig.returnType = some .int) (hlocks : meth.locks = false) (hP : dk_P G w H) (hS : dk_S G s.heap H locs) (h1 : cells ≤ mc) (h2 : slots ≤ ms) (hpost : post v w) (hdg : decode cc pc = .ok (.ireturn, 1)) :
    W p l e R s m args below meth c H locs cells slots Q (F0 m pc ls [.int v]) := by
  subst hQ
  exact W.widen h1 h2 (W.iret (v := v) hx hb hr (fun t ht _ => ⟨⟨v, w, rfl, hpost, by show dk_P G w t.heap; rw [ht]; exact hP⟩, hS.F ht⟩) hS.2.2 hdg hlocks)
theorem dk_zret {post : Int32 → dk_H → Prop} {v : Int32} (hQ : Q = MQ below (va_Qi post (fun w t => dk_P G w t.heap) (dk_A G)) args s mc ms (dk_A G)) (hx : p.tables.exec = Jvm.exec) (hb : c.code = cc) (hr : meth.sig.returnType = some .boolean) (hlocks : meth.locks = false) (hP : dk_P G w H) (hS : dk_S G s.heap H locs) (h1 : cells ≤ mc) (h2 : slots ≤ ms) (hn : narrow .boolean (.int v) = .int v) (hpost : post v w) (hdg : decode cc pc = .ok (.ireturn, 1)) :
    W p l e R s m args below meth c H locs cells slots Q (F0 m pc ls [.int v]) := by
  subst hQ
  exact W.widen h1 h2 (W.zret (v := v) hx hb hr hn (fun t ht _ => ⟨⟨v, w, rfl, hpost, by show dk_P G w t.heap; rw [ht]; exact hP⟩, hS.F ht⟩) hS.2.2 hdg hlocks)
theorem dk_lret {post : Int64 → dk_H → Prop} {v : Int64} (hQ : Q = MQ below (va_Ql post (fun w t => dk_P G w t.heap) (dk_A G)) args s mc ms (dk_A G)) (hx : p.tables.exec = Jvm.exec) (hb : c.code = cc) (hr : meth.sig.returnType = some .long) (hlocks : meth.locks = false) (hP : dk_P G w H) (hS : dk_S G s.heap H locs) (h1 : cells ≤ mc) (h2 : slots ≤ ms) (hpost : post v w) (hdg : decode cc pc = .ok (.lreturn, 1)) :
    W p l e R s m args below meth c H locs cells slots Q (F0 m pc ls [.long v]) := by
  subst hQ
  exact W.widen h1 h2 (W.lret (v := v) hx hb hr (fun t ht _ => ⟨⟨v, w, rfl, hpost, by show dk_P G w t.heap; rw [ht]; exact hP⟩, hS.F ht⟩) hS.2.2 hdg hlocks)
theorem dk_vret {post : dk_H → Prop} (hQ : Q = MQ below (va_Qv post (fun w t => dk_P G w t.heap) (dk_A G)) args s mc ms (dk_A G)) (hx : p.tables.exec = Jvm.exec) (hb : c.code = cc) (hr : meth.sig.returnType = none) (hlocks : meth.locks = false) (hP : dk_P G w H) (hS : dk_S G s.heap H locs) (h1 : cells ≤ mc) (h2 : slots ≤ ms) (hpost : post w) (hdg : decode cc pc = .ok (.return_, 1)) :
    W p l e R s m args below meth c H locs cells slots Q (F0 m pc ls []) := by
  subst hQ
  exact W.widen h1 h2 (W.vret hx hb hr (fun t ht _ => ⟨⟨w, rfl, hpost, by show dk_P G w t.heap; rw [ht]; exact hP⟩, hS.F ht⟩) hS.2.2 hdg hlocks)
theorem dk_aret {post : Option Nat → dk_H → Prop} {r : Option Nat} {rt : FieldType} (hQ : Q = MQ below (va_Qq post (fun w t => dk_P G w t.heap) (dk_A G)) args s mc ms (dk_A G)) (hx : p.tables.exec = Jvm.exec) (hb : c.code = cc) (hr : meth.sig.returnType = some rt) (hrt : (∃ n, rt = .object n) ∨ ∃ t, rt = .array t) (hlocks : meth.locks = false) (hP : dk_P G w H) (hS : dk_S G s.heap H locs) (h1 : cells ≤ mc) (h2 : slots ≤ ms) (hpost : post r w) (hdg : decode cc pc = .ok (.areturn, 1)) :
    W p l e R s m args below meth c H locs cells slots Q (F0 m pc ls [va_rf r]) := by
  subst hQ
  exact W.widen h1 h2 (W.aret (v := va_rf r) hx hb hr hrt (va_rf_or r) (fun t ht _ => ⟨⟨r, w, rfl, hpost, by show dk_P G w t.heap; rw [ht]; exact hP⟩, hS.F ht⟩) hS.2.2 hdg hlocks)
end DKC
