section
-- ===== PART A: goes FIRST, ahead of the names: the tables' words, and 'selects' of the private methods out of them =====
/-- a private method of a class that the tables say can be made, by its rows of tables_1 -/
def lw_okq (q : MethodName × Nat) : Prop := (q.1.cls ≠ "java/lang/invoke/MethodHandle" ∧ q.1.cls ≠ "java/lang/invoke/VarHandle") ∧ Cond.instantiable q.1.cls q.2 ∈ tables_1 ∧ Cond.privateMethod q.1 ∈ tables_1 ∧ Cond.instanceMethod q.1 ∈ tables_1
theorem lw_p0 : lw_okq (⟨"RunKeeper", "flushTableIfItHas", "(I)V"⟩, 12) := ⟨⟨by decide +kernel, by decide +kernel⟩, List.mem_of_getElem? (i := 25) (by decide +kernel), List.mem_of_getElem? (i := 153) (by decide +kernel), List.mem_of_getElem? (i := 154) (by decide +kernel)⟩
theorem lw_p1 : lw_okq (⟨"RunKeeper", "addRun", "(ILRunKeeper$Row;)V"⟩, 12) := ⟨⟨by decide +kernel, by decide +kernel⟩, List.mem_of_getElem? (i := 25) (by decide +kernel), List.mem_of_getElem? (i := 165) (by decide +kernel), List.mem_of_getElem? (i := 166) (by decide +kernel)⟩
theorem lw_p2 : lw_okq (⟨"java/util/ArrayList", "add", "(Ljava/lang/Object;[Ljava/lang/Object;I)V"⟩, 3) := ⟨⟨by decide +kernel, by decide +kernel⟩, List.mem_of_getElem? (i := 71) (by decide +kernel), List.mem_of_getElem? (i := 217) (by decide +kernel), List.mem_of_getElem? (i := 218) (by decide +kernel)⟩
theorem lw_p3 : lw_okq (⟨"java/util/ArrayList", "grow", "()[Ljava/lang/Object;"⟩, 3) := ⟨⟨by decide +kernel, by decide +kernel⟩, List.mem_of_getElem? (i := 71) (by decide +kernel), List.mem_of_getElem? (i := 221) (by decide +kernel), List.mem_of_getElem? (i := 222) (by decide +kernel)⟩
theorem lw_p4 : lw_okq (⟨"java/util/ArrayList", "grow", "(I)[Ljava/lang/Object;"⟩, 3) := ⟨⟨by decide +kernel, by decide +kernel⟩, List.mem_of_getElem? (i := 71) (by decide +kernel), List.mem_of_getElem? (i := 225) (by decide +kernel), List.mem_of_getElem? (i := 226) (by decide +kernel)⟩
theorem lw_p5 : lw_okq (⟨"RunKeeper", "dropBatch", "()V"⟩, 12) := ⟨⟨by decide +kernel, by decide +kernel⟩, List.mem_of_getElem? (i := 25) (by decide +kernel), List.mem_of_getElem? (i := 285) (by decide +kernel), List.mem_of_getElem? (i := 286) (by decide +kernel)⟩
theorem lw_p6 : lw_okq (⟨"RunKeeper", "gatherEverything", "()V"⟩, 12) := ⟨⟨by decide +kernel, by decide +kernel⟩, List.mem_of_getElem? (i := 25) (by decide +kernel), List.mem_of_getElem? (i := 293) (by decide +kernel), List.mem_of_getElem? (i := 294) (by decide +kernel)⟩
theorem lw_p7 : lw_okq (⟨"RunKeeper", "write", "(IJZ)I"⟩, 12) := ⟨⟨by decide +kernel, by decide +kernel⟩, List.mem_of_getElem? (i := 25) (by decide +kernel), List.mem_of_getElem? (i := 336) (by decide +kernel), List.mem_of_getElem? (i := 337) (by decide +kernel)⟩
theorem lw_p8 : lw_okq (⟨"java/lang/Throwable", "fillInStackTrace", "(I)Ljava/lang/Throwable;"⟩, 6) := ⟨⟨by decide +kernel, by decide +kernel⟩, List.mem_of_getElem? (i := 382) (by decide +kernel), List.mem_of_getElem? (i := 380) (by decide +kernel), List.mem_of_getElem? (i := 381) (by decide +kernel)⟩
theorem lw_p9 : lw_okq (⟨"RunKeeper", "entriesInAll", "()I"⟩, 12) := ⟨⟨by decide +kernel, by decide +kernel⟩, List.mem_of_getElem? (i := 25) (by decide +kernel), List.mem_of_getElem? (i := 416) (by decide +kernel), List.mem_of_getElem? (i := 417) (by decide +kernel)⟩
theorem lw_p10 : lw_okq (⟨"RunKeeper", "appendToTable", "(LRunKeeper$Entry;)V"⟩, 12) := ⟨⟨by decide +kernel, by decide +kernel⟩, List.mem_of_getElem? (i := 25) (by decide +kernel), List.mem_of_getElem? (i := 467) (by decide +kernel), List.mem_of_getElem? (i := 468) (by decide +kernel)⟩
theorem lw_p11 : lw_okq (⟨"RunKeeper", "mergeOnce", "()Z"⟩, 12) := ⟨⟨by decide +kernel, by decide +kernel⟩, List.mem_of_getElem? (i := 25) (by decide +kernel), List.mem_of_getElem? (i := 526) (by decide +kernel), List.mem_of_getElem? (i := 527) (by decide +kernel)⟩
theorem lw_p12 : lw_okq (⟨"RunKeeper", "leastLevelToMerge", "()I"⟩, 12) := ⟨⟨by decide +kernel, by decide +kernel⟩, List.mem_of_getElem? (i := 25) (by decide +kernel), List.mem_of_getElem? (i := 530) (by decide +kernel), List.mem_of_getElem? (i := 531) (by decide +kernel)⟩
theorem lw_p13 : lw_okq (⟨"RunKeeper", "areEmptyFrom", "(I)Z"⟩, 12) := ⟨⟨by decide +kernel, by decide +kernel⟩, List.mem_of_getElem? (i := 25) (by decide +kernel), List.mem_of_getElem? (i := 538) (by decide +kernel), List.mem_of_getElem? (i := 539) (by decide +kernel)⟩
theorem lw_p14 : lw_okq (⟨"RunKeeper", "keepWhatIsSeen", "(Z)V"⟩, 12) := ⟨⟨by decide +kernel, by decide +kernel⟩, List.mem_of_getElem? (i := 25) (by decide +kernel), List.mem_of_getElem? (i := 542) (by decide +kernel), List.mem_of_getElem? (i := 543) (by decide +kernel)⟩
theorem lw_p15 : lw_okq (⟨"RunKeeper", "isSeen", "(LRunKeeper$Entry;LRunKeeper$Entry;)Z"⟩, 12) := ⟨⟨by decide +kernel, by decide +kernel⟩, List.mem_of_getElem? (i := 25) (by decide +kernel), List.mem_of_getElem? (i := 546) (by decide +kernel), List.mem_of_getElem? (i := 547) (by decide +kernel)⟩
def lw_privs_1 : List (MethodName × Nat) := [(⟨"RunKeeper", "flushTableIfItHas", "(I)V"⟩, 12), (⟨"RunKeeper", "addRun", "(ILRunKeeper$Row;)V"⟩, 12), (⟨"java/util/ArrayList", "add", "(Ljava/lang/Object;[Ljava/lang/Object;I)V"⟩, 3), (⟨"java/util/ArrayList", "grow", "()[Ljava/lang/Object;"⟩, 3), (⟨"java/util/ArrayList", "grow", "(I)[Ljava/lang/Object;"⟩, 3), (⟨"RunKeeper", "dropBatch", "()V"⟩, 12), (⟨"RunKeeper", "gatherEverything", "()V"⟩, 12), (⟨"RunKeeper", "write", "(IJZ)I"⟩, 12), (⟨"java/lang/Throwable", "fillInStackTrace", "(I)Ljava/lang/Throwable;"⟩, 6), (⟨"RunKeeper", "entriesInAll", "()I"⟩, 12), (⟨"RunKeeper", "appendToTable", "(LRunKeeper$Entry;)V"⟩, 12), (⟨"RunKeeper", "mergeOnce", "()Z"⟩, 12), (⟨"RunKeeper", "leastLevelToMerge", "()I"⟩, 12), (⟨"RunKeeper", "areEmptyFrom", "(I)Z"⟩, 12), (⟨"RunKeeper", "keepWhatIsSeen", "(Z)V"⟩, 12), (⟨"RunKeeper", "isSeen", "(LRunKeeper$Entry;LRunKeeper$Entry;)Z"⟩, 12)]
theorem lw_r1 : ∀ q ∈ lw_privs_1, lw_okq q := List.forall_mem_cons.mpr ⟨lw_p0, List.forall_mem_cons.mpr ⟨lw_p1, List.forall_mem_cons.mpr ⟨lw_p2, List.forall_mem_cons.mpr ⟨lw_p3, List.forall_mem_cons.mpr ⟨lw_p4, List.forall_mem_cons.mpr ⟨lw_p5, List.forall_mem_cons.mpr ⟨lw_p6, List.forall_mem_cons.mpr ⟨lw_p7, List.forall_mem_cons.mpr ⟨lw_p8, List.forall_mem_cons.mpr ⟨lw_p9, List.forall_mem_cons.mpr ⟨lw_p10, List.forall_mem_cons.mpr ⟨lw_p11, List.forall_mem_cons.mpr ⟨lw_p12, List.forall_mem_cons.mpr ⟨lw_p13, List.forall_mem_cons.mpr ⟨lw_p14, List.forall_mem_cons.mpr ⟨lw_p15, fun _ h => absurd h List.not_mem_nil⟩⟩⟩⟩⟩⟩⟩⟩⟩⟩⟩⟩⟩⟩⟩⟩
theorem lw_p16 : lw_okq (⟨"RunKeeper", "requireKeyAndView", "(II)V"⟩, 12) := ⟨⟨by decide +kernel, by decide +kernel⟩, List.mem_of_getElem? (i := 25) (by decide +kernel), List.mem_of_getElem? (i := 611) (by decide +kernel), List.mem_of_getElem? (i := 612) (by decide +kernel)⟩
theorem lw_p17 : lw_okq (⟨"RunKeeper", "sequenceOf", "(I)I"⟩, 12) := ⟨⟨by decide +kernel, by decide +kernel⟩, List.mem_of_getElem? (i := 25) (by decide +kernel), List.mem_of_getElem? (i := 616) (by decide +kernel), List.mem_of_getElem? (i := 617) (by decide +kernel)⟩
theorem lw_p18 : lw_okq (⟨"RunKeeper", "look", "(II)LRunKeeper$Entry;"⟩, 12) := ⟨⟨by decide +kernel, by decide +kernel⟩, List.mem_of_getElem? (i := 25) (by decide +kernel), List.mem_of_getElem? (i := 624) (by decide +kernel), List.mem_of_getElem? (i := 625) (by decide +kernel)⟩
theorem lw_p19 : lw_okq (⟨"RunKeeper", "lookInLevel", "(LRunKeeper$Level;II)LRunKeeper$Entry;"⟩, 12) := ⟨⟨by decide +kernel, by decide +kernel⟩, List.mem_of_getElem? (i := 25) (by decide +kernel), List.mem_of_getElem? (i := 632) (by decide +kernel), List.mem_of_getElem? (i := 633) (by decide +kernel)⟩
theorem lw_p20 : lw_okq (⟨"RunKeeper$Run", "passesFilter", "(I)Z"⟩, 2) := ⟨⟨by decide +kernel, by decide +kernel⟩, List.mem_of_getElem? (i := 172) (by decide +kernel), List.mem_of_getElem? (i := 644) (by decide +kernel), List.mem_of_getElem? (i := 645) (by decide +kernel)⟩
theorem lw_p21 : lw_okq (⟨"RunKeeper", "probe", "(LRunKeeper$Run;II)LRunKeeper$Entry;"⟩, 12) := ⟨⟨by decide +kernel, by decide +kernel⟩, List.mem_of_getElem? (i := 25) (by decide +kernel), List.mem_of_getElem? (i := 648) (by decide +kernel), List.mem_of_getElem? (i := 649) (by decide +kernel)⟩
theorem lw_p22 : lw_okq (⟨"RunKeeper", "noteNewestOfKeys", "(I)V"⟩, 12) := ⟨⟨by decide +kernel, by decide +kernel⟩, List.mem_of_getElem? (i := 25) (by decide +kernel), List.mem_of_getElem? (i := 680) (by decide +kernel), List.mem_of_getElem? (i := 681) (by decide +kernel)⟩
theorem lw_p23 : lw_okq (⟨"RunKeeper", "noteIfNewest", "(LRunKeeper$Entry;I)V"⟩, 12) := ⟨⟨by decide +kernel, by decide +kernel⟩, List.mem_of_getElem? (i := 25) (by decide +kernel), List.mem_of_getElem? (i := 684) (by decide +kernel), List.mem_of_getElem? (i := 685) (by decide +kernel)⟩
theorem lw_p24 : lw_okq (⟨"RunKeeperModel", "written", "(IJZ)I"⟩, 22) := ⟨⟨by decide +kernel, by decide +kernel⟩, List.mem_of_getElem? (i := 709) (by decide +kernel), List.mem_of_getElem? (i := 790) (by decide +kernel), List.mem_of_getElem? (i := 791) (by decide +kernel)⟩
theorem lw_p25 : lw_okq (⟨"RunKeeperModel", "fails", "(ZI)Z"⟩, 22) := ⟨⟨by decide +kernel, by decide +kernel⟩, List.mem_of_getElem? (i := 709) (by decide +kernel), List.mem_of_getElem? (i := 797) (by decide +kernel), List.mem_of_getElem? (i := 798) (by decide +kernel)⟩
theorem lw_p26 : lw_okq (⟨"RunKeeperModel", "write", "(IJZ)V"⟩, 22) := ⟨⟨by decide +kernel, by decide +kernel⟩, List.mem_of_getElem? (i := 709) (by decide +kernel), List.mem_of_getElem? (i := 801) (by decide +kernel), List.mem_of_getElem? (i := 802) (by decide +kernel)⟩
theorem lw_p27 : lw_okq (⟨"RunKeeperModel", "inRun", "(I)I"⟩, 22) := ⟨⟨by decide +kernel, by decide +kernel⟩, List.mem_of_getElem? (i := 709) (by decide +kernel), List.mem_of_getElem? (i := 805) (by decide +kernel), List.mem_of_getElem? (i := 806) (by decide +kernel)⟩
theorem lw_p28 : lw_okq (⟨"RunKeeperModel", "flushed", "()I"⟩, 22) := ⟨⟨by decide +kernel, by decide +kernel⟩, List.mem_of_getElem? (i := 709) (by decide +kernel), List.mem_of_getElem? (i := 809) (by decide +kernel), List.mem_of_getElem? (i := 810) (by decide +kernel)⟩
theorem lw_p29 : lw_okq (⟨"RunKeeperModel", "step", "()Z"⟩, 22) := ⟨⟨by decide +kernel, by decide +kernel⟩, List.mem_of_getElem? (i := 709) (by decide +kernel), List.mem_of_getElem? (i := 837) (by decide +kernel), List.mem_of_getElem? (i := 838) (by decide +kernel)⟩
theorem lw_p30 : lw_okq (⟨"RunKeeperModel", "runsOf", "(I)I"⟩, 22) := ⟨⟨by decide +kernel, by decide +kernel⟩, List.mem_of_getElem? (i := 709) (by decide +kernel), List.mem_of_getElem? (i := 841) (by decide +kernel), List.mem_of_getElem? (i := 842) (by decide +kernel)⟩
theorem lw_p31 : lw_okq (⟨"RunKeeperModel", "isKept", "(II)Z"⟩, 22) := ⟨⟨by decide +kernel, by decide +kernel⟩, List.mem_of_getElem? (i := 709) (by decide +kernel), List.mem_of_getElem? (i := 845) (by decide +kernel), List.mem_of_getElem? (i := 846) (by decide +kernel)⟩
def lw_privs_2 : List (MethodName × Nat) := [(⟨"RunKeeper", "requireKeyAndView", "(II)V"⟩, 12), (⟨"RunKeeper", "sequenceOf", "(I)I"⟩, 12), (⟨"RunKeeper", "look", "(II)LRunKeeper$Entry;"⟩, 12), (⟨"RunKeeper", "lookInLevel", "(LRunKeeper$Level;II)LRunKeeper$Entry;"⟩, 12), (⟨"RunKeeper$Run", "passesFilter", "(I)Z"⟩, 2), (⟨"RunKeeper", "probe", "(LRunKeeper$Run;II)LRunKeeper$Entry;"⟩, 12), (⟨"RunKeeper", "noteNewestOfKeys", "(I)V"⟩, 12), (⟨"RunKeeper", "noteIfNewest", "(LRunKeeper$Entry;I)V"⟩, 12), (⟨"RunKeeperModel", "written", "(IJZ)I"⟩, 22), (⟨"RunKeeperModel", "fails", "(ZI)Z"⟩, 22), (⟨"RunKeeperModel", "write", "(IJZ)V"⟩, 22), (⟨"RunKeeperModel", "inRun", "(I)I"⟩, 22), (⟨"RunKeeperModel", "flushed", "()I"⟩, 22), (⟨"RunKeeperModel", "step", "()Z"⟩, 22), (⟨"RunKeeperModel", "runsOf", "(I)I"⟩, 22), (⟨"RunKeeperModel", "isKept", "(II)Z"⟩, 22)]
theorem lw_r2 : ∀ q ∈ lw_privs_2, lw_okq q := List.forall_mem_cons.mpr ⟨lw_p16, List.forall_mem_cons.mpr ⟨lw_p17, List.forall_mem_cons.mpr ⟨lw_p18, List.forall_mem_cons.mpr ⟨lw_p19, List.forall_mem_cons.mpr ⟨lw_p20, List.forall_mem_cons.mpr ⟨lw_p21, List.forall_mem_cons.mpr ⟨lw_p22, List.forall_mem_cons.mpr ⟨lw_p23, List.forall_mem_cons.mpr ⟨lw_p24, List.forall_mem_cons.mpr ⟨lw_p25, List.forall_mem_cons.mpr ⟨lw_p26, List.forall_mem_cons.mpr ⟨lw_p27, List.forall_mem_cons.mpr ⟨lw_p28, List.forall_mem_cons.mpr ⟨lw_p29, List.forall_mem_cons.mpr ⟨lw_p30, List.forall_mem_cons.mpr ⟨lw_p31, fun _ h => absurd h List.not_mem_nil⟩⟩⟩⟩⟩⟩⟩⟩⟩⟩⟩⟩⟩⟩⟩⟩
theorem lw_p32 : lw_okq (⟨"RunKeeperModel", "isTop", "(III)Z"⟩, 22) := ⟨⟨by decide +kernel, by decide +kernel⟩, List.mem_of_getElem? (i := 709) (by decide +kernel), List.mem_of_getElem? (i := 850) (by decide +kernel), List.mem_of_getElem? (i := 851) (by decide +kernel)⟩
theorem lw_p33 : lw_okq (⟨"RunKeeperModel", "isLast", "(I)Z"⟩, 22) := ⟨⟨by decide +kernel, by decide +kernel⟩, List.mem_of_getElem? (i := 709) (by decide +kernel), List.mem_of_getElem? (i := 854) (by decide +kernel), List.mem_of_getElem? (i := 855) (by decide +kernel)⟩
theorem lw_p34 : lw_okq (⟨"RunKeeperModel", "isNone", "(I)Z"⟩, 22) := ⟨⟨by decide +kernel, by decide +kernel⟩, List.mem_of_getElem? (i := 709) (by decide +kernel), List.mem_of_getElem? (i := 870) (by decide +kernel), List.mem_of_getElem? (i := 871) (by decide +kernel)⟩
theorem lw_p35 : lw_okq (⟨"RunKeeperModel", "upTo", "(I)I"⟩, 22) := ⟨⟨by decide +kernel, by decide +kernel⟩, List.mem_of_getElem? (i := 709) (by decide +kernel), List.mem_of_getElem? (i := 878) (by decide +kernel), List.mem_of_getElem? (i := 879) (by decide +kernel)⟩
theorem lw_p36 : lw_okq (⟨"RunKeeperModel", "best", "(II)I"⟩, 22) := ⟨⟨by decide +kernel, by decide +kernel⟩, List.mem_of_getElem? (i := 709) (by decide +kernel), List.mem_of_getElem? (i := 882) (by decide +kernel), List.mem_of_getElem? (i := 883) (by decide +kernel)⟩
theorem lw_p37 : lw_okq (⟨"RunKeeperModel", "probe", "(II)V"⟩, 22) := ⟨⟨by decide +kernel, by decide +kernel⟩, List.mem_of_getElem? (i := 709) (by decide +kernel), List.mem_of_getElem? (i := 886) (by decide +kernel), List.mem_of_getElem? (i := 887) (by decide +kernel)⟩
theorem lw_p38 : lw_okq (⟨"RunKeeperModel", "isAsked", "(II)Z"⟩, 22) := ⟨⟨by decide +kernel, by decide +kernel⟩, List.mem_of_getElem? (i := 709) (by decide +kernel), List.mem_of_getElem? (i := 890) (by decide +kernel), List.mem_of_getElem? (i := 891) (by decide +kernel)⟩
theorem lw_p39 : lw_okq (⟨"RunKeeperModel", "comesBefore", "(II)Z"⟩, 22) := ⟨⟨by decide +kernel, by decide +kernel⟩, List.mem_of_getElem? (i := 709) (by decide +kernel), List.mem_of_getElem? (i := 908) (by decide +kernel), List.mem_of_getElem? (i := 909) (by decide +kernel)⟩
def lw_privs_3 : List (MethodName × Nat) := [(⟨"RunKeeperModel", "isTop", "(III)Z"⟩, 22), (⟨"RunKeeperModel", "isLast", "(I)Z"⟩, 22), (⟨"RunKeeperModel", "isNone", "(I)Z"⟩, 22), (⟨"RunKeeperModel", "upTo", "(I)I"⟩, 22), (⟨"RunKeeperModel", "best", "(II)I"⟩, 22), (⟨"RunKeeperModel", "probe", "(II)V"⟩, 22), (⟨"RunKeeperModel", "isAsked", "(II)Z"⟩, 22), (⟨"RunKeeperModel", "comesBefore", "(II)Z"⟩, 22)]
theorem lw_r3 : ∀ q ∈ lw_privs_3, lw_okq q := List.forall_mem_cons.mpr ⟨lw_p32, List.forall_mem_cons.mpr ⟨lw_p33, List.forall_mem_cons.mpr ⟨lw_p34, List.forall_mem_cons.mpr ⟨lw_p35, List.forall_mem_cons.mpr ⟨lw_p36, List.forall_mem_cons.mpr ⟨lw_p37, List.forall_mem_cons.mpr ⟨lw_p38, List.forall_mem_cons.mpr ⟨lw_p39, fun _ h => absurd h List.not_mem_nil⟩⟩⟩⟩⟩⟩⟩⟩
def lw_privs : List (MethodName × Nat) := lw_privs_1 ++ (lw_privs_2 ++ (lw_privs_3))
def lw_tbl : List Cond := k2_sels lw_privs ++ tables_1
theorem lw_privs_ok : ∀ q ∈ lw_privs, lw_okq q := by
  show ∀ q ∈ lw_privs_1 ++ (lw_privs_2 ++ (lw_privs_3)), lw_okq q
  exact List.forall_mem_append.mpr ⟨lw_r1, List.forall_mem_append.mpr ⟨lw_r2, lw_r3⟩⟩
end
section
/-! NAMES, printed by gen/mk_names.py out of the claim: one list of words for all methods (wd_all: the good words of lw_tbl) -/
def wd_all : List Cond := lw_tbl.filter goodWord
theorem wd_m {w : Cond} (i : Nat) (h : tables_1[i]? = some w) (hg : goodWord w = true) : w ∈ wd_all := List.mem_filter.mpr ⟨List.mem_append_right _ (List.mem_of_getElem? h), hg⟩
theorem wd_p {q : MethodName × Nat} (h : q ∈ lw_privs) (hg : goodWord (.selects q.1.cls q.1 q.1) = true) : Cond.selects q.1.cls q.1 q.1 ∈ wd_all := List.mem_filter.mpr ⟨List.mem_append_left _ (by unfold k2_sels; first | exact List.mem_map.mpr ⟨q, h, rfl⟩ | exact List.mem_map_of_mem h), hg⟩
theorem wd_ok {w : Cond} (h : w ∈ wd_all) : (w.onTables && w.keeps) = true ∨ ∃ ty, w = .arrayClass ty := good_of_word (List.mem_filter.mp h).2
abbrev wd_c (y : MethodName) (c : ByteArray) (n : Nat) (r : Option FieldType) : List Cond := Cond.code y c n r :: wd_all
theorem wd_g {y : MethodName} {c : ByteArray} {n : Nat} {r : Option FieldType} (h : Cond.code y c n r ∈ wd_all) : GoodIn wd_all (wd_c y c n r) := fun w hw => by
  rcases List.mem_cons.mp hw with rfl | hw
  · exact ⟨h, wd_ok h⟩
  · exact ⟨hw, wd_ok hw⟩
theorem wd_gV {own C : String} {idx : Nat} {y : MethodName} {c : ByteArray} {n : Nat} {r : Option FieldType} (h : Cond.code y c n r ∈ wd_all) (h1 : Cond.methodLink own idx y ∈ wd_all) (h2 : Cond.instanceMethod y ∈ wd_all) (h3 : Cond.selects C y y ∈ wd_all) (h4 : Cond.initialized C ∈ wd_all) : GoodIn wd_all (wsV own idx C y (wd_c y c n r)) := fun w hw => by
  unfold wsV at hw
  rcases List.mem_append.mp hw with hw | hw
  · simp only [List.mem_cons, List.not_mem_nil, or_false] at hw
    rcases hw with rfl | rfl | rfl | rfl
    · exact ⟨h1, wd_ok h1⟩
    · exact ⟨h2, wd_ok h2⟩
    · exact ⟨h3, wd_ok h3⟩
    · exact ⟨h4, wd_ok h4⟩
  · exact wd_g h w hw
theorem wd_gS {own : String} {idx : Nat} {y : MethodName} {c : ByteArray} {n : Nat} {r : Option FieldType} (h : Cond.code y c n r ∈ wd_all) (h1 : Cond.methodLink own idx y ∈ wd_all) (h2 : Cond.static y ∈ wd_all) (h3 : Cond.initialized y.cls ∈ wd_all) : GoodIn wd_all (va_wsS own idx y (wd_c y c n r)) := fun w hw => by
  unfold va_wsS at hw
  rcases List.mem_append.mp hw with hw | hw
  · simp only [List.mem_cons, List.not_mem_nil, or_false] at hw
    rcases hw with rfl | rfl | rfl
    · exact ⟨h1, wd_ok h1⟩
    · exact ⟨h2, wd_ok h2⟩
    · exact ⟨h3, wd_ok h3⟩
  · exact wd_g h w hw
def kn_E : String := "RunKeeper$Entry"
def kt_E : u_T := fun k => match k with
  | 0 => ("RunKeeper$Entry", "key", "I", true)
  | 1 => ("RunKeeper$Entry", "sequence", "I", true)
  | 2 => ("RunKeeper$Entry", "number", "J", true)
  | _ => ("RunKeeper$Entry", "deleted", "Z", true)
def ky_E : Nat → FieldType := fun k => match k with
  | 0 => .int
  | 1 => .int
  | 2 => .long
  | _ => .boolean
theorem kd_E : ∀ a, a < 4 → ∀ b, b < 4 → a ≠ b → (kt_E a).2.1 ≠ (kt_E b).2.1 := by decide +kernel
theorem kk_E : ∀ k, k < 4 → parseFieldDescriptor (kt_E k).2.2.1 = some (ky_E k) := by decide +kernel
def kn_V : String := "RunKeeper$Level"
def kt_V : u_T := fun k => match k with
  | 0 => ("RunKeeper$Level", "runs", "Ljava/util/ArrayList;", true)
  | _ => ("RunKeeper$Level", "entryCount", "I", false)
def ky_V : Nat → FieldType := fun k => match k with
  | 0 => .object "java/util/ArrayList"
  | _ => .int
theorem kd_V : ∀ a, a < 2 → ∀ b, b < 2 → a ≠ b → (kt_V a).2.1 ≠ (kt_V b).2.1 := by decide +kernel
theorem kk_V : ∀ k, k < 2 → parseFieldDescriptor (kt_V k).2.2.1 = some (ky_V k) := by decide +kernel
def kn_R : String := "RunKeeper$Row"
def kt_R : u_T := fun k => match k with
  | 0 => ("RunKeeper$Row", "slots", "[LRunKeeper$Entry;", true)
  | _ => ("RunKeeper$Row", "size", "I", false)
def ky_R : Nat → FieldType := fun k => match k with
  | 0 => .array (.object "RunKeeper$Entry")
  | _ => .int
theorem kd_R : ∀ a, a < 2 → ∀ b, b < 2 → a ≠ b → (kt_R a).2.1 ≠ (kt_R b).2.1 := by decide +kernel
theorem kk_R : ∀ k, k < 2 → parseFieldDescriptor (kt_R k).2.2.1 = some (ky_R k) := by decide +kernel
def kn_U : String := "RunKeeper$Run"
def kt_U : u_T := fun k => match k with
  | 0 => ("RunKeeper$Run", "entries", "LRunKeeper$Row;", true)
  | _ => ("RunKeeper$Run", "filter", "[J", true)
def ky_U : Nat → FieldType := fun k => match k with
  | 0 => .object "RunKeeper$Row"
  | _ => .array .long
theorem kd_U : ∀ a, a < 2 → ∀ b, b < 2 → a ≠ b → (kt_U a).2.1 ≠ (kt_U b).2.1 := by decide +kernel
theorem kk_U : ∀ k, k < 2 → parseFieldDescriptor (kt_U k).2.2.1 = some (ky_U k) := by decide +kernel
def kn_S : String := "RunKeeper$Snapshots"
def kt_S : u_T := fun k => match k with
  | 0 => ("RunKeeper$Snapshots", "sequences", "[I", true)
  | _ => ("RunKeeper$Snapshots", "used", "[Z", true)
def ky_S : Nat → FieldType := fun k => match k with
  | 0 => .array .int
  | _ => .array .boolean
theorem kd_S : ∀ a, a < 2 → ∀ b, b < 2 → a ≠ b → (kt_S a).2.1 ≠ (kt_S b).2.1 := by decide +kernel
theorem kk_S : ∀ k, k < 2 → parseFieldDescriptor (kt_S k).2.2.1 = some (ky_S k) := by decide +kernel
def kn_K : String := "RunKeeper"
def kt_K : u_T := fun k => match k with
  | 0 => ("RunKeeper", "table", "LRunKeeper$Row;", true)
  | 1 => ("RunKeeper", "aside", "LRunKeeper$Row;", true)
  | 2 => ("RunKeeper", "levels", "[LRunKeeper$Level;", true)
  | 3 => ("RunKeeper", "snapshots", "LRunKeeper$Snapshots;", true)
  | 4 => ("RunKeeper", "gathered", "LRunKeeper$Row;", true)
  | 5 => ("RunKeeper", "kept", "LRunKeeper$Row;", true)
  | 6 => ("RunKeeper", "newestOfKey", "[LRunKeeper$Entry;", true)
  | 7 => ("RunKeeper", "safe", "I", false)
  | 8 => ("RunKeeper", "inBatch", "Z", false)
  | 9 => ("RunKeeper", "sequence", "I", false)
  | 10 => ("RunKeeper", "probed", "I", false)
  | _ => ("RunKeeper", "probedInVain", "I", false)
def ky_K : Nat → FieldType := fun k => match k with
  | 0 => .object "RunKeeper$Row"
  | 1 => .object "RunKeeper$Row"
  | 2 => .array (.object "RunKeeper$Level")
  | 3 => .object "RunKeeper$Snapshots"
  | 4 => .object "RunKeeper$Row"
  | 5 => .object "RunKeeper$Row"
  | 6 => .array (.object "RunKeeper$Entry")
  | 7 => .int
  | 8 => .boolean
  | 9 => .int
  | 10 => .int
  | _ => .int
theorem kd_K : ∀ a, a < 12 → ∀ b, b < 12 → a ≠ b → (kt_K a).2.1 ≠ (kt_K b).2.1 := by decide +kernel
theorem kk_K : ∀ k, k < 12 → parseFieldDescriptor (kt_K k).2.2.1 = some (ky_K k) := by decide +kernel
def kn_M : String := "RunKeeperModel"
def kt_M : u_T := fun k => match k with
  | 0 => ("RunKeeperModel", "err", "I", false)
  | 1 => ("RunKeeperModel", "n", "I", false)
  | 2 => ("RunKeeperModel", "sequence", "I", false)
  | 3 => ("RunKeeperModel", "safe", "I", false)
  | 4 => ("RunKeeperModel", "runs", "I", false)
  | 5 => ("RunKeeperModel", "batch", "I", false)
  | 6 => ("RunKeeperModel", "probed", "I", false)
  | 7 => ("RunKeeperModel", "missed", "I", false)
  | 8 => ("RunKeeperModel", "key", "[I", true)
  | 9 => ("RunKeeperModel", "number", "[I", true)
  | 10 => ("RunKeeperModel", "run", "[I", true)
  | 11 => ("RunKeeperModel", "level", "[I", true)
  | 12 => ("RunKeeperModel", "snapshot", "[I", true)
  | 13 => ("RunKeeperModel", "batchKey", "[I", true)
  | 14 => ("RunKeeperModel", "order", "[I", true)
  | 15 => ("RunKeeperModel", "value", "[J", true)
  | 16 => ("RunKeeperModel", "batchValue", "[J", true)
  | 17 => ("RunKeeperModel", "deleted", "[Z", true)
  | 18 => ("RunKeeperModel", "isSnapshot", "[Z", true)
  | 19 => ("RunKeeperModel", "batchDeleted", "[Z", true)
  | 20 => ("RunKeeperModel", "keeps", "[Z", true)
  | _ => ("RunKeeperModel", "bits", "[Z", true)
def ky_M : Nat → FieldType := fun k => match k with
  | 0 => .int
  | 1 => .int
  | 2 => .int
  | 3 => .int
  | 4 => .int
  | 5 => .int
  | 6 => .int
  | 7 => .int
  | 8 => .array .int
  | 9 => .array .int
  | 10 => .array .int
  | 11 => .array .int
  | 12 => .array .int
  | 13 => .array .int
  | 14 => .array .int
  | 15 => .array .long
  | 16 => .array .long
  | 17 => .array .boolean
  | 18 => .array .boolean
  | 19 => .array .boolean
  | 20 => .array .boolean
  | _ => .array .boolean
theorem kd_M : ∀ a, a < 22 → ∀ b, b < 22 → a ≠ b → (kt_M a).2.1 ≠ (kt_M b).2.1 := by decide +kernel
theorem kk_M : ∀ k, k < 22 → parseFieldDescriptor (kt_M k).2.2.1 = some (ky_M k) := by decide +kernel
def kn_A : String := "java/util/ArrayList"
def kt_A : u_T := fun k => match k with
  | 0 => ("java/util/AbstractList", "modCount", "I", false)
  | 1 => ("java/util/ArrayList", "elementData", "[Ljava/lang/Object;", false)
  | _ => ("java/util/ArrayList", "size", "I", false)
def ky_A : Nat → FieldType := fun k => match k with
  | 0 => .int
  | 1 => .array (.object "java/lang/Object")
  | _ => .int
theorem kd_A : ∀ a, a < 3 → ∀ b, b < 3 → a ≠ b → (kt_A a).2.1 ≠ (kt_A b).2.1 := by decide +kernel
theorem kk_A : ∀ k, k < 3 → parseFieldDescriptor (kt_A k).2.2.1 = some (ky_A k) := by decide +kernel
abbrev vwCl : List vw_C := [(kn_E, kt_E, 4), (kn_V, kt_V, 2), (kn_R, kt_R, 2), (kn_U, kt_U, 2), (kn_S, kt_S, 2), (kn_K, kt_K, 12), (kn_M, kt_M, 22), (kn_A, kt_A, 3)]
abbrev cx_E : Nat := 0
abbrev cx_V : Nat := 1
abbrev cx_R : Nat := 2
abbrev cx_U : Nat := 3
abbrev cx_S : Nat := 4
abbrev cx_K : Nat := 5
abbrev cx_M : Nat := 6
abbrev cx_A : Nat := 7
theorem ki_E : ∀ w ∈ u_ws kn_E kt_E 4, w ∈ wd_all := by
  intro w hw
  obtain ⟨j, hj, rfl⟩ := List.mem_map.mp (show w ∈ (List.range 4).map (u_lay kn_E kt_E) from hw)
  have hj := List.mem_range.mp hj
  match j, hj with
  | 0, _ => exact wd_m 456 (by decide +kernel) (by decide +kernel)
  | 1, _ => exact wd_m 458 (by decide +kernel) (by decide +kernel)
  | 2, _ => exact wd_m 460 (by decide +kernel) (by decide +kernel)
  | 3, _ => exact wd_m 462 (by decide +kernel) (by decide +kernel)
  | j + 4, h => exact absurd h (by omega)
theorem ki_V : ∀ w ∈ u_ws kn_V kt_V 2, w ∈ wd_all := by
  intro w hw
  obtain ⟨j, hj, rfl⟩ := List.mem_map.mp (show w ∈ (List.range 2).map (u_lay kn_V kt_V) from hw)
  have hj := List.mem_range.mp hj
  match j, hj with
  | 0, _ => exact wd_m 98 (by decide +kernel) (by decide +kernel)
  | 1, _ => exact wd_m 100 (by decide +kernel) (by decide +kernel)
  | j + 2, h => exact absurd h (by omega)
theorem ki_R : ∀ w ∈ u_ws kn_R kt_R 2, w ∈ wd_all := by
  intro w hw
  obtain ⟨j, hj, rfl⟩ := List.mem_map.mp (show w ∈ (List.range 2).map (u_lay kn_R kt_R) from hw)
  have hj := List.mem_range.mp hj
  match j, hj with
  | 0, _ => exact wd_m 42 (by decide +kernel) (by decide +kernel)
  | 1, _ => exact wd_m 44 (by decide +kernel) (by decide +kernel)
  | j + 2, h => exact absurd h (by omega)
theorem ki_U : ∀ w ∈ u_ws kn_U kt_U 2, w ∈ wd_all := by
  intro w hw
  obtain ⟨j, hj, rfl⟩ := List.mem_map.mp (show w ∈ (List.range 2).map (u_lay kn_U kt_U) from hw)
  have hj := List.mem_range.mp hj
  match j, hj with
  | 0, _ => exact wd_m 202 (by decide +kernel) (by decide +kernel)
  | 1, _ => exact wd_m 204 (by decide +kernel) (by decide +kernel)
  | j + 2, h => exact absurd h (by omega)
theorem ki_S : ∀ w ∈ u_ws kn_S kt_S 2, w ∈ wd_all := by
  intro w hw
  obtain ⟨j, hj, rfl⟩ := List.mem_map.mp (show w ∈ (List.range 2).map (u_lay kn_S kt_S) from hw)
  have hj := List.mem_range.mp hj
  match j, hj with
  | 0, _ => exact wd_m 57 (by decide +kernel) (by decide +kernel)
  | 1, _ => exact wd_m 59 (by decide +kernel) (by decide +kernel)
  | j + 2, h => exact absurd h (by omega)
theorem ki_K : ∀ w ∈ u_ws kn_K kt_K 12, w ∈ wd_all := by
  intro w hw
  obtain ⟨j, hj, rfl⟩ := List.mem_map.mp (show w ∈ (List.range 12).map (u_lay kn_K kt_K) from hw)
  have hj := List.mem_range.mp hj
  match j, hj with
  | 0, _ => exact wd_m 115 (by decide +kernel) (by decide +kernel)
  | 1, _ => exact wd_m 117 (by decide +kernel) (by decide +kernel)
  | 2, _ => exact wd_m 119 (by decide +kernel) (by decide +kernel)
  | 3, _ => exact wd_m 121 (by decide +kernel) (by decide +kernel)
  | 4, _ => exact wd_m 123 (by decide +kernel) (by decide +kernel)
  | 5, _ => exact wd_m 125 (by decide +kernel) (by decide +kernel)
  | 6, _ => exact wd_m 127 (by decide +kernel) (by decide +kernel)
  | 7, _ => exact wd_m 129 (by decide +kernel) (by decide +kernel)
  | 8, _ => exact wd_m 131 (by decide +kernel) (by decide +kernel)
  | 9, _ => exact wd_m 133 (by decide +kernel) (by decide +kernel)
  | 10, _ => exact wd_m 135 (by decide +kernel) (by decide +kernel)
  | 11, _ => exact wd_m 137 (by decide +kernel) (by decide +kernel)
  | j + 12, h => exact absurd h (by omega)
theorem ki_M : ∀ w ∈ u_ws kn_M kt_M 22, w ∈ wd_all := by
  intro w hw
  obtain ⟨j, hj, rfl⟩ := List.mem_map.mp (show w ∈ (List.range 22).map (u_lay kn_M kt_M) from hw)
  have hj := List.mem_range.mp hj
  match j, hj with
  | 0, _ => exact wd_m 736 (by decide +kernel) (by decide +kernel)
  | 1, _ => exact wd_m 738 (by decide +kernel) (by decide +kernel)
  | 2, _ => exact wd_m 740 (by decide +kernel) (by decide +kernel)
  | 3, _ => exact wd_m 742 (by decide +kernel) (by decide +kernel)
  | 4, _ => exact wd_m 744 (by decide +kernel) (by decide +kernel)
  | 5, _ => exact wd_m 746 (by decide +kernel) (by decide +kernel)
  | 6, _ => exact wd_m 748 (by decide +kernel) (by decide +kernel)
  | 7, _ => exact wd_m 750 (by decide +kernel) (by decide +kernel)
  | 8, _ => exact wd_m 752 (by decide +kernel) (by decide +kernel)
  | 9, _ => exact wd_m 754 (by decide +kernel) (by decide +kernel)
  | 10, _ => exact wd_m 756 (by decide +kernel) (by decide +kernel)
  | 11, _ => exact wd_m 758 (by decide +kernel) (by decide +kernel)
  | 12, _ => exact wd_m 760 (by decide +kernel) (by decide +kernel)
  | 13, _ => exact wd_m 762 (by decide +kernel) (by decide +kernel)
  | 14, _ => exact wd_m 764 (by decide +kernel) (by decide +kernel)
  | 15, _ => exact wd_m 766 (by decide +kernel) (by decide +kernel)
  | 16, _ => exact wd_m 768 (by decide +kernel) (by decide +kernel)
  | 17, _ => exact wd_m 770 (by decide +kernel) (by decide +kernel)
  | 18, _ => exact wd_m 772 (by decide +kernel) (by decide +kernel)
  | 19, _ => exact wd_m 774 (by decide +kernel) (by decide +kernel)
  | 20, _ => exact wd_m 776 (by decide +kernel) (by decide +kernel)
  | 21, _ => exact wd_m 778 (by decide +kernel) (by decide +kernel)
  | j + 22, h => exact absurd h (by omega)
theorem ki_A : ∀ w ∈ u_ws kn_A kt_A 3, w ∈ wd_all := by
  intro w hw
  obtain ⟨j, hj, rfl⟩ := List.mem_map.mp (show w ∈ (List.range 3).map (u_lay kn_A kt_A) from hw)
  have hj := List.mem_range.mp hj
  match j, hj with
  | 0, _ => exact wd_m 93 (by decide +kernel) (by decide +kernel)
  | 1, _ => exact wd_m 89 (by decide +kernel) (by decide +kernel)
  | 2, _ => exact wd_m 91 (by decide +kernel) (by decide +kernel)
  | j + 3, h => exact absurd h (by omega)
abbrev mb_K_init : ByteArray := prog_1_method_1_code
abbrev my_K_init : MethodName := ⟨"RunKeeper", "<init>", "()V"⟩
abbrev mb_R_init : ByteArray := prog_4_method_1_code
abbrev my_R_init : MethodName := ⟨"RunKeeper$Row", "<init>", "(I)V"⟩
abbrev mb_S_init : ByteArray := prog_6_method_1_code
abbrev my_S_init : MethodName := ⟨"RunKeeper$Snapshots", "<init>", "()V"⟩
abbrev mb_V_init : ByteArray := prog_3_method_1_code
abbrev my_V_init : MethodName := ⟨"RunKeeper$Level", "<init>", "()V"⟩
abbrev mb_A_init : ByteArray := prog_24_method_2_code
abbrev my_A_init : MethodName := ⟨"java/util/ArrayList", "<init>", "()V"⟩
abbrev mb_B_init : ByteArray := prog_23_method_1_code
abbrev my_B_init : MethodName := ⟨"java/util/AbstractList", "<init>", "()V"⟩
abbrev mb_C_init : ByteArray := prog_22_method_1_code
abbrev my_C_init : MethodName := ⟨"java/util/AbstractCollection", "<init>", "()V"⟩
abbrev mb_K_sync : ByteArray := prog_1_method_6_code
abbrev my_K_sync : MethodName := ⟨"RunKeeper", "sync", "()I"⟩
abbrev mb_R_size : ByteArray := prog_4_method_2_code
abbrev my_R_size : MethodName := ⟨"RunKeeper$Row", "size", "()I"⟩
abbrev mb_K_flush : ByteArray := prog_1_method_7_code
abbrev my_K_flush : MethodName := ⟨"RunKeeper", "flush", "()I"⟩
abbrev mb_K_flushTableIfItHas : ByteArray := prog_1_method_21_code
abbrev my_K_flushTableIfItHas : MethodName := ⟨"RunKeeper", "flushTableIfItHas", "(I)V"⟩
abbrev mb_R_sortAsRun : ByteArray := prog_4_method_9_code
abbrev my_R_sortAsRun : MethodName := ⟨"RunKeeper$Row", "sortAsRun", "()V"⟩
abbrev mb_E_standsBefore : ByteArray := prog_2_method_4_code
abbrev my_E_standsBefore : MethodName := ⟨"RunKeeper$Entry", "standsBefore", "(LRunKeeper$Entry;)Z"⟩
abbrev mb_K_addRun : ByteArray := prog_1_method_22_code
abbrev my_K_addRun : MethodName := ⟨"RunKeeper", "addRun", "(ILRunKeeper$Row;)V"⟩
abbrev mb_K_isLevel : ByteArray := prog_1_method_17_code
abbrev my_K_isLevel : MethodName := ⟨"RunKeeper", "isLevel", "(I)Z"⟩
abbrev mb_U_init : ByteArray := prog_5_method_1_code
abbrev my_U_init : MethodName := ⟨"RunKeeper$Run", "<init>", "(LRunKeeper$Row;)V"⟩
abbrev mb_R_addAll : ByteArray := prog_4_method_6_code
abbrev my_R_addAll : MethodName := ⟨"RunKeeper$Row", "addAll", "(LRunKeeper$Row;)V"⟩
abbrev mb_R_add : ByteArray := prog_4_method_5_code
abbrev my_R_add : MethodName := ⟨"RunKeeper$Row", "add", "(LRunKeeper$Entry;)V"⟩
abbrev mb_R_at : ByteArray := prog_4_method_4_code
abbrev my_R_at : MethodName := ⟨"RunKeeper$Row", "at", "(I)LRunKeeper$Entry;"⟩
abbrev mb_U_setBits : ByteArray := prog_5_method_2_code
abbrev my_U_setBits : MethodName := ⟨"RunKeeper$Run", "setBits", "([JLRunKeeper$Entry;)V"⟩
abbrev mb_U_bitOf : ByteArray := prog_5_method_3_code
abbrev my_U_bitOf : MethodName := ⟨"RunKeeper$Run", "bitOf", "(II[J)I"⟩
abbrev mb_V_add : ByteArray := prog_3_method_5_code
abbrev my_V_add : MethodName := ⟨"RunKeeper$Level", "add", "(LRunKeeper$Run;)V"⟩
abbrev mb_A_add : ByteArray := prog_24_method_25_code
abbrev my_A_add : MethodName := ⟨"java/util/ArrayList", "add", "(Ljava/lang/Object;)Z"⟩
abbrev mb_A_add2 : ByteArray := prog_24_method_24_code
abbrev my_A_add2 : MethodName := ⟨"java/util/ArrayList", "add", "(Ljava/lang/Object;[Ljava/lang/Object;I)V"⟩
abbrev mb_A_grow : ByteArray := prog_24_method_7_code
abbrev my_A_grow : MethodName := ⟨"java/util/ArrayList", "grow", "()[Ljava/lang/Object;"⟩
abbrev mb_A_grow2 : ByteArray := prog_24_method_6_code
abbrev my_A_grow2 : MethodName := ⟨"java/util/ArrayList", "grow", "(I)[Ljava/lang/Object;"⟩
abbrev mb_D_newLength : ByteArray := prog_31_method_27_code
abbrev my_D_newLength : MethodName := ⟨"jdk/internal/util/ArraysSupport", "newLength", "(III)I"⟩
abbrev mb_F_max : ByteArray := prog_16_method_65_code
abbrev my_F_max : MethodName := ⟨"java/lang/Math", "max", "(II)I"⟩
abbrev mb_D_hugeLength : ByteArray := prog_31_method_28_code
abbrev my_D_hugeLength : MethodName := ⟨"jdk/internal/util/ArraysSupport", "hugeLength", "(II)I"⟩
abbrev mb_G_copyOf : ByteArray := prog_25_method_119_code
abbrev my_G_copyOf : MethodName := ⟨"java/util/Arrays", "copyOf", "([Ljava/lang/Object;I)[Ljava/lang/Object;"⟩
abbrev mb_G_copyOf2 : ByteArray := prog_25_method_120_code
abbrev my_G_copyOf2 : MethodName := ⟨"java/util/Arrays", "copyOf", "([Ljava/lang/Object;ILjava/lang/Class;)[Ljava/lang/Object;"⟩
abbrev mb_F_min : ByteArray := prog_16_method_69_code
abbrev my_F_min : MethodName := ⟨"java/lang/Math", "min", "(II)I"⟩
abbrev mb_U_entries : ByteArray := prog_5_method_4_code
abbrev my_U_entries : MethodName := ⟨"RunKeeper$Run", "entries", "()LRunKeeper$Row;"⟩
abbrev mb_R_cutTo : ByteArray := prog_4_method_7_code
abbrev my_R_cutTo : MethodName := ⟨"RunKeeper$Row", "cutTo", "(I)V"⟩
abbrev mb_K_crash : ByteArray := prog_1_method_9_code
abbrev my_K_crash : MethodName := ⟨"RunKeeper", "crash", "()I"⟩
abbrev mb_K_dropBatch : ByteArray := prog_1_method_20_code
abbrev my_K_dropBatch : MethodName := ⟨"RunKeeper", "dropBatch", "()V"⟩
abbrev mb_S_forgetAll : ByteArray := prog_6_method_6_code
abbrev my_S_forgetAll : MethodName := ⟨"RunKeeper$Snapshots", "forgetAll", "()V"⟩
abbrev mb_K_gatherEverything : ByteArray := prog_1_method_24_code
abbrev my_K_gatherEverything : MethodName := ⟨"RunKeeper", "gatherEverything", "()V"⟩
abbrev mb_V_copyTo : ByteArray := prog_3_method_6_code
abbrev my_V_copyTo : MethodName := ⟨"RunKeeper$Level", "copyTo", "(LRunKeeper$Row;)V"⟩
abbrev mb_A_size : ByteArray := prog_24_method_8_code
abbrev my_A_size : MethodName := ⟨"java/util/ArrayList", "size", "()I"⟩
abbrev mb_A_get : ByteArray := prog_24_method_20_code
abbrev my_A_get : MethodName := ⟨"java/util/ArrayList", "get", "(I)Ljava/lang/Object;"⟩
abbrev mb_O_checkIndex : ByteArray := prog_28_method_17_code
abbrev my_O_checkIndex : MethodName := ⟨"java/util/Objects", "checkIndex", "(II)I"⟩
abbrev mb_P_checkIndex : ByteArray := prog_32_method_11_code
abbrev my_P_checkIndex : MethodName := ⟨"jdk/internal/util/Preconditions", "checkIndex", "(IILjava/util/function/BiFunction;)I"⟩
abbrev mb_A_elementData : ByteArray := prog_24_method_18_code
abbrev my_A_elementData : MethodName := ⟨"java/util/ArrayList", "elementData", "(I)Ljava/lang/Object;"⟩
abbrev mb_R_greatestSequence : ByteArray := prog_4_method_12_code
abbrev my_R_greatestSequence : MethodName := ⟨"RunKeeper$Row", "greatestSequence", "()I"⟩
abbrev mb_L_put : ByteArray := method_3_code
abbrev my_L_put : MethodName := ⟨"RunKeeperLaw", "put", "(LRunKeeper;IJ[J)I"⟩
abbrev mb_K_put : ByteArray := prog_1_method_2_code
abbrev my_K_put : MethodName := ⟨"RunKeeper", "put", "(IJ)I"⟩
abbrev mb_K_write : ByteArray := prog_1_method_18_code
abbrev my_K_write : MethodName := ⟨"RunKeeper", "write", "(IJZ)I"⟩
abbrev mb_K_isKey : ByteArray := prog_1_method_16_code
abbrev my_K_isKey : MethodName := ⟨"RunKeeper", "isKey", "(I)Z"⟩
abbrev mb_R_isFull : ByteArray := prog_4_method_3_code
abbrev my_R_isFull : MethodName := ⟨"RunKeeper$Row", "isFull", "()Z"⟩
abbrev mb_K_entriesInAll : ByteArray := prog_1_method_23_code
abbrev my_K_entriesInAll : MethodName := ⟨"RunKeeper", "entriesInAll", "()I"⟩
abbrev mb_V_entryCount : ByteArray := prog_3_method_3_code
abbrev my_V_entryCount : MethodName := ⟨"RunKeeper$Level", "entryCount", "()I"⟩
abbrev mb_E_init : ByteArray := prog_2_method_1_code
abbrev my_E_init : MethodName := ⟨"RunKeeper$Entry", "<init>", "(IIJZ)V"⟩
abbrev mb_K_appendToTable : ByteArray := prog_1_method_19_code
abbrev my_K_appendToTable : MethodName := ⟨"RunKeeper", "appendToTable", "(LRunKeeper$Entry;)V"⟩
abbrev mb_E_numbered : ByteArray := prog_2_method_2_code
abbrev my_E_numbered : MethodName := ⟨"RunKeeper$Entry", "numbered", "(I)LRunKeeper$Entry;"⟩
abbrev mb_L_delete : ByteArray := method_4_code
abbrev my_L_delete : MethodName := ⟨"RunKeeperLaw", "delete", "(LRunKeeper;I[J)I"⟩
abbrev mb_K_delete : ByteArray := prog_1_method_3_code
abbrev my_K_delete : MethodName := ⟨"RunKeeper", "delete", "(I)I"⟩
abbrev mb_L_batch : ByteArray := method_5_code
abbrev my_L_batch : MethodName := ⟨"RunKeeperLaw", "batch", "(LRunKeeper;)I"⟩
abbrev mb_K_batch : ByteArray := prog_1_method_4_code
abbrev my_K_batch : MethodName := ⟨"RunKeeper", "batch", "()V"⟩
abbrev mb_L_end : ByteArray := method_6_code
abbrev my_L_end : MethodName := ⟨"RunKeeperLaw", "end", "(LRunKeeper;Z[J)I"⟩
abbrev mb_K_end : ByteArray := prog_1_method_5_code
abbrev my_K_end : MethodName := ⟨"RunKeeper", "end", "(Z)I"⟩
abbrev mb_L_merge : ByteArray := method_7_code
abbrev my_L_merge : MethodName := ⟨"RunKeeperLaw", "merge", "(LRunKeeper;I[J)I"⟩
abbrev mb_K_merge : ByteArray := prog_1_method_8_code
abbrev my_K_merge : MethodName := ⟨"RunKeeper", "merge", "(I)I"⟩
abbrev mb_K_mergeOnce : ByteArray := prog_1_method_25_code
abbrev my_K_mergeOnce : MethodName := ⟨"RunKeeper", "mergeOnce", "()Z"⟩
abbrev mb_K_leastLevelToMerge : ByteArray := prog_1_method_26_code
abbrev my_K_leastLevelToMerge : MethodName := ⟨"RunKeeper", "leastLevelToMerge", "()I"⟩
abbrev mb_V_runCount : ByteArray := prog_3_method_2_code
abbrev my_V_runCount : MethodName := ⟨"RunKeeper$Level", "runCount", "()I"⟩
abbrev mb_K_areEmptyFrom : ByteArray := prog_1_method_27_code
abbrev my_K_areEmptyFrom : MethodName := ⟨"RunKeeper", "areEmptyFrom", "(I)Z"⟩
abbrev mb_K_keepWhatIsSeen : ByteArray := prog_1_method_28_code
abbrev my_K_keepWhatIsSeen : MethodName := ⟨"RunKeeper", "keepWhatIsSeen", "(Z)V"⟩
abbrev mb_K_isSeen : ByteArray := prog_1_method_29_code
abbrev my_K_isSeen : MethodName := ⟨"RunKeeper", "isSeen", "(LRunKeeper$Entry;LRunKeeper$Entry;)Z"⟩
abbrev mb_E_hasKeyOf : ByteArray := prog_2_method_3_code
abbrev my_E_hasKeyOf : MethodName := ⟨"RunKeeper$Entry", "hasKeyOf", "(LRunKeeper$Entry;)Z"⟩
abbrev mb_S_anyFromBelow : ByteArray := prog_6_method_9_code
abbrev my_S_anyFromBelow : MethodName := ⟨"RunKeeper$Snapshots", "anyFromBelow", "(II)Z"⟩
abbrev mb_R_cutDeletedTail : ByteArray := prog_4_method_8_code
abbrev my_R_cutDeletedTail : MethodName := ⟨"RunKeeper$Row", "cutDeletedTail", "()V"⟩
abbrev mb_V_clear : ByteArray := prog_3_method_7_code
abbrev my_V_clear : MethodName := ⟨"RunKeeper$Level", "clear", "()V"⟩
abbrev mb_A_clear : ByteArray := prog_24_method_40_code
abbrev my_A_clear : MethodName := ⟨"java/util/ArrayList", "clear", "()V"⟩
abbrev mb_L_snapshot : ByteArray := method_8_code
abbrev my_L_snapshot : MethodName := ⟨"RunKeeperLaw", "snapshot", "(LRunKeeper;[J)I"⟩
abbrev mb_K_snapshot : ByteArray := prog_1_method_10_code
abbrev my_K_snapshot : MethodName := ⟨"RunKeeper", "snapshot", "()I"⟩
abbrev mb_S_leastFree : ByteArray := prog_6_method_3_code
abbrev my_S_leastFree : MethodName := ⟨"RunKeeper$Snapshots", "leastFree", "()I"⟩
abbrev mb_S_keep : ByteArray := prog_6_method_4_code
abbrev my_S_keep : MethodName := ⟨"RunKeeper$Snapshots", "keep", "(II)V"⟩
abbrev mb_L_release : ByteArray := method_9_code
abbrev my_L_release : MethodName := ⟨"RunKeeperLaw", "release", "(LRunKeeper;I)I"⟩
abbrev mb_K_release : ByteArray := prog_1_method_11_code
abbrev my_K_release : MethodName := ⟨"RunKeeper", "release", "(I)V"⟩
abbrev mb_S_has : ByteArray := prog_6_method_2_code
abbrev my_S_has : MethodName := ⟨"RunKeeper$Snapshots", "has", "(I)Z"⟩
abbrev mb_S_forget : ByteArray := prog_6_method_5_code
abbrev my_S_forget : MethodName := ⟨"RunKeeper$Snapshots", "forget", "(I)V"⟩
abbrev mb_L_get : ByteArray := method_10_code
abbrev my_L_get : MethodName := ⟨"RunKeeperLaw", "get", "(LRunKeeper;II[J)I"⟩
abbrev mb_K_get : ByteArray := prog_1_method_12_code
abbrev my_K_get : MethodName := ⟨"RunKeeper", "get", "(II)J"⟩
abbrev mb_K_requireKeyAndView : ByteArray := prog_1_method_30_code
abbrev my_K_requireKeyAndView : MethodName := ⟨"RunKeeper", "requireKeyAndView", "(II)V"⟩
abbrev mb_K_sequenceOf : ByteArray := prog_1_method_31_code
abbrev my_K_sequenceOf : MethodName := ⟨"RunKeeper", "sequenceOf", "(I)I"⟩
abbrev mb_S_sequenceAt : ByteArray := prog_6_method_7_code
abbrev my_S_sequenceAt : MethodName := ⟨"RunKeeper$Snapshots", "sequenceAt", "(I)I"⟩
abbrev mb_K_look : ByteArray := prog_1_method_32_code
abbrev my_K_look : MethodName := ⟨"RunKeeper", "look", "(II)LRunKeeper$Entry;"⟩
abbrev mb_R_latestOf : ByteArray := prog_4_method_11_code
abbrev my_R_latestOf : MethodName := ⟨"RunKeeper$Row", "latestOf", "(II)LRunKeeper$Entry;"⟩
abbrev mb_K_lookInLevel : ByteArray := prog_1_method_33_code
abbrev my_K_lookInLevel : MethodName := ⟨"RunKeeper", "lookInLevel", "(LRunKeeper$Level;II)LRunKeeper$Entry;"⟩
abbrev mb_V_runAt : ByteArray := prog_3_method_4_code
abbrev my_V_runAt : MethodName := ⟨"RunKeeper$Level", "runAt", "(I)LRunKeeper$Run;"⟩
abbrev mb_U_mayHave : ByteArray := prog_5_method_5_code
abbrev my_U_mayHave : MethodName := ⟨"RunKeeper$Run", "mayHave", "(I)Z"⟩
abbrev mb_U_passesFilter : ByteArray := prog_5_method_6_code
abbrev my_U_passesFilter : MethodName := ⟨"RunKeeper$Run", "passesFilter", "(I)Z"⟩
abbrev mb_K_probe : ByteArray := prog_1_method_34_code
abbrev my_K_probe : MethodName := ⟨"RunKeeper", "probe", "(LRunKeeper$Run;II)LRunKeeper$Entry;"⟩
abbrev mb_R_hasKey : ByteArray := prog_4_method_10_code
abbrev my_R_hasKey : MethodName := ⟨"RunKeeper$Row", "hasKey", "(I)Z"⟩
abbrev mb_L_next : ByteArray := method_11_code
abbrev my_L_next : MethodName := ⟨"RunKeeperLaw", "next", "(LRunKeeper;II[J)I"⟩
abbrev mb_K_next : ByteArray := prog_1_method_13_code
abbrev my_K_next : MethodName := ⟨"RunKeeper", "next", "(II)I"⟩
abbrev mb_K_noteNewestOfKeys : ByteArray := prog_1_method_35_code
abbrev my_K_noteNewestOfKeys : MethodName := ⟨"RunKeeper", "noteNewestOfKeys", "(I)V"⟩
abbrev mb_K_noteIfNewest : ByteArray := prog_1_method_36_code
abbrev my_K_noteIfNewest : MethodName := ⟨"RunKeeper", "noteIfNewest", "(LRunKeeper$Entry;I)V"⟩
abbrev mb_L_entry : ByteArray := method_12_code
abbrev my_L_entry : MethodName := ⟨"RunKeeperLaw", "entry", "(LRunKeeper;IIII[J)I"⟩
abbrev mb_K_entry : ByteArray := prog_1_method_14_code
abbrev my_K_entry : MethodName := ⟨"RunKeeper", "entry", "(IIII)I"⟩
abbrev mb_L_count : ByteArray := method_13_code
abbrev my_L_count : MethodName := ⟨"RunKeeperLaw", "count", "(LRunKeeper;II[J)I"⟩
abbrev mb_K_count : ByteArray := prog_1_method_15_code
abbrev my_K_count : MethodName := ⟨"RunKeeper", "count", "(II)I"⟩
abbrev mb_S_taken : ByteArray := prog_6_method_8_code
abbrev my_S_taken : MethodName := ⟨"RunKeeper$Snapshots", "taken", "()I"⟩
abbrev mb_M_init : ByteArray := prog_8_method_1_code
abbrev my_M_init : MethodName := ⟨"RunKeeperModel", "<init>", "()V"⟩
abbrev mb_M_thrown : ByteArray := prog_8_method_2_code
abbrev my_M_thrown : MethodName := ⟨"RunKeeperModel", "thrown", "()I"⟩
abbrev mb_M_put : ByteArray := prog_8_method_8_code
abbrev my_M_put : MethodName := ⟨"RunKeeperModel", "put", "(IJ)I"⟩
abbrev mb_M_written : ByteArray := prog_8_method_7_code
abbrev my_M_written : MethodName := ⟨"RunKeeperModel", "written", "(IJZ)I"⟩
abbrev mb_M_in : ByteArray := prog_8_method_3_code
abbrev my_M_in : MethodName := ⟨"RunKeeperModel", "in", "(III)Z"⟩
abbrev mb_M_fails : ByteArray := prog_8_method_4_code
abbrev my_M_fails : MethodName := ⟨"RunKeeperModel", "fails", "(ZI)Z"⟩
abbrev mb_M_write : ByteArray := prog_8_method_6_code
abbrev my_M_write : MethodName := ⟨"RunKeeperModel", "write", "(IJZ)V"⟩
abbrev mb_M_inRun : ByteArray := prog_8_method_5_code
abbrev my_M_inRun : MethodName := ⟨"RunKeeperModel", "inRun", "(I)I"⟩
abbrev mb_M_flushed : ByteArray := prog_8_method_10_code
abbrev my_M_flushed : MethodName := ⟨"RunKeeperModel", "flushed", "()I"⟩
abbrev mb_M_delete : ByteArray := prog_8_method_9_code
abbrev my_M_delete : MethodName := ⟨"RunKeeperModel", "delete", "(I)I"⟩
abbrev mb_M_batch : ByteArray := prog_8_method_11_code
abbrev my_M_batch : MethodName := ⟨"RunKeeperModel", "batch", "()V"⟩
abbrev mb_M_end : ByteArray := prog_8_method_12_code
abbrev my_M_end : MethodName := ⟨"RunKeeperModel", "end", "(Z)I"⟩
abbrev mb_M_sync : ByteArray := prog_8_method_13_code
abbrev my_M_sync : MethodName := ⟨"RunKeeperModel", "sync", "()I"⟩
abbrev mb_M_flush : ByteArray := prog_8_method_14_code
abbrev my_M_flush : MethodName := ⟨"RunKeeperModel", "flush", "()I"⟩
abbrev mb_M_merge : ByteArray := prog_8_method_20_code
abbrev my_M_merge : MethodName := ⟨"RunKeeperModel", "merge", "(I)I"⟩
abbrev mb_M_step : ByteArray := prog_8_method_16_code
abbrev my_M_step : MethodName := ⟨"RunKeeperModel", "step", "()Z"⟩
abbrev mb_M_runsOf : ByteArray := prog_8_method_15_code
abbrev my_M_runsOf : MethodName := ⟨"RunKeeperModel", "runsOf", "(I)I"⟩
abbrev mb_M_isKept : ByteArray := prog_8_method_17_code
abbrev my_M_isKept : MethodName := ⟨"RunKeeperModel", "isKept", "(II)Z"⟩
abbrev mb_M_isTop : ByteArray := prog_8_method_18_code
abbrev my_M_isTop : MethodName := ⟨"RunKeeperModel", "isTop", "(III)Z"⟩
abbrev mb_M_isLast : ByteArray := prog_8_method_19_code
abbrev my_M_isLast : MethodName := ⟨"RunKeeperModel", "isLast", "(I)Z"⟩
abbrev mb_M_crash : ByteArray := prog_8_method_21_code
abbrev my_M_crash : MethodName := ⟨"RunKeeperModel", "crash", "()I"⟩
abbrev mb_M_snapshot : ByteArray := prog_8_method_22_code
abbrev my_M_snapshot : MethodName := ⟨"RunKeeperModel", "snapshot", "()I"⟩
abbrev mb_M_release : ByteArray := prog_8_method_24_code
abbrev my_M_release : MethodName := ⟨"RunKeeperModel", "release", "(I)V"⟩
abbrev mb_M_isNone : ByteArray := prog_8_method_23_code
abbrev my_M_isNone : MethodName := ⟨"RunKeeperModel", "isNone", "(I)Z"⟩
abbrev mb_M_get : ByteArray := prog_8_method_27_code
abbrev my_M_get : MethodName := ⟨"RunKeeperModel", "get", "(II)J"⟩
abbrev mb_M_upTo : ByteArray := prog_8_method_26_code
abbrev my_M_upTo : MethodName := ⟨"RunKeeperModel", "upTo", "(I)I"⟩
abbrev mb_M_best : ByteArray := prog_8_method_25_code
abbrev my_M_best : MethodName := ⟨"RunKeeperModel", "best", "(II)I"⟩
abbrev mb_M_probe : ByteArray := prog_8_method_28_code
abbrev my_M_probe : MethodName := ⟨"RunKeeperModel", "probe", "(II)V"⟩
abbrev mb_M_isAsked : ByteArray := prog_8_method_30_code
abbrev my_M_isAsked : MethodName := ⟨"RunKeeperModel", "isAsked", "(II)Z"⟩
abbrev mb_M_bit : ByteArray := prog_8_method_29_code
abbrev my_M_bit : MethodName := ⟨"RunKeeperModel", "bit", "(IJI)I"⟩
abbrev mb_M_next : ByteArray := prog_8_method_31_code
abbrev my_M_next : MethodName := ⟨"RunKeeperModel", "next", "(II)I"⟩
abbrev mb_M_entry : ByteArray := prog_8_method_32_code
abbrev my_M_entry : MethodName := ⟨"RunKeeperModel", "entry", "(IIII)I"⟩
abbrev mb_M_comesBefore : ByteArray := prog_8_method_33_code
abbrev my_M_comesBefore : MethodName := ⟨"RunKeeperModel", "comesBefore", "(II)Z"⟩
abbrev mb_M_count : ByteArray := prog_8_method_34_code
abbrev my_M_count : MethodName := ⟨"RunKeeperModel", "count", "(II)I"⟩
end
section
/-! the words by their places in tables_1 (printed by gen/mk_names.py) -/
theorem wi_0 : (Jvm.Cond.initialized "RunKeeperLaw" : Cond) ∈ wd_all := wd_m 0 (by decide +kernel) (by decide +kernel)
theorem wi_1 : (Jvm.Cond.initialized "RunKeeper" : Cond) ∈ wd_all := wd_m 1 (by decide +kernel) (by decide +kernel)
theorem wi_2 : (Jvm.Cond.initialized "RunKeeper$Row" : Cond) ∈ wd_all := wd_m 2 (by decide +kernel) (by decide +kernel)
theorem wi_3 : (Jvm.Cond.initialized "RunKeeper$Snapshots" : Cond) ∈ wd_all := wd_m 3 (by decide +kernel) (by decide +kernel)
theorem wi_4 : (Jvm.Cond.initialized "RunKeeper$Level" : Cond) ∈ wd_all := wd_m 4 (by decide +kernel) (by decide +kernel)
theorem wi_5 : (Jvm.Cond.initialized "java/util/AbstractCollection" : Cond) ∈ wd_all := wd_m 5 (by decide +kernel) (by decide +kernel)
theorem wi_6 : (Jvm.Cond.initialized "java/util/AbstractList" : Cond) ∈ wd_all := wd_m 6 (by decide +kernel) (by decide +kernel)
theorem wi_7 : (Jvm.Cond.initialized "java/util/ArrayList" : Cond) ∈ wd_all := wd_m 7 (by decide +kernel) (by decide +kernel)
theorem wi_8 : (Jvm.Cond.initialized "RunKeeperModel" : Cond) ∈ wd_all := wd_m 8 (by decide +kernel) (by decide +kernel)
theorem wi_9 : (Jvm.Cond.initialized "java/lang/Throwable" : Cond) ∈ wd_all := wd_m 9 (by decide +kernel) (by decide +kernel)
theorem wi_10 : (Jvm.Cond.initialized "java/lang/Exception" : Cond) ∈ wd_all := wd_m 10 (by decide +kernel) (by decide +kernel)
theorem wi_11 : (Jvm.Cond.initialized "java/lang/RuntimeException" : Cond) ∈ wd_all := wd_m 11 (by decide +kernel) (by decide +kernel)
theorem wi_12 : (Jvm.Cond.initialized "java/lang/IllegalArgumentException" : Cond) ∈ wd_all := wd_m 12 (by decide +kernel) (by decide +kernel)
theorem wi_13 : (Jvm.Cond.initialized "java/lang/IndexOutOfBoundsException" : Cond) ∈ wd_all := wd_m 13 (by decide +kernel) (by decide +kernel)
theorem wi_14 : (Jvm.Cond.initialized "RunKeeper$Entry" : Cond) ∈ wd_all := wd_m 14 (by decide +kernel) (by decide +kernel)
theorem wi_15 : (Jvm.Cond.initialized "RunKeeper$Run" : Cond) ∈ wd_all := wd_m 15 (by decide +kernel) (by decide +kernel)
theorem wi_16 : (Jvm.Cond.initialized "jdk/internal/util/ArraysSupport" : Cond) ∈ wd_all := wd_m 16 (by decide +kernel) (by decide +kernel)
theorem wi_17 : (Jvm.Cond.initialized "java/lang/Math" : Cond) ∈ wd_all := wd_m 17 (by decide +kernel) (by decide +kernel)
theorem wi_18 : (Jvm.Cond.initialized "java/util/Arrays" : Cond) ∈ wd_all := wd_m 18 (by decide +kernel) (by decide +kernel)
theorem wi_19 : (Jvm.Cond.initialized "java/lang/System" : Cond) ∈ wd_all := wd_m 19 (by decide +kernel) (by decide +kernel)
theorem wi_20 : (Jvm.Cond.initialized "java/lang/IllegalStateException" : Cond) ∈ wd_all := wd_m 20 (by decide +kernel) (by decide +kernel)
theorem wi_21 : (Jvm.Cond.initialized "java/util/Objects" : Cond) ∈ wd_all := wd_m 21 (by decide +kernel) (by decide +kernel)
theorem wi_22 : (Jvm.Cond.initialized "jdk/internal/util/Preconditions" : Cond) ∈ wd_all := wd_m 22 (by decide +kernel) (by decide +kernel)
theorem wi_23 : (Jvm.Cond.initialized "java/lang/UnsupportedOperationException" : Cond) ∈ wd_all := wd_m 23 (by decide +kernel) (by decide +kernel)
theorem wi_24 : (Jvm.Cond.classLink "RunKeeperLaw" (8 : Nat) "RunKeeper" : Cond) ∈ wd_all := wd_m 24 (by decide +kernel) (by decide +kernel)
theorem wi_25 : (Jvm.Cond.instantiable "RunKeeper" (12 : Nat) : Cond) ∈ wd_all := wd_m 25 (by decide +kernel) (by decide +kernel)
theorem wi_26 : (Jvm.Cond.methodLink "RunKeeperLaw" (58 : Nat) ({ cls := "RunKeeper", name := "<init>", desc := "()V" } : Jvm.MethodName) : Cond) ∈ wd_all := wd_m 26 (by decide +kernel) (by decide +kernel)
theorem wi_27 : (Jvm.Cond.instanceMethod ({ cls := "RunKeeper", name := "<init>", desc := "()V" } : Jvm.MethodName) : Cond) ∈ wd_all := wd_m 27 (by decide +kernel) (by decide +kernel)
theorem wi_28 : (Jvm.Cond.code ({ cls := "RunKeeper", name := "<init>", desc := "()V" } : Jvm.MethodName) prog_1_method_1_code (2 : Nat) (Option.none : Option Jvm.ClassFile.FieldType) : Cond) ∈ wd_all := wd_m 28 (by decide +kernel) (by decide +kernel)
theorem wi_29 : (Jvm.Cond.methodLink "RunKeeper" (1 : Nat) ({ cls := "java/lang/Object", name := "<init>", desc := "()V" } : Jvm.MethodName) : Cond) ∈ wd_all := wd_m 29 (by decide +kernel) (by decide +kernel)
theorem wi_30 : (Jvm.Cond.instanceMethod ({ cls := "java/lang/Object", name := "<init>", desc := "()V" } : Jvm.MethodName) : Cond) ∈ wd_all := wd_m 30 (by decide +kernel) (by decide +kernel)
theorem wi_32 : (Jvm.Cond.classLink "RunKeeper" (7 : Nat) "RunKeeper$Row" : Cond) ∈ wd_all := wd_m 32 (by decide +kernel) (by decide +kernel)
theorem wi_33 : (Jvm.Cond.instantiable "RunKeeper$Row" (2 : Nat) : Cond) ∈ wd_all := wd_m 33 (by decide +kernel) (by decide +kernel)
theorem wi_34 : (Jvm.Cond.methodLink "RunKeeper" (11 : Nat) ({ cls := "RunKeeper$Row", name := "<init>", desc := "(I)V" } : Jvm.MethodName) : Cond) ∈ wd_all := wd_m 34 (by decide +kernel) (by decide +kernel)
theorem wi_35 : (Jvm.Cond.instanceMethod ({ cls := "RunKeeper$Row", name := "<init>", desc := "(I)V" } : Jvm.MethodName) : Cond) ∈ wd_all := wd_m 35 (by decide +kernel) (by decide +kernel)
theorem wi_36 : (Jvm.Cond.code ({ cls := "RunKeeper$Row", name := "<init>", desc := "(I)V" } : Jvm.MethodName) prog_4_method_1_code (2 : Nat) (Option.none : Option Jvm.ClassFile.FieldType) : Cond) ∈ wd_all := wd_m 36 (by decide +kernel) (by decide +kernel)
theorem wi_37 : (Jvm.Cond.methodLink "RunKeeper$Row" (1 : Nat) ({ cls := "java/lang/Object", name := "<init>", desc := "()V" } : Jvm.MethodName) : Cond) ∈ wd_all := wd_m 37 (by decide +kernel) (by decide +kernel)
theorem wi_38 : (Jvm.Cond.classLink "RunKeeper$Row" (13 : Nat) "RunKeeper$Entry" : Cond) ∈ wd_all := wd_m 38 (by decide +kernel) (by decide +kernel)
theorem wi_40 : (Jvm.Cond.fieldLink "RunKeeper$Row" (15 : Nat) "RunKeeper$Row" "slots" "[LRunKeeper$Entry;" : Cond) ∈ wd_all := wd_m 40 (by decide +kernel) (by decide +kernel)
theorem wi_41 : (Jvm.Cond.fieldLink "RunKeeper$Row" (7 : Nat) "RunKeeper$Row" "size" "I" : Cond) ∈ wd_all := wd_m 41 (by decide +kernel) (by decide +kernel)
theorem wi_47 : (Jvm.Cond.classLink "RunKeeper" (21 : Nat) "RunKeeper$Level" : Cond) ∈ wd_all := wd_m 47 (by decide +kernel) (by decide +kernel)
theorem wi_49 : (Jvm.Cond.classLink "RunKeeper" (27 : Nat) "RunKeeper$Snapshots" : Cond) ∈ wd_all := wd_m 49 (by decide +kernel) (by decide +kernel)
theorem wi_50 : (Jvm.Cond.instantiable "RunKeeper$Snapshots" (2 : Nat) : Cond) ∈ wd_all := wd_m 50 (by decide +kernel) (by decide +kernel)
theorem wi_52 : (Jvm.Cond.instanceMethod ({ cls := "RunKeeper$Snapshots", name := "<init>", desc := "()V" } : Jvm.MethodName) : Cond) ∈ wd_all := wd_m 52 (by decide +kernel) (by decide +kernel)
theorem wi_53 : (Jvm.Cond.code ({ cls := "RunKeeper$Snapshots", name := "<init>", desc := "()V" } : Jvm.MethodName) prog_6_method_1_code (1 : Nat) (Option.none : Option Jvm.ClassFile.FieldType) : Cond) ∈ wd_all := wd_m 53 (by decide +kernel) (by decide +kernel)
theorem wi_54 : (Jvm.Cond.methodLink "RunKeeper$Snapshots" (3 : Nat) ({ cls := "java/lang/Object", name := "<init>", desc := "()V" } : Jvm.MethodName) : Cond) ∈ wd_all := wd_m 54 (by decide +kernel) (by decide +kernel)
theorem wi_55 : (Jvm.Cond.fieldLink "RunKeeper$Snapshots" (9 : Nat) "RunKeeper$Snapshots" "sequences" "[I" : Cond) ∈ wd_all := wd_m 55 (by decide +kernel) (by decide +kernel)
theorem wi_56 : (Jvm.Cond.fieldLink "RunKeeper$Snapshots" (15 : Nat) "RunKeeper$Snapshots" "used" "[Z" : Cond) ∈ wd_all := wd_m 56 (by decide +kernel) (by decide +kernel)
theorem wi_62 : (Jvm.Cond.arrayClass Jvm.ClassFile.FieldType.int : Cond) ∈ wd_all := wd_m 62 (by decide +kernel) (by decide +kernel)
theorem wi_63 : (Jvm.Cond.arrayClass Jvm.ClassFile.FieldType.boolean : Cond) ∈ wd_all := wd_m 63 (by decide +kernel) (by decide +kernel)
theorem wi_64 : (Jvm.Cond.classLink "RunKeeper" (40 : Nat) "RunKeeper$Entry" : Cond) ∈ wd_all := wd_m 64 (by decide +kernel) (by decide +kernel)
theorem wi_65 : (Jvm.Cond.instantiable "RunKeeper$Level" (2 : Nat) : Cond) ∈ wd_all := wd_m 65 (by decide +kernel) (by decide +kernel)
theorem wi_67 : (Jvm.Cond.instanceMethod ({ cls := "RunKeeper$Level", name := "<init>", desc := "()V" } : Jvm.MethodName) : Cond) ∈ wd_all := wd_m 67 (by decide +kernel) (by decide +kernel)
theorem wi_68 : (Jvm.Cond.code ({ cls := "RunKeeper$Level", name := "<init>", desc := "()V" } : Jvm.MethodName) prog_3_method_1_code (1 : Nat) (Option.none : Option Jvm.ClassFile.FieldType) : Cond) ∈ wd_all := wd_m 68 (by decide +kernel) (by decide +kernel)
theorem wi_69 : (Jvm.Cond.methodLink "RunKeeper$Level" (1 : Nat) ({ cls := "java/lang/Object", name := "<init>", desc := "()V" } : Jvm.MethodName) : Cond) ∈ wd_all := wd_m 69 (by decide +kernel) (by decide +kernel)
theorem wi_70 : (Jvm.Cond.classLink "RunKeeper$Level" (7 : Nat) "java/util/ArrayList" : Cond) ∈ wd_all := wd_m 70 (by decide +kernel) (by decide +kernel)
theorem wi_71 : (Jvm.Cond.instantiable "java/util/ArrayList" (3 : Nat) : Cond) ∈ wd_all := wd_m 71 (by decide +kernel) (by decide +kernel)
theorem wi_72 : (Jvm.Cond.methodLink "RunKeeper$Level" (9 : Nat) ({ cls := "java/util/ArrayList", name := "<init>", desc := "()V" } : Jvm.MethodName) : Cond) ∈ wd_all := wd_m 72 (by decide +kernel) (by decide +kernel)
theorem wi_73 : (Jvm.Cond.instanceMethod ({ cls := "java/util/ArrayList", name := "<init>", desc := "()V" } : Jvm.MethodName) : Cond) ∈ wd_all := wd_m 73 (by decide +kernel) (by decide +kernel)
theorem wi_74 : (Jvm.Cond.code ({ cls := "java/util/ArrayList", name := "<init>", desc := "()V" } : Jvm.MethodName) prog_24_method_2_code (1 : Nat) (Option.none : Option Jvm.ClassFile.FieldType) : Cond) ∈ wd_all := wd_m 74 (by decide +kernel) (by decide +kernel)
theorem wi_75 : (Jvm.Cond.methodLink "java/util/ArrayList" (1 : Nat) ({ cls := "java/util/AbstractList", name := "<init>", desc := "()V" } : Jvm.MethodName) : Cond) ∈ wd_all := wd_m 75 (by decide +kernel) (by decide +kernel)
theorem wi_76 : (Jvm.Cond.instanceMethod ({ cls := "java/util/AbstractList", name := "<init>", desc := "()V" } : Jvm.MethodName) : Cond) ∈ wd_all := wd_m 76 (by decide +kernel) (by decide +kernel)
theorem wi_77 : (Jvm.Cond.code ({ cls := "java/util/AbstractList", name := "<init>", desc := "()V" } : Jvm.MethodName) prog_23_method_1_code (1 : Nat) (Option.none : Option Jvm.ClassFile.FieldType) : Cond) ∈ wd_all := wd_m 77 (by decide +kernel) (by decide +kernel)
theorem wi_78 : (Jvm.Cond.methodLink "java/util/AbstractList" (1 : Nat) ({ cls := "java/util/AbstractCollection", name := "<init>", desc := "()V" } : Jvm.MethodName) : Cond) ∈ wd_all := wd_m 78 (by decide +kernel) (by decide +kernel)
theorem wi_79 : (Jvm.Cond.instanceMethod ({ cls := "java/util/AbstractCollection", name := "<init>", desc := "()V" } : Jvm.MethodName) : Cond) ∈ wd_all := wd_m 79 (by decide +kernel) (by decide +kernel)
theorem wi_80 : (Jvm.Cond.code ({ cls := "java/util/AbstractCollection", name := "<init>", desc := "()V" } : Jvm.MethodName) prog_22_method_1_code (1 : Nat) (Option.none : Option Jvm.ClassFile.FieldType) : Cond) ∈ wd_all := wd_m 80 (by decide +kernel) (by decide +kernel)
theorem wi_81 : (Jvm.Cond.methodLink "java/util/AbstractCollection" (1 : Nat) ({ cls := "java/lang/Object", name := "<init>", desc := "()V" } : Jvm.MethodName) : Cond) ∈ wd_all := wd_m 81 (by decide +kernel) (by decide +kernel)
theorem wi_82 : (Jvm.Cond.fieldLink "java/util/ArrayList" (39 : Nat) "java/util/ArrayList" "DEFAULTCAPACITY_EMPTY_ELEMENTDATA" "[Ljava/lang/Object;" : Cond) ∈ wd_all := wd_m 82 (by decide +kernel) (by decide +kernel)
theorem wi_84 : (Jvm.Cond.fieldLink "java/util/ArrayList" (9 : Nat) "java/util/ArrayList" "elementData" "[Ljava/lang/Object;" : Cond) ∈ wd_all := wd_m 84 (by decide +kernel) (by decide +kernel)
theorem wi_85 : (Jvm.Cond.fieldLink "java/util/ArrayList" (48 : Nat) "java/util/ArrayList" "size" "I" : Cond) ∈ wd_all := wd_m 85 (by decide +kernel) (by decide +kernel)
theorem wi_86 : (Jvm.Cond.fieldLink "java/util/AbstractList" (7 : Nat) "java/util/AbstractList" "modCount" "I" : Cond) ∈ wd_all := wd_m 86 (by decide +kernel) (by decide +kernel)
theorem wi_87 : (Jvm.Cond.fieldLink "java/util/ArrayList" (63 : Nat) "java/util/ArrayList" "modCount" "I" : Cond) ∈ wd_all := wd_m 87 (by decide +kernel) (by decide +kernel)
theorem wi_88 : (Jvm.Cond.sameField "java/util/ArrayList" "java/util/AbstractList" "modCount" "I" : Cond) ∈ wd_all := wd_m 88 (by decide +kernel) (by decide +kernel)
theorem wi_96 : (Jvm.Cond.fieldLink "RunKeeper$Level" (10 : Nat) "RunKeeper$Level" "runs" "Ljava/util/ArrayList;" : Cond) ∈ wd_all := wd_m 96 (by decide +kernel) (by decide +kernel)
theorem wi_97 : (Jvm.Cond.fieldLink "RunKeeper$Level" (16 : Nat) "RunKeeper$Level" "entryCount" "I" : Cond) ∈ wd_all := wd_m 97 (by decide +kernel) (by decide +kernel)
theorem wi_103 : (Jvm.Cond.fieldLink "RunKeeper" (14 : Nat) "RunKeeper" "table" "LRunKeeper$Row;" : Cond) ∈ wd_all := wd_m 103 (by decide +kernel) (by decide +kernel)
theorem wi_104 : (Jvm.Cond.fieldLink "RunKeeper" (18 : Nat) "RunKeeper" "aside" "LRunKeeper$Row;" : Cond) ∈ wd_all := wd_m 104 (by decide +kernel) (by decide +kernel)
theorem wi_105 : (Jvm.Cond.fieldLink "RunKeeper" (23 : Nat) "RunKeeper" "levels" "[LRunKeeper$Level;" : Cond) ∈ wd_all := wd_m 105 (by decide +kernel) (by decide +kernel)
theorem wi_106 : (Jvm.Cond.fieldLink "RunKeeper" (30 : Nat) "RunKeeper" "snapshots" "LRunKeeper$Snapshots;" : Cond) ∈ wd_all := wd_m 106 (by decide +kernel) (by decide +kernel)
theorem wi_107 : (Jvm.Cond.fieldLink "RunKeeper" (34 : Nat) "RunKeeper" "gathered" "LRunKeeper$Row;" : Cond) ∈ wd_all := wd_m 107 (by decide +kernel) (by decide +kernel)
theorem wi_108 : (Jvm.Cond.fieldLink "RunKeeper" (37 : Nat) "RunKeeper" "kept" "LRunKeeper$Row;" : Cond) ∈ wd_all := wd_m 108 (by decide +kernel) (by decide +kernel)
theorem wi_109 : (Jvm.Cond.fieldLink "RunKeeper" (42 : Nat) "RunKeeper" "newestOfKey" "[LRunKeeper$Entry;" : Cond) ∈ wd_all := wd_m 109 (by decide +kernel) (by decide +kernel)
theorem wi_110 : (Jvm.Cond.fieldLink "RunKeeper" (46 : Nat) "RunKeeper" "safe" "I" : Cond) ∈ wd_all := wd_m 110 (by decide +kernel) (by decide +kernel)
theorem wi_111 : (Jvm.Cond.fieldLink "RunKeeper" (50 : Nat) "RunKeeper" "inBatch" "Z" : Cond) ∈ wd_all := wd_m 111 (by decide +kernel) (by decide +kernel)
theorem wi_112 : (Jvm.Cond.fieldLink "RunKeeper" (54 : Nat) "RunKeeper" "sequence" "I" : Cond) ∈ wd_all := wd_m 112 (by decide +kernel) (by decide +kernel)
theorem wi_113 : (Jvm.Cond.fieldLink "RunKeeper" (57 : Nat) "RunKeeper" "probed" "I" : Cond) ∈ wd_all := wd_m 113 (by decide +kernel) (by decide +kernel)
theorem wi_114 : (Jvm.Cond.fieldLink "RunKeeper" (60 : Nat) "RunKeeper" "probedInVain" "I" : Cond) ∈ wd_all := wd_m 114 (by decide +kernel) (by decide +kernel)
theorem wi_140 : (Jvm.Cond.methodLink "RunKeeperLaw" (85 : Nat) ({ cls := "RunKeeper", name := "sync", desc := "()I" } : Jvm.MethodName) : Cond) ∈ wd_all := wd_m 140 (by decide +kernel) (by decide +kernel)
theorem wi_141 : (Jvm.Cond.instanceMethod ({ cls := "RunKeeper", name := "sync", desc := "()I" } : Jvm.MethodName) : Cond) ∈ wd_all := wd_m 141 (by decide +kernel) (by decide +kernel)
theorem wi_142 : (Jvm.Cond.selects "RunKeeper" ({ cls := "RunKeeper", name := "sync", desc := "()I" } : Jvm.MethodName) ({ cls := "RunKeeper", name := "sync", desc := "()I" } : Jvm.MethodName) : Cond) ∈ wd_all := wd_m 142 (by decide +kernel) (by decide +kernel)
theorem wi_143 : (Jvm.Cond.code ({ cls := "RunKeeper", name := "sync", desc := "()I" } : Jvm.MethodName) prog_1_method_6_code (1 : Nat) (Option.some Jvm.ClassFile.FieldType.int) : Cond) ∈ wd_all := wd_m 143 (by decide +kernel) (by decide +kernel)
theorem wi_144 : (Jvm.Cond.methodLink "RunKeeper" (77 : Nat) ({ cls := "RunKeeper$Row", name := "size", desc := "()I" } : Jvm.MethodName) : Cond) ∈ wd_all := wd_m 144 (by decide +kernel) (by decide +kernel)
theorem wi_145 : (Jvm.Cond.instanceMethod ({ cls := "RunKeeper$Row", name := "size", desc := "()I" } : Jvm.MethodName) : Cond) ∈ wd_all := wd_m 145 (by decide +kernel) (by decide +kernel)
theorem wi_146 : (Jvm.Cond.selects "RunKeeper$Row" ({ cls := "RunKeeper$Row", name := "size", desc := "()I" } : Jvm.MethodName) ({ cls := "RunKeeper$Row", name := "size", desc := "()I" } : Jvm.MethodName) : Cond) ∈ wd_all := wd_m 146 (by decide +kernel) (by decide +kernel)
theorem wi_147 : (Jvm.Cond.code ({ cls := "RunKeeper$Row", name := "size", desc := "()I" } : Jvm.MethodName) prog_4_method_2_code (1 : Nat) (Option.some Jvm.ClassFile.FieldType.int) : Cond) ∈ wd_all := wd_m 147 (by decide +kernel) (by decide +kernel)
theorem wi_148 : (Jvm.Cond.methodLink "RunKeeperLaw" (89 : Nat) ({ cls := "RunKeeper", name := "flush", desc := "()I" } : Jvm.MethodName) : Cond) ∈ wd_all := wd_m 148 (by decide +kernel) (by decide +kernel)
theorem wi_149 : (Jvm.Cond.instanceMethod ({ cls := "RunKeeper", name := "flush", desc := "()I" } : Jvm.MethodName) : Cond) ∈ wd_all := wd_m 149 (by decide +kernel) (by decide +kernel)
theorem wi_150 : (Jvm.Cond.selects "RunKeeper" ({ cls := "RunKeeper", name := "flush", desc := "()I" } : Jvm.MethodName) ({ cls := "RunKeeper", name := "flush", desc := "()I" } : Jvm.MethodName) : Cond) ∈ wd_all := wd_m 150 (by decide +kernel) (by decide +kernel)
theorem wi_151 : (Jvm.Cond.code ({ cls := "RunKeeper", name := "flush", desc := "()I" } : Jvm.MethodName) prog_1_method_7_code (2 : Nat) (Option.some Jvm.ClassFile.FieldType.int) : Cond) ∈ wd_all := wd_m 151 (by decide +kernel) (by decide +kernel)
theorem wi_152 : (Jvm.Cond.methodLink "RunKeeper" (97 : Nat) ({ cls := "RunKeeper", name := "flushTableIfItHas", desc := "(I)V" } : Jvm.MethodName) : Cond) ∈ wd_all := wd_m 152 (by decide +kernel) (by decide +kernel)
theorem wi_154 : (Jvm.Cond.instanceMethod ({ cls := "RunKeeper", name := "flushTableIfItHas", desc := "(I)V" } : Jvm.MethodName) : Cond) ∈ wd_all := wd_m 154 (by decide +kernel) (by decide +kernel)
theorem wi_155 : (Jvm.Cond.code ({ cls := "RunKeeper", name := "flushTableIfItHas", desc := "(I)V" } : Jvm.MethodName) prog_1_method_21_code (2 : Nat) (Option.none : Option Jvm.ClassFile.FieldType) : Cond) ∈ wd_all := wd_m 155 (by decide +kernel) (by decide +kernel)
theorem wi_156 : (Jvm.Cond.methodLink "RunKeeper" (218 : Nat) ({ cls := "RunKeeper$Row", name := "sortAsRun", desc := "()V" } : Jvm.MethodName) : Cond) ∈ wd_all := wd_m 156 (by decide +kernel) (by decide +kernel)
theorem wi_157 : (Jvm.Cond.instanceMethod ({ cls := "RunKeeper$Row", name := "sortAsRun", desc := "()V" } : Jvm.MethodName) : Cond) ∈ wd_all := wd_m 157 (by decide +kernel) (by decide +kernel)
theorem wi_158 : (Jvm.Cond.selects "RunKeeper$Row" ({ cls := "RunKeeper$Row", name := "sortAsRun", desc := "()V" } : Jvm.MethodName) ({ cls := "RunKeeper$Row", name := "sortAsRun", desc := "()V" } : Jvm.MethodName) : Cond) ∈ wd_all := wd_m 158 (by decide +kernel) (by decide +kernel)
theorem wi_159 : (Jvm.Cond.code ({ cls := "RunKeeper$Row", name := "sortAsRun", desc := "()V" } : Jvm.MethodName) prog_4_method_9_code (4 : Nat) (Option.none : Option Jvm.ClassFile.FieldType) : Cond) ∈ wd_all := wd_m 159 (by decide +kernel) (by decide +kernel)
theorem wi_160 : (Jvm.Cond.methodLink "RunKeeper$Row" (27 : Nat) ({ cls := "RunKeeper$Entry", name := "standsBefore", desc := "(LRunKeeper$Entry;)Z" } : Jvm.MethodName) : Cond) ∈ wd_all := wd_m 160 (by decide +kernel) (by decide +kernel)
theorem wi_161 : (Jvm.Cond.instanceMethod ({ cls := "RunKeeper$Entry", name := "standsBefore", desc := "(LRunKeeper$Entry;)Z" } : Jvm.MethodName) : Cond) ∈ wd_all := wd_m 161 (by decide +kernel) (by decide +kernel)
theorem wi_162 : (Jvm.Cond.selects "RunKeeper$Entry" ({ cls := "RunKeeper$Entry", name := "standsBefore", desc := "(LRunKeeper$Entry;)Z" } : Jvm.MethodName) ({ cls := "RunKeeper$Entry", name := "standsBefore", desc := "(LRunKeeper$Entry;)Z" } : Jvm.MethodName) : Cond) ∈ wd_all := wd_m 162 (by decide +kernel) (by decide +kernel)
theorem wi_163 : (Jvm.Cond.code ({ cls := "RunKeeper$Entry", name := "standsBefore", desc := "(LRunKeeper$Entry;)Z" } : Jvm.MethodName) prog_2_method_4_code (2 : Nat) (Option.some Jvm.ClassFile.FieldType.boolean) : Cond) ∈ wd_all := wd_m 163 (by decide +kernel) (by decide +kernel)
theorem wi_164 : (Jvm.Cond.methodLink "RunKeeper" (221 : Nat) ({ cls := "RunKeeper", name := "addRun", desc := "(ILRunKeeper$Row;)V" } : Jvm.MethodName) : Cond) ∈ wd_all := wd_m 164 (by decide +kernel) (by decide +kernel)
theorem wi_166 : (Jvm.Cond.instanceMethod ({ cls := "RunKeeper", name := "addRun", desc := "(ILRunKeeper$Row;)V" } : Jvm.MethodName) : Cond) ∈ wd_all := wd_m 166 (by decide +kernel) (by decide +kernel)
theorem wi_167 : (Jvm.Cond.code ({ cls := "RunKeeper", name := "addRun", desc := "(ILRunKeeper$Row;)V" } : Jvm.MethodName) prog_1_method_22_code (3 : Nat) (Option.none : Option Jvm.ClassFile.FieldType) : Cond) ∈ wd_all := wd_m 167 (by decide +kernel) (by decide +kernel)
theorem wi_168 : (Jvm.Cond.methodLink "RunKeeper" (168 : Nat) ({ cls := "RunKeeper", name := "isLevel", desc := "(I)Z" } : Jvm.MethodName) : Cond) ∈ wd_all := wd_m 168 (by decide +kernel) (by decide +kernel)
theorem wi_169 : (Jvm.Cond.static ({ cls := "RunKeeper", name := "isLevel", desc := "(I)Z" } : Jvm.MethodName) : Cond) ∈ wd_all := wd_m 169 (by decide +kernel) (by decide +kernel)
theorem wi_170 : (Jvm.Cond.code ({ cls := "RunKeeper", name := "isLevel", desc := "(I)Z" } : Jvm.MethodName) prog_1_method_17_code (1 : Nat) (Option.some Jvm.ClassFile.FieldType.boolean) : Cond) ∈ wd_all := wd_m 170 (by decide +kernel) (by decide +kernel)
theorem wi_171 : (Jvm.Cond.classLink "RunKeeper" (178 : Nat) "RunKeeper$Run" : Cond) ∈ wd_all := wd_m 171 (by decide +kernel) (by decide +kernel)
theorem wi_172 : (Jvm.Cond.instantiable "RunKeeper$Run" (2 : Nat) : Cond) ∈ wd_all := wd_m 172 (by decide +kernel) (by decide +kernel)
theorem wi_173 : (Jvm.Cond.methodLink "RunKeeper" (225 : Nat) ({ cls := "RunKeeper$Run", name := "<init>", desc := "(LRunKeeper$Row;)V" } : Jvm.MethodName) : Cond) ∈ wd_all := wd_m 173 (by decide +kernel) (by decide +kernel)
theorem wi_174 : (Jvm.Cond.instanceMethod ({ cls := "RunKeeper$Run", name := "<init>", desc := "(LRunKeeper$Row;)V" } : Jvm.MethodName) : Cond) ∈ wd_all := wd_m 174 (by decide +kernel) (by decide +kernel)
theorem wi_175 : (Jvm.Cond.code ({ cls := "RunKeeper$Run", name := "<init>", desc := "(LRunKeeper$Row;)V" } : Jvm.MethodName) prog_5_method_1_code (3 : Nat) (Option.none : Option Jvm.ClassFile.FieldType) : Cond) ∈ wd_all := wd_m 175 (by decide +kernel) (by decide +kernel)
theorem wi_176 : (Jvm.Cond.methodLink "RunKeeper$Run" (1 : Nat) ({ cls := "java/lang/Object", name := "<init>", desc := "()V" } : Jvm.MethodName) : Cond) ∈ wd_all := wd_m 176 (by decide +kernel) (by decide +kernel)
theorem wi_177 : (Jvm.Cond.classLink "RunKeeper$Run" (7 : Nat) "RunKeeper$Row" : Cond) ∈ wd_all := wd_m 177 (by decide +kernel) (by decide +kernel)
theorem wi_178 : (Jvm.Cond.methodLink "RunKeeper$Run" (9 : Nat) ({ cls := "RunKeeper$Row", name := "size", desc := "()I" } : Jvm.MethodName) : Cond) ∈ wd_all := wd_m 178 (by decide +kernel) (by decide +kernel)
theorem wi_179 : (Jvm.Cond.methodLink "RunKeeper$Run" (13 : Nat) ({ cls := "RunKeeper$Row", name := "<init>", desc := "(I)V" } : Jvm.MethodName) : Cond) ∈ wd_all := wd_m 179 (by decide +kernel) (by decide +kernel)
theorem wi_180 : (Jvm.Cond.methodLink "RunKeeper$Run" (22 : Nat) ({ cls := "RunKeeper$Row", name := "addAll", desc := "(LRunKeeper$Row;)V" } : Jvm.MethodName) : Cond) ∈ wd_all := wd_m 180 (by decide +kernel) (by decide +kernel)
theorem wi_181 : (Jvm.Cond.instanceMethod ({ cls := "RunKeeper$Row", name := "addAll", desc := "(LRunKeeper$Row;)V" } : Jvm.MethodName) : Cond) ∈ wd_all := wd_m 181 (by decide +kernel) (by decide +kernel)
theorem wi_182 : (Jvm.Cond.selects "RunKeeper$Row" ({ cls := "RunKeeper$Row", name := "addAll", desc := "(LRunKeeper$Row;)V" } : Jvm.MethodName) ({ cls := "RunKeeper$Row", name := "addAll", desc := "(LRunKeeper$Row;)V" } : Jvm.MethodName) : Cond) ∈ wd_all := wd_m 182 (by decide +kernel) (by decide +kernel)
theorem wi_183 : (Jvm.Cond.code ({ cls := "RunKeeper$Row", name := "addAll", desc := "(LRunKeeper$Row;)V" } : Jvm.MethodName) prog_4_method_6_code (3 : Nat) (Option.none : Option Jvm.ClassFile.FieldType) : Cond) ∈ wd_all := wd_m 183 (by decide +kernel) (by decide +kernel)
theorem wi_184 : (Jvm.Cond.methodLink "RunKeeper$Row" (19 : Nat) ({ cls := "RunKeeper$Row", name := "add", desc := "(LRunKeeper$Entry;)V" } : Jvm.MethodName) : Cond) ∈ wd_all := wd_m 184 (by decide +kernel) (by decide +kernel)
theorem wi_185 : (Jvm.Cond.instanceMethod ({ cls := "RunKeeper$Row", name := "add", desc := "(LRunKeeper$Entry;)V" } : Jvm.MethodName) : Cond) ∈ wd_all := wd_m 185 (by decide +kernel) (by decide +kernel)
theorem wi_186 : (Jvm.Cond.selects "RunKeeper$Row" ({ cls := "RunKeeper$Row", name := "add", desc := "(LRunKeeper$Entry;)V" } : Jvm.MethodName) ({ cls := "RunKeeper$Row", name := "add", desc := "(LRunKeeper$Entry;)V" } : Jvm.MethodName) : Cond) ∈ wd_all := wd_m 186 (by decide +kernel) (by decide +kernel)
theorem wi_187 : (Jvm.Cond.code ({ cls := "RunKeeper$Row", name := "add", desc := "(LRunKeeper$Entry;)V" } : Jvm.MethodName) prog_4_method_5_code (2 : Nat) (Option.none : Option Jvm.ClassFile.FieldType) : Cond) ∈ wd_all := wd_m 187 (by decide +kernel) (by decide +kernel)
theorem wi_188 : (Jvm.Cond.methodLink "RunKeeper$Run" (30 : Nat) ({ cls := "RunKeeper$Row", name := "at", desc := "(I)LRunKeeper$Entry;" } : Jvm.MethodName) : Cond) ∈ wd_all := wd_m 188 (by decide +kernel) (by decide +kernel)
theorem wi_189 : (Jvm.Cond.instanceMethod ({ cls := "RunKeeper$Row", name := "at", desc := "(I)LRunKeeper$Entry;" } : Jvm.MethodName) : Cond) ∈ wd_all := wd_m 189 (by decide +kernel) (by decide +kernel)
theorem wi_190 : (Jvm.Cond.selects "RunKeeper$Row" ({ cls := "RunKeeper$Row", name := "at", desc := "(I)LRunKeeper$Entry;" } : Jvm.MethodName) ({ cls := "RunKeeper$Row", name := "at", desc := "(I)LRunKeeper$Entry;" } : Jvm.MethodName) : Cond) ∈ wd_all := wd_m 190 (by decide +kernel) (by decide +kernel)
theorem wi_191 : (Jvm.Cond.code ({ cls := "RunKeeper$Row", name := "at", desc := "(I)LRunKeeper$Entry;" } : Jvm.MethodName) prog_4_method_4_code (2 : Nat) (Option.some (Jvm.ClassFile.FieldType.object "RunKeeper$Entry")) : Cond) ∈ wd_all := wd_m 191 (by decide +kernel) (by decide +kernel)
theorem wi_192 : (Jvm.Cond.methodLink "RunKeeper$Run" (34 : Nat) ({ cls := "RunKeeper$Run", name := "setBits", desc := "([JLRunKeeper$Entry;)V" } : Jvm.MethodName) : Cond) ∈ wd_all := wd_m 192 (by decide +kernel) (by decide +kernel)
theorem wi_193 : (Jvm.Cond.static ({ cls := "RunKeeper$Run", name := "setBits", desc := "([JLRunKeeper$Entry;)V" } : Jvm.MethodName) : Cond) ∈ wd_all := wd_m 193 (by decide +kernel) (by decide +kernel)
theorem wi_194 : (Jvm.Cond.code ({ cls := "RunKeeper$Run", name := "setBits", desc := "([JLRunKeeper$Entry;)V" } : Jvm.MethodName) prog_5_method_2_code (4 : Nat) (Option.none : Option Jvm.ClassFile.FieldType) : Cond) ∈ wd_all := wd_m 194 (by decide +kernel) (by decide +kernel)
theorem wi_195 : (Jvm.Cond.fieldLink "RunKeeper$Run" (38 : Nat) "RunKeeper$Run" "FACTORS" "[I" : Cond) ∈ wd_all := wd_m 195 (by decide +kernel) (by decide +kernel)
theorem wi_197 : (Jvm.Cond.methodLink "RunKeeper$Run" (48 : Nat) ({ cls := "RunKeeper$Run", name := "bitOf", desc := "(II[J)I" } : Jvm.MethodName) : Cond) ∈ wd_all := wd_m 197 (by decide +kernel) (by decide +kernel)
theorem wi_198 : (Jvm.Cond.static ({ cls := "RunKeeper$Run", name := "bitOf", desc := "(II[J)I" } : Jvm.MethodName) : Cond) ∈ wd_all := wd_m 198 (by decide +kernel) (by decide +kernel)
theorem wi_199 : (Jvm.Cond.code ({ cls := "RunKeeper$Run", name := "bitOf", desc := "(II[J)I" } : Jvm.MethodName) prog_5_method_3_code (4 : Nat) (Option.some Jvm.ClassFile.FieldType.int) : Cond) ∈ wd_all := wd_m 199 (by decide +kernel) (by decide +kernel)
theorem wi_200 : (Jvm.Cond.fieldLink "RunKeeper$Run" (16 : Nat) "RunKeeper$Run" "entries" "LRunKeeper$Row;" : Cond) ∈ wd_all := wd_m 200 (by decide +kernel) (by decide +kernel)
theorem wi_201 : (Jvm.Cond.fieldLink "RunKeeper$Run" (26 : Nat) "RunKeeper$Run" "filter" "[J" : Cond) ∈ wd_all := wd_m 201 (by decide +kernel) (by decide +kernel)
theorem wi_207 : (Jvm.Cond.arrayClass Jvm.ClassFile.FieldType.long : Cond) ∈ wd_all := wd_m 207 (by decide +kernel) (by decide +kernel)
theorem wi_208 : (Jvm.Cond.methodLink "RunKeeper" (228 : Nat) ({ cls := "RunKeeper$Level", name := "add", desc := "(LRunKeeper$Run;)V" } : Jvm.MethodName) : Cond) ∈ wd_all := wd_m 208 (by decide +kernel) (by decide +kernel)
theorem wi_209 : (Jvm.Cond.instanceMethod ({ cls := "RunKeeper$Level", name := "add", desc := "(LRunKeeper$Run;)V" } : Jvm.MethodName) : Cond) ∈ wd_all := wd_m 209 (by decide +kernel) (by decide +kernel)
theorem wi_210 : (Jvm.Cond.selects "RunKeeper$Level" ({ cls := "RunKeeper$Level", name := "add", desc := "(LRunKeeper$Run;)V" } : Jvm.MethodName) ({ cls := "RunKeeper$Level", name := "add", desc := "(LRunKeeper$Run;)V" } : Jvm.MethodName) : Cond) ∈ wd_all := wd_m 210 (by decide +kernel) (by decide +kernel)
theorem wi_211 : (Jvm.Cond.code ({ cls := "RunKeeper$Level", name := "add", desc := "(LRunKeeper$Run;)V" } : Jvm.MethodName) prog_3_method_5_code (2 : Nat) (Option.none : Option Jvm.ClassFile.FieldType) : Cond) ∈ wd_all := wd_m 211 (by decide +kernel) (by decide +kernel)
theorem wi_212 : (Jvm.Cond.methodLink "RunKeeper$Level" (30 : Nat) ({ cls := "java/util/ArrayList", name := "add", desc := "(Ljava/lang/Object;)Z" } : Jvm.MethodName) : Cond) ∈ wd_all := wd_m 212 (by decide +kernel) (by decide +kernel)
theorem wi_213 : (Jvm.Cond.instanceMethod ({ cls := "java/util/ArrayList", name := "add", desc := "(Ljava/lang/Object;)Z" } : Jvm.MethodName) : Cond) ∈ wd_all := wd_m 213 (by decide +kernel) (by decide +kernel)
theorem wi_214 : (Jvm.Cond.selects "java/util/ArrayList" ({ cls := "java/util/ArrayList", name := "add", desc := "(Ljava/lang/Object;)Z" } : Jvm.MethodName) ({ cls := "java/util/ArrayList", name := "add", desc := "(Ljava/lang/Object;)Z" } : Jvm.MethodName) : Cond) ∈ wd_all := wd_m 214 (by decide +kernel) (by decide +kernel)
theorem wi_215 : (Jvm.Cond.code ({ cls := "java/util/ArrayList", name := "add", desc := "(Ljava/lang/Object;)Z" } : Jvm.MethodName) prog_24_method_25_code (2 : Nat) (Option.some Jvm.ClassFile.FieldType.boolean) : Cond) ∈ wd_all := wd_m 215 (by decide +kernel) (by decide +kernel)
theorem wi_216 : (Jvm.Cond.methodLink "java/util/ArrayList" (131 : Nat) ({ cls := "java/util/ArrayList", name := "add", desc := "(Ljava/lang/Object;[Ljava/lang/Object;I)V" } : Jvm.MethodName) : Cond) ∈ wd_all := wd_m 216 (by decide +kernel) (by decide +kernel)
theorem wi_218 : (Jvm.Cond.instanceMethod ({ cls := "java/util/ArrayList", name := "add", desc := "(Ljava/lang/Object;[Ljava/lang/Object;I)V" } : Jvm.MethodName) : Cond) ∈ wd_all := wd_m 218 (by decide +kernel) (by decide +kernel)
theorem wi_219 : (Jvm.Cond.code ({ cls := "java/util/ArrayList", name := "add", desc := "(Ljava/lang/Object;[Ljava/lang/Object;I)V" } : Jvm.MethodName) prog_24_method_24_code (4 : Nat) (Option.none : Option Jvm.ClassFile.FieldType) : Cond) ∈ wd_all := wd_m 219 (by decide +kernel) (by decide +kernel)
theorem wi_220 : (Jvm.Cond.methodLink "java/util/ArrayList" (129 : Nat) ({ cls := "java/util/ArrayList", name := "grow", desc := "()[Ljava/lang/Object;" } : Jvm.MethodName) : Cond) ∈ wd_all := wd_m 220 (by decide +kernel) (by decide +kernel)
theorem wi_222 : (Jvm.Cond.instanceMethod ({ cls := "java/util/ArrayList", name := "grow", desc := "()[Ljava/lang/Object;" } : Jvm.MethodName) : Cond) ∈ wd_all := wd_m 222 (by decide +kernel) (by decide +kernel)
theorem wi_223 : (Jvm.Cond.code ({ cls := "java/util/ArrayList", name := "grow", desc := "()[Ljava/lang/Object;" } : Jvm.MethodName) prog_24_method_7_code (1 : Nat) (Option.some (Jvm.ClassFile.FieldType.array (Jvm.ClassFile.FieldType.object "java/lang/Object"))) : Cond) ∈ wd_all := wd_m 223 (by decide +kernel) (by decide +kernel)
theorem wi_224 : (Jvm.Cond.methodLink "java/util/ArrayList" (69 : Nat) ({ cls := "java/util/ArrayList", name := "grow", desc := "(I)[Ljava/lang/Object;" } : Jvm.MethodName) : Cond) ∈ wd_all := wd_m 224 (by decide +kernel) (by decide +kernel)
theorem wi_226 : (Jvm.Cond.instanceMethod ({ cls := "java/util/ArrayList", name := "grow", desc := "(I)[Ljava/lang/Object;" } : Jvm.MethodName) : Cond) ∈ wd_all := wd_m 226 (by decide +kernel) (by decide +kernel)
theorem wi_227 : (Jvm.Cond.code ({ cls := "java/util/ArrayList", name := "grow", desc := "(I)[Ljava/lang/Object;" } : Jvm.MethodName) prog_24_method_6_code (4 : Nat) (Option.some (Jvm.ClassFile.FieldType.array (Jvm.ClassFile.FieldType.object "java/lang/Object"))) : Cond) ∈ wd_all := wd_m 227 (by decide +kernel) (by decide +kernel)
theorem wi_228 : (Jvm.Cond.methodLink "java/util/ArrayList" (73 : Nat) ({ cls := "jdk/internal/util/ArraysSupport", name := "newLength", desc := "(III)I" } : Jvm.MethodName) : Cond) ∈ wd_all := wd_m 228 (by decide +kernel) (by decide +kernel)
theorem wi_229 : (Jvm.Cond.static ({ cls := "jdk/internal/util/ArraysSupport", name := "newLength", desc := "(III)I" } : Jvm.MethodName) : Cond) ∈ wd_all := wd_m 229 (by decide +kernel) (by decide +kernel)
theorem wi_230 : (Jvm.Cond.code ({ cls := "jdk/internal/util/ArraysSupport", name := "newLength", desc := "(III)I" } : Jvm.MethodName) prog_31_method_27_code (4 : Nat) (Option.some Jvm.ClassFile.FieldType.int) : Cond) ∈ wd_all := wd_m 230 (by decide +kernel) (by decide +kernel)
theorem wi_231 : (Jvm.Cond.methodLink "jdk/internal/util/ArraysSupport" (194 : Nat) ({ cls := "java/lang/Math", name := "max", desc := "(II)I" } : Jvm.MethodName) : Cond) ∈ wd_all := wd_m 231 (by decide +kernel) (by decide +kernel)
theorem wi_232 : (Jvm.Cond.static ({ cls := "java/lang/Math", name := "max", desc := "(II)I" } : Jvm.MethodName) : Cond) ∈ wd_all := wd_m 232 (by decide +kernel) (by decide +kernel)
theorem wi_233 : (Jvm.Cond.code ({ cls := "java/lang/Math", name := "max", desc := "(II)I" } : Jvm.MethodName) prog_16_method_65_code (2 : Nat) (Option.some Jvm.ClassFile.FieldType.int) : Cond) ∈ wd_all := wd_m 233 (by decide +kernel) (by decide +kernel)
theorem wi_234 : (Jvm.Cond.constant "jdk/internal/util/ArraysSupport" (200 : Nat) (2147483639 : Int32) : Cond) ∈ wd_all := wd_m 234 (by decide +kernel) (by decide +kernel)
theorem wi_235 : (Jvm.Cond.methodLink "jdk/internal/util/ArraysSupport" (201 : Nat) ({ cls := "jdk/internal/util/ArraysSupport", name := "hugeLength", desc := "(II)I" } : Jvm.MethodName) : Cond) ∈ wd_all := wd_m 235 (by decide +kernel) (by decide +kernel)
theorem wi_236 : (Jvm.Cond.static ({ cls := "jdk/internal/util/ArraysSupport", name := "hugeLength", desc := "(II)I" } : Jvm.MethodName) : Cond) ∈ wd_all := wd_m 236 (by decide +kernel) (by decide +kernel)
theorem wi_237 : (Jvm.Cond.code ({ cls := "jdk/internal/util/ArraysSupport", name := "hugeLength", desc := "(II)I" } : Jvm.MethodName) prog_31_method_28_code (3 : Nat) (Option.some Jvm.ClassFile.FieldType.int) : Cond) ∈ wd_all := wd_m 237 (by decide +kernel) (by decide +kernel)
theorem wi_238 : (Jvm.Cond.methodLink "java/util/ArrayList" (66 : Nat) ({ cls := "java/util/Arrays", name := "copyOf", desc := "([Ljava/lang/Object;I)[Ljava/lang/Object;" } : Jvm.MethodName) : Cond) ∈ wd_all := wd_m 238 (by decide +kernel) (by decide +kernel)
theorem wi_239 : (Jvm.Cond.static ({ cls := "java/util/Arrays", name := "copyOf", desc := "([Ljava/lang/Object;I)[Ljava/lang/Object;" } : Jvm.MethodName) : Cond) ∈ wd_all := wd_m 239 (by decide +kernel) (by decide +kernel)
theorem wi_240 : (Jvm.Cond.code ({ cls := "java/util/Arrays", name := "copyOf", desc := "([Ljava/lang/Object;I)[Ljava/lang/Object;" } : Jvm.MethodName) prog_25_method_119_code (2 : Nat) (Option.some (Jvm.ClassFile.FieldType.array (Jvm.ClassFile.FieldType.object "java/lang/Object"))) : Cond) ∈ wd_all := wd_m 240 (by decide +kernel) (by decide +kernel)
theorem wi_241 : (Jvm.Cond.methodLink "java/util/Arrays" (86 : Nat) ({ cls := "java/lang/Object", name := "getClass", desc := "()Ljava/lang/Class;" } : Jvm.MethodName) : Cond) ∈ wd_all := wd_m 241 (by decide +kernel) (by decide +kernel)
theorem wi_242 : (Jvm.Cond.instanceMethod ({ cls := "java/lang/Object", name := "getClass", desc := "()Ljava/lang/Class;" } : Jvm.MethodName) : Cond) ∈ wd_all := wd_m 242 (by decide +kernel) (by decide +kernel)
theorem wi_243 : (Jvm.Cond.sameMethod "java/lang/Object" "java/lang/Object" "getClass" "()Ljava/lang/Class;" : Cond) ∈ wd_all := wd_m 243 (by decide +kernel) (by decide +kernel)
theorem wi_244 : (Jvm.Cond.selects "RunKeeper" ({ cls := "java/lang/Object", name := "getClass", desc := "()Ljava/lang/Class;" } : Jvm.MethodName) ({ cls := "java/lang/Object", name := "getClass", desc := "()Ljava/lang/Class;" } : Jvm.MethodName) : Cond) ∈ wd_all := wd_m 244 (by decide +kernel) (by decide +kernel)
theorem wi_245 : (Jvm.Cond.selects "RunKeeper$Entry" ({ cls := "java/lang/Object", name := "getClass", desc := "()Ljava/lang/Class;" } : Jvm.MethodName) ({ cls := "java/lang/Object", name := "getClass", desc := "()Ljava/lang/Class;" } : Jvm.MethodName) : Cond) ∈ wd_all := wd_m 245 (by decide +kernel) (by decide +kernel)
theorem wi_246 : (Jvm.Cond.selects "RunKeeper$Level" ({ cls := "java/lang/Object", name := "getClass", desc := "()Ljava/lang/Class;" } : Jvm.MethodName) ({ cls := "java/lang/Object", name := "getClass", desc := "()Ljava/lang/Class;" } : Jvm.MethodName) : Cond) ∈ wd_all := wd_m 246 (by decide +kernel) (by decide +kernel)
theorem wi_247 : (Jvm.Cond.selects "RunKeeper$Row" ({ cls := "java/lang/Object", name := "getClass", desc := "()Ljava/lang/Class;" } : Jvm.MethodName) ({ cls := "java/lang/Object", name := "getClass", desc := "()Ljava/lang/Class;" } : Jvm.MethodName) : Cond) ∈ wd_all := wd_m 247 (by decide +kernel) (by decide +kernel)
theorem wi_248 : (Jvm.Cond.selects "RunKeeper$Run" ({ cls := "java/lang/Object", name := "getClass", desc := "()Ljava/lang/Class;" } : Jvm.MethodName) ({ cls := "java/lang/Object", name := "getClass", desc := "()Ljava/lang/Class;" } : Jvm.MethodName) : Cond) ∈ wd_all := wd_m 248 (by decide +kernel) (by decide +kernel)
theorem wi_249 : (Jvm.Cond.selects "RunKeeper$Snapshots" ({ cls := "java/lang/Object", name := "getClass", desc := "()Ljava/lang/Class;" } : Jvm.MethodName) ({ cls := "java/lang/Object", name := "getClass", desc := "()Ljava/lang/Class;" } : Jvm.MethodName) : Cond) ∈ wd_all := wd_m 249 (by decide +kernel) (by decide +kernel)
theorem wi_250 : (Jvm.Cond.selects "RunKeeperModel" ({ cls := "java/lang/Object", name := "getClass", desc := "()Ljava/lang/Class;" } : Jvm.MethodName) ({ cls := "java/lang/Object", name := "getClass", desc := "()Ljava/lang/Class;" } : Jvm.MethodName) : Cond) ∈ wd_all := wd_m 250 (by decide +kernel) (by decide +kernel)
theorem wi_251 : (Jvm.Cond.selects "java/lang/IllegalArgumentException" ({ cls := "java/lang/Object", name := "getClass", desc := "()Ljava/lang/Class;" } : Jvm.MethodName) ({ cls := "java/lang/Object", name := "getClass", desc := "()Ljava/lang/Class;" } : Jvm.MethodName) : Cond) ∈ wd_all := wd_m 251 (by decide +kernel) (by decide +kernel)
theorem wi_252 : (Jvm.Cond.selects "java/lang/IllegalStateException" ({ cls := "java/lang/Object", name := "getClass", desc := "()Ljava/lang/Class;" } : Jvm.MethodName) ({ cls := "java/lang/Object", name := "getClass", desc := "()Ljava/lang/Class;" } : Jvm.MethodName) : Cond) ∈ wd_all := wd_m 252 (by decide +kernel) (by decide +kernel)
theorem wi_253 : (Jvm.Cond.selects "java/lang/IndexOutOfBoundsException" ({ cls := "java/lang/Object", name := "getClass", desc := "()Ljava/lang/Class;" } : Jvm.MethodName) ({ cls := "java/lang/Object", name := "getClass", desc := "()Ljava/lang/Class;" } : Jvm.MethodName) : Cond) ∈ wd_all := wd_m 253 (by decide +kernel) (by decide +kernel)
theorem wi_254 : (Jvm.Cond.selects "java/lang/UnsupportedOperationException" ({ cls := "java/lang/Object", name := "getClass", desc := "()Ljava/lang/Class;" } : Jvm.MethodName) ({ cls := "java/lang/Object", name := "getClass", desc := "()Ljava/lang/Class;" } : Jvm.MethodName) : Cond) ∈ wd_all := wd_m 254 (by decide +kernel) (by decide +kernel)
theorem wi_255 : (Jvm.Cond.selects "java/util/ArrayList" ({ cls := "java/lang/Object", name := "getClass", desc := "()Ljava/lang/Class;" } : Jvm.MethodName) ({ cls := "java/lang/Object", name := "getClass", desc := "()Ljava/lang/Class;" } : Jvm.MethodName) : Cond) ∈ wd_all := wd_m 255 (by decide +kernel) (by decide +kernel)
theorem wi_256 : (Jvm.Cond.native ({ cls := "java/lang/Object", name := "getClass", desc := "()Ljava/lang/Class;" } : Jvm.MethodName) : Cond) ∈ wd_all := wd_m 256 (by decide +kernel) (by decide +kernel)
theorem wi_257 : (Jvm.Cond.methodLink "java/util/Arrays" (300 : Nat) ({ cls := "java/util/Arrays", name := "copyOf", desc := "([Ljava/lang/Object;ILjava/lang/Class;)[Ljava/lang/Object;" } : Jvm.MethodName) : Cond) ∈ wd_all := wd_m 257 (by decide +kernel) (by decide +kernel)
theorem wi_258 : (Jvm.Cond.static ({ cls := "java/util/Arrays", name := "copyOf", desc := "([Ljava/lang/Object;ILjava/lang/Class;)[Ljava/lang/Object;" } : Jvm.MethodName) : Cond) ∈ wd_all := wd_m 258 (by decide +kernel) (by decide +kernel)
theorem wi_259 : (Jvm.Cond.code ({ cls := "java/util/Arrays", name := "copyOf", desc := "([Ljava/lang/Object;ILjava/lang/Class;)[Ljava/lang/Object;" } : Jvm.MethodName) prog_25_method_120_code (4 : Nat) (Option.some (Jvm.ClassFile.FieldType.array (Jvm.ClassFile.FieldType.object "java/lang/Object"))) : Cond) ∈ wd_all := wd_m 259 (by decide +kernel) (by decide +kernel)
theorem wi_260 : (Jvm.Cond.classLink "java/util/Arrays" (110 : Nat) "[Ljava/lang/Object;" : Cond) ∈ wd_all := wd_m 260 (by decide +kernel) (by decide +kernel)
theorem wi_262 : (Jvm.Cond.classLink "java/util/Arrays" (2 : Nat) "java/lang/Object" : Cond) ∈ wd_all := wd_m 262 (by decide +kernel) (by decide +kernel)
theorem wi_263 : (Jvm.Cond.methodLink "java/util/Arrays" (304 : Nat) ({ cls := "java/lang/Math", name := "min", desc := "(II)I" } : Jvm.MethodName) : Cond) ∈ wd_all := wd_m 263 (by decide +kernel) (by decide +kernel)
theorem wi_264 : (Jvm.Cond.static ({ cls := "java/lang/Math", name := "min", desc := "(II)I" } : Jvm.MethodName) : Cond) ∈ wd_all := wd_m 264 (by decide +kernel) (by decide +kernel)
theorem wi_265 : (Jvm.Cond.code ({ cls := "java/lang/Math", name := "min", desc := "(II)I" } : Jvm.MethodName) prog_16_method_69_code (2 : Nat) (Option.some Jvm.ClassFile.FieldType.int) : Cond) ∈ wd_all := wd_m 265 (by decide +kernel) (by decide +kernel)
theorem wi_266 : (Jvm.Cond.methodLink "java/util/Arrays" (150 : Nat) ({ cls := "java/lang/System", name := "arraycopy", desc := "(Ljava/lang/Object;ILjava/lang/Object;II)V" } : Jvm.MethodName) : Cond) ∈ wd_all := wd_m 266 (by decide +kernel) (by decide +kernel)
theorem wi_267 : (Jvm.Cond.static ({ cls := "java/lang/System", name := "arraycopy", desc := "(Ljava/lang/Object;ILjava/lang/Object;II)V" } : Jvm.MethodName) : Cond) ∈ wd_all := wd_m 267 (by decide +kernel) (by decide +kernel)
theorem wi_268 : (Jvm.Cond.native ({ cls := "java/lang/System", name := "arraycopy", desc := "(Ljava/lang/Object;ILjava/lang/Object;II)V" } : Jvm.MethodName) : Cond) ∈ wd_all := wd_m 268 (by decide +kernel) (by decide +kernel)
theorem wi_269 : (Jvm.Cond.methodLink "java/util/ArrayList" (79 : Nat) ({ cls := "java/lang/Math", name := "max", desc := "(II)I" } : Jvm.MethodName) : Cond) ∈ wd_all := wd_m 269 (by decide +kernel) (by decide +kernel)
theorem wi_270 : (Jvm.Cond.classLink "java/util/ArrayList" (7 : Nat) "java/lang/Object" : Cond) ∈ wd_all := wd_m 270 (by decide +kernel) (by decide +kernel)
theorem wi_271 : (Jvm.Cond.methodLink "RunKeeper$Level" (34 : Nat) ({ cls := "RunKeeper$Run", name := "entries", desc := "()LRunKeeper$Row;" } : Jvm.MethodName) : Cond) ∈ wd_all := wd_m 271 (by decide +kernel) (by decide +kernel)
theorem wi_272 : (Jvm.Cond.instanceMethod ({ cls := "RunKeeper$Run", name := "entries", desc := "()LRunKeeper$Row;" } : Jvm.MethodName) : Cond) ∈ wd_all := wd_m 272 (by decide +kernel) (by decide +kernel)
theorem wi_273 : (Jvm.Cond.selects "RunKeeper$Run" ({ cls := "RunKeeper$Run", name := "entries", desc := "()LRunKeeper$Row;" } : Jvm.MethodName) ({ cls := "RunKeeper$Run", name := "entries", desc := "()LRunKeeper$Row;" } : Jvm.MethodName) : Cond) ∈ wd_all := wd_m 273 (by decide +kernel) (by decide +kernel)
theorem wi_274 : (Jvm.Cond.code ({ cls := "RunKeeper$Run", name := "entries", desc := "()LRunKeeper$Row;" } : Jvm.MethodName) prog_5_method_4_code (1 : Nat) (Option.some (Jvm.ClassFile.FieldType.object "RunKeeper$Row")) : Cond) ∈ wd_all := wd_m 274 (by decide +kernel) (by decide +kernel)
theorem wi_275 : (Jvm.Cond.methodLink "RunKeeper$Level" (38 : Nat) ({ cls := "RunKeeper$Row", name := "size", desc := "()I" } : Jvm.MethodName) : Cond) ∈ wd_all := wd_m 275 (by decide +kernel) (by decide +kernel)
theorem wi_276 : (Jvm.Cond.methodLink "RunKeeper" (112 : Nat) ({ cls := "RunKeeper$Row", name := "cutTo", desc := "(I)V" } : Jvm.MethodName) : Cond) ∈ wd_all := wd_m 276 (by decide +kernel) (by decide +kernel)
theorem wi_277 : (Jvm.Cond.instanceMethod ({ cls := "RunKeeper$Row", name := "cutTo", desc := "(I)V" } : Jvm.MethodName) : Cond) ∈ wd_all := wd_m 277 (by decide +kernel) (by decide +kernel)
theorem wi_278 : (Jvm.Cond.selects "RunKeeper$Row" ({ cls := "RunKeeper$Row", name := "cutTo", desc := "(I)V" } : Jvm.MethodName) ({ cls := "RunKeeper$Row", name := "cutTo", desc := "(I)V" } : Jvm.MethodName) : Cond) ∈ wd_all := wd_m 278 (by decide +kernel) (by decide +kernel)
theorem wi_279 : (Jvm.Cond.code ({ cls := "RunKeeper$Row", name := "cutTo", desc := "(I)V" } : Jvm.MethodName) prog_4_method_7_code (2 : Nat) (Option.none : Option Jvm.ClassFile.FieldType) : Cond) ∈ wd_all := wd_m 279 (by decide +kernel) (by decide +kernel)
theorem wi_280 : (Jvm.Cond.methodLink "RunKeeperLaw" (96 : Nat) ({ cls := "RunKeeper", name := "crash", desc := "()I" } : Jvm.MethodName) : Cond) ∈ wd_all := wd_m 280 (by decide +kernel) (by decide +kernel)
theorem wi_281 : (Jvm.Cond.instanceMethod ({ cls := "RunKeeper", name := "crash", desc := "()I" } : Jvm.MethodName) : Cond) ∈ wd_all := wd_m 281 (by decide +kernel) (by decide +kernel)
theorem wi_282 : (Jvm.Cond.selects "RunKeeper" ({ cls := "RunKeeper", name := "crash", desc := "()I" } : Jvm.MethodName) ({ cls := "RunKeeper", name := "crash", desc := "()I" } : Jvm.MethodName) : Cond) ∈ wd_all := wd_m 282 (by decide +kernel) (by decide +kernel)
theorem wi_283 : (Jvm.Cond.code ({ cls := "RunKeeper", name := "crash", desc := "()I" } : Jvm.MethodName) prog_1_method_9_code (1 : Nat) (Option.some Jvm.ClassFile.FieldType.int) : Cond) ∈ wd_all := wd_m 283 (by decide +kernel) (by decide +kernel)
theorem wi_284 : (Jvm.Cond.methodLink "RunKeeper" (100 : Nat) ({ cls := "RunKeeper", name := "dropBatch", desc := "()V" } : Jvm.MethodName) : Cond) ∈ wd_all := wd_m 284 (by decide +kernel) (by decide +kernel)
theorem wi_286 : (Jvm.Cond.instanceMethod ({ cls := "RunKeeper", name := "dropBatch", desc := "()V" } : Jvm.MethodName) : Cond) ∈ wd_all := wd_m 286 (by decide +kernel) (by decide +kernel)
theorem wi_287 : (Jvm.Cond.code ({ cls := "RunKeeper", name := "dropBatch", desc := "()V" } : Jvm.MethodName) prog_1_method_20_code (1 : Nat) (Option.none : Option Jvm.ClassFile.FieldType) : Cond) ∈ wd_all := wd_m 287 (by decide +kernel) (by decide +kernel)
theorem wi_288 : (Jvm.Cond.methodLink "RunKeeper" (115 : Nat) ({ cls := "RunKeeper$Snapshots", name := "forgetAll", desc := "()V" } : Jvm.MethodName) : Cond) ∈ wd_all := wd_m 288 (by decide +kernel) (by decide +kernel)
theorem wi_289 : (Jvm.Cond.instanceMethod ({ cls := "RunKeeper$Snapshots", name := "forgetAll", desc := "()V" } : Jvm.MethodName) : Cond) ∈ wd_all := wd_m 289 (by decide +kernel) (by decide +kernel)
theorem wi_290 : (Jvm.Cond.selects "RunKeeper$Snapshots" ({ cls := "RunKeeper$Snapshots", name := "forgetAll", desc := "()V" } : Jvm.MethodName) ({ cls := "RunKeeper$Snapshots", name := "forgetAll", desc := "()V" } : Jvm.MethodName) : Cond) ∈ wd_all := wd_m 290 (by decide +kernel) (by decide +kernel)
theorem wi_291 : (Jvm.Cond.code ({ cls := "RunKeeper$Snapshots", name := "forgetAll", desc := "()V" } : Jvm.MethodName) prog_6_method_6_code (2 : Nat) (Option.none : Option Jvm.ClassFile.FieldType) : Cond) ∈ wd_all := wd_m 291 (by decide +kernel) (by decide +kernel)
theorem wi_292 : (Jvm.Cond.methodLink "RunKeeper" (118 : Nat) ({ cls := "RunKeeper", name := "gatherEverything", desc := "()V" } : Jvm.MethodName) : Cond) ∈ wd_all := wd_m 292 (by decide +kernel) (by decide +kernel)
theorem wi_294 : (Jvm.Cond.instanceMethod ({ cls := "RunKeeper", name := "gatherEverything", desc := "()V" } : Jvm.MethodName) : Cond) ∈ wd_all := wd_m 294 (by decide +kernel) (by decide +kernel)
theorem wi_295 : (Jvm.Cond.code ({ cls := "RunKeeper", name := "gatherEverything", desc := "()V" } : Jvm.MethodName) prog_1_method_24_code (2 : Nat) (Option.none : Option Jvm.ClassFile.FieldType) : Cond) ∈ wd_all := wd_m 295 (by decide +kernel) (by decide +kernel)
theorem wi_296 : (Jvm.Cond.methodLink "RunKeeper" (231 : Nat) ({ cls := "RunKeeper$Row", name := "addAll", desc := "(LRunKeeper$Row;)V" } : Jvm.MethodName) : Cond) ∈ wd_all := wd_m 296 (by decide +kernel) (by decide +kernel)
theorem wi_297 : (Jvm.Cond.methodLink "RunKeeper" (234 : Nat) ({ cls := "RunKeeper$Level", name := "copyTo", desc := "(LRunKeeper$Row;)V" } : Jvm.MethodName) : Cond) ∈ wd_all := wd_m 297 (by decide +kernel) (by decide +kernel)
theorem wi_298 : (Jvm.Cond.instanceMethod ({ cls := "RunKeeper$Level", name := "copyTo", desc := "(LRunKeeper$Row;)V" } : Jvm.MethodName) : Cond) ∈ wd_all := wd_m 298 (by decide +kernel) (by decide +kernel)
theorem wi_299 : (Jvm.Cond.selects "RunKeeper$Level" ({ cls := "RunKeeper$Level", name := "copyTo", desc := "(LRunKeeper$Row;)V" } : Jvm.MethodName) ({ cls := "RunKeeper$Level", name := "copyTo", desc := "(LRunKeeper$Row;)V" } : Jvm.MethodName) : Cond) ∈ wd_all := wd_m 299 (by decide +kernel) (by decide +kernel)
theorem wi_300 : (Jvm.Cond.code ({ cls := "RunKeeper$Level", name := "copyTo", desc := "(LRunKeeper$Row;)V" } : Jvm.MethodName) prog_3_method_6_code (3 : Nat) (Option.none : Option Jvm.ClassFile.FieldType) : Cond) ∈ wd_all := wd_m 300 (by decide +kernel) (by decide +kernel)
theorem wi_301 : (Jvm.Cond.methodLink "RunKeeper$Level" (20 : Nat) ({ cls := "java/util/ArrayList", name := "size", desc := "()I" } : Jvm.MethodName) : Cond) ∈ wd_all := wd_m 301 (by decide +kernel) (by decide +kernel)
theorem wi_302 : (Jvm.Cond.instanceMethod ({ cls := "java/util/ArrayList", name := "size", desc := "()I" } : Jvm.MethodName) : Cond) ∈ wd_all := wd_m 302 (by decide +kernel) (by decide +kernel)
theorem wi_303 : (Jvm.Cond.selects "java/util/ArrayList" ({ cls := "java/util/ArrayList", name := "size", desc := "()I" } : Jvm.MethodName) ({ cls := "java/util/ArrayList", name := "size", desc := "()I" } : Jvm.MethodName) : Cond) ∈ wd_all := wd_m 303 (by decide +kernel) (by decide +kernel)
theorem wi_304 : (Jvm.Cond.code ({ cls := "java/util/ArrayList", name := "size", desc := "()I" } : Jvm.MethodName) prog_24_method_8_code (1 : Nat) (Option.some Jvm.ClassFile.FieldType.int) : Cond) ∈ wd_all := wd_m 304 (by decide +kernel) (by decide +kernel)
theorem wi_305 : (Jvm.Cond.methodLink "RunKeeper$Level" (24 : Nat) ({ cls := "java/util/ArrayList", name := "get", desc := "(I)Ljava/lang/Object;" } : Jvm.MethodName) : Cond) ∈ wd_all := wd_m 305 (by decide +kernel) (by decide +kernel)
theorem wi_306 : (Jvm.Cond.instanceMethod ({ cls := "java/util/ArrayList", name := "get", desc := "(I)Ljava/lang/Object;" } : Jvm.MethodName) : Cond) ∈ wd_all := wd_m 306 (by decide +kernel) (by decide +kernel)
theorem wi_307 : (Jvm.Cond.selects "java/util/ArrayList" ({ cls := "java/util/ArrayList", name := "get", desc := "(I)Ljava/lang/Object;" } : Jvm.MethodName) ({ cls := "java/util/ArrayList", name := "get", desc := "(I)Ljava/lang/Object;" } : Jvm.MethodName) : Cond) ∈ wd_all := wd_m 307 (by decide +kernel) (by decide +kernel)
theorem wi_308 : (Jvm.Cond.code ({ cls := "java/util/ArrayList", name := "get", desc := "(I)Ljava/lang/Object;" } : Jvm.MethodName) prog_24_method_20_code (2 : Nat) (Option.some (Jvm.ClassFile.FieldType.object "java/lang/Object")) : Cond) ∈ wd_all := wd_m 308 (by decide +kernel) (by decide +kernel)
theorem wi_309 : (Jvm.Cond.methodLink "java/util/ArrayList" (118 : Nat) ({ cls := "java/util/Objects", name := "checkIndex", desc := "(II)I" } : Jvm.MethodName) : Cond) ∈ wd_all := wd_m 309 (by decide +kernel) (by decide +kernel)
theorem wi_310 : (Jvm.Cond.static ({ cls := "java/util/Objects", name := "checkIndex", desc := "(II)I" } : Jvm.MethodName) : Cond) ∈ wd_all := wd_m 310 (by decide +kernel) (by decide +kernel)
theorem wi_311 : (Jvm.Cond.code ({ cls := "java/util/Objects", name := "checkIndex", desc := "(II)I" } : Jvm.MethodName) prog_28_method_17_code (2 : Nat) (Option.some Jvm.ClassFile.FieldType.int) : Cond) ∈ wd_all := wd_m 311 (by decide +kernel) (by decide +kernel)
theorem wi_312 : (Jvm.Cond.methodLink "java/util/Objects" (105 : Nat) ({ cls := "jdk/internal/util/Preconditions", name := "checkIndex", desc := "(IILjava/util/function/BiFunction;)I" } : Jvm.MethodName) : Cond) ∈ wd_all := wd_m 312 (by decide +kernel) (by decide +kernel)
theorem wi_313 : (Jvm.Cond.static ({ cls := "jdk/internal/util/Preconditions", name := "checkIndex", desc := "(IILjava/util/function/BiFunction;)I" } : Jvm.MethodName) : Cond) ∈ wd_all := wd_m 313 (by decide +kernel) (by decide +kernel)
theorem wi_314 : (Jvm.Cond.code ({ cls := "jdk/internal/util/Preconditions", name := "checkIndex", desc := "(IILjava/util/function/BiFunction;)I" } : Jvm.MethodName) prog_32_method_11_code (3 : Nat) (Option.some Jvm.ClassFile.FieldType.int) : Cond) ∈ wd_all := wd_m 314 (by decide +kernel) (by decide +kernel)
theorem wi_315 : (Jvm.Cond.methodLink "java/util/ArrayList" (123 : Nat) ({ cls := "java/util/ArrayList", name := "elementData", desc := "(I)Ljava/lang/Object;" } : Jvm.MethodName) : Cond) ∈ wd_all := wd_m 315 (by decide +kernel) (by decide +kernel)
theorem wi_316 : (Jvm.Cond.instanceMethod ({ cls := "java/util/ArrayList", name := "elementData", desc := "(I)Ljava/lang/Object;" } : Jvm.MethodName) : Cond) ∈ wd_all := wd_m 316 (by decide +kernel) (by decide +kernel)
theorem wi_317 : (Jvm.Cond.selects "java/util/ArrayList" ({ cls := "java/util/ArrayList", name := "elementData", desc := "(I)Ljava/lang/Object;" } : Jvm.MethodName) ({ cls := "java/util/ArrayList", name := "elementData", desc := "(I)Ljava/lang/Object;" } : Jvm.MethodName) : Cond) ∈ wd_all := wd_m 317 (by decide +kernel) (by decide +kernel)
theorem wi_318 : (Jvm.Cond.code ({ cls := "java/util/ArrayList", name := "elementData", desc := "(I)Ljava/lang/Object;" } : Jvm.MethodName) prog_24_method_18_code (2 : Nat) (Option.some (Jvm.ClassFile.FieldType.object "java/lang/Object")) : Cond) ∈ wd_all := wd_m 318 (by decide +kernel) (by decide +kernel)
theorem wi_319 : (Jvm.Cond.classLink "RunKeeper$Level" (28 : Nat) "RunKeeper$Run" : Cond) ∈ wd_all := wd_m 319 (by decide +kernel) (by decide +kernel)
theorem wi_320 : (Jvm.Cond.methodLink "RunKeeper$Level" (41 : Nat) ({ cls := "RunKeeper$Row", name := "addAll", desc := "(LRunKeeper$Row;)V" } : Jvm.MethodName) : Cond) ∈ wd_all := wd_m 320 (by decide +kernel) (by decide +kernel)
theorem wi_321 : (Jvm.Cond.methodLink "RunKeeper" (121 : Nat) ({ cls := "RunKeeper$Row", name := "greatestSequence", desc := "()I" } : Jvm.MethodName) : Cond) ∈ wd_all := wd_m 321 (by decide +kernel) (by decide +kernel)
theorem wi_322 : (Jvm.Cond.instanceMethod ({ cls := "RunKeeper$Row", name := "greatestSequence", desc := "()I" } : Jvm.MethodName) : Cond) ∈ wd_all := wd_m 322 (by decide +kernel) (by decide +kernel)
theorem wi_323 : (Jvm.Cond.selects "RunKeeper$Row" ({ cls := "RunKeeper$Row", name := "greatestSequence", desc := "()I" } : Jvm.MethodName) ({ cls := "RunKeeper$Row", name := "greatestSequence", desc := "()I" } : Jvm.MethodName) : Cond) ∈ wd_all := wd_m 323 (by decide +kernel) (by decide +kernel)
theorem wi_324 : (Jvm.Cond.code ({ cls := "RunKeeper$Row", name := "greatestSequence", desc := "()I" } : Jvm.MethodName) prog_4_method_12_code (3 : Nat) (Option.some Jvm.ClassFile.FieldType.int) : Cond) ∈ wd_all := wd_m 324 (by decide +kernel) (by decide +kernel)
theorem wi_325 : (Jvm.Cond.methodLink "RunKeeper$Row" (37 : Nat) ({ cls := "java/lang/Math", name := "max", desc := "(II)I" } : Jvm.MethodName) : Cond) ∈ wd_all := wd_m 325 (by decide +kernel) (by decide +kernel)
theorem wi_326 : (Jvm.Cond.methodLink "RunKeeperLaw" (64 : Nat) ({ cls := "RunKeeperLaw", name := "put", desc := "(LRunKeeper;IJ[J)I" } : Jvm.MethodName) : Cond) ∈ wd_all := wd_m 326 (by decide +kernel) (by decide +kernel)
theorem wi_327 : (Jvm.Cond.static ({ cls := "RunKeeperLaw", name := "put", desc := "(LRunKeeper;IJ[J)I" } : Jvm.MethodName) : Cond) ∈ wd_all := wd_m 327 (by decide +kernel) (by decide +kernel)
theorem wi_329 : (Jvm.Cond.classLink "RunKeeperLaw" (13 : Nat) "java/lang/IllegalArgumentException" : Cond) ∈ wd_all := wd_m 329 (by decide +kernel) (by decide +kernel)
theorem wi_330 : (Jvm.Cond.classLink "RunKeeperLaw" (15 : Nat) "java/lang/IndexOutOfBoundsException" : Cond) ∈ wd_all := wd_m 330 (by decide +kernel) (by decide +kernel)
theorem wi_331 : (Jvm.Cond.methodLink "RunKeeperLaw" (7 : Nat) ({ cls := "RunKeeper", name := "put", desc := "(IJ)I" } : Jvm.MethodName) : Cond) ∈ wd_all := wd_m 331 (by decide +kernel) (by decide +kernel)
theorem wi_332 : (Jvm.Cond.instanceMethod ({ cls := "RunKeeper", name := "put", desc := "(IJ)I" } : Jvm.MethodName) : Cond) ∈ wd_all := wd_m 332 (by decide +kernel) (by decide +kernel)
theorem wi_333 : (Jvm.Cond.selects "RunKeeper" ({ cls := "RunKeeper", name := "put", desc := "(IJ)I" } : Jvm.MethodName) ({ cls := "RunKeeper", name := "put", desc := "(IJ)I" } : Jvm.MethodName) : Cond) ∈ wd_all := wd_m 333 (by decide +kernel) (by decide +kernel)
theorem wi_334 : (Jvm.Cond.code ({ cls := "RunKeeper", name := "put", desc := "(IJ)I" } : Jvm.MethodName) prog_1_method_2_code (4 : Nat) (Option.some Jvm.ClassFile.FieldType.int) : Cond) ∈ wd_all := wd_m 334 (by decide +kernel) (by decide +kernel)
theorem wi_335 : (Jvm.Cond.methodLink "RunKeeper" (64 : Nat) ({ cls := "RunKeeper", name := "write", desc := "(IJZ)I" } : Jvm.MethodName) : Cond) ∈ wd_all := wd_m 335 (by decide +kernel) (by decide +kernel)
theorem wi_337 : (Jvm.Cond.instanceMethod ({ cls := "RunKeeper", name := "write", desc := "(IJZ)I" } : Jvm.MethodName) : Cond) ∈ wd_all := wd_m 337 (by decide +kernel) (by decide +kernel)
theorem wi_338 : (Jvm.Cond.code ({ cls := "RunKeeper", name := "write", desc := "(IJZ)I" } : Jvm.MethodName) prog_1_method_18_code (6 : Nat) (Option.some Jvm.ClassFile.FieldType.int) : Cond) ∈ wd_all := wd_m 338 (by decide +kernel) (by decide +kernel)
theorem wi_339 : (Jvm.Cond.methodLink "RunKeeper" (200 : Nat) ({ cls := "RunKeeper", name := "isKey", desc := "(I)Z" } : Jvm.MethodName) : Cond) ∈ wd_all := wd_m 339 (by decide +kernel) (by decide +kernel)
theorem wi_340 : (Jvm.Cond.static ({ cls := "RunKeeper", name := "isKey", desc := "(I)Z" } : Jvm.MethodName) : Cond) ∈ wd_all := wd_m 340 (by decide +kernel) (by decide +kernel)
theorem wi_341 : (Jvm.Cond.code ({ cls := "RunKeeper", name := "isKey", desc := "(I)Z" } : Jvm.MethodName) prog_1_method_16_code (1 : Nat) (Option.some Jvm.ClassFile.FieldType.boolean) : Cond) ∈ wd_all := wd_m 341 (by decide +kernel) (by decide +kernel)
theorem wi_342 : (Jvm.Cond.classLink "RunKeeper" (103 : Nat) "java/lang/IllegalArgumentException" : Cond) ∈ wd_all := wd_m 342 (by decide +kernel) (by decide +kernel)
theorem wi_343 : (Jvm.Cond.instantiable "java/lang/IllegalArgumentException" (6 : Nat) : Cond) ∈ wd_all := wd_m 343 (by decide +kernel) (by decide +kernel)
theorem wi_351 : (Jvm.Cond.selects "java/lang/IllegalArgumentException" ({ cls := "java/lang/Throwable", name := "fillInStackTrace", desc := "(I)Ljava/lang/Throwable;" } : Jvm.MethodName) ({ cls := "java/lang/Throwable", name := "fillInStackTrace", desc := "(I)Ljava/lang/Throwable;" } : Jvm.MethodName) : Cond) ∈ wd_all := wd_m 351 (by decide +kernel) (by decide +kernel)
theorem wi_352 : (Jvm.Cond.selects "java/lang/IllegalArgumentException" ({ cls := "java/lang/Throwable", name := "fillInStackTrace", desc := "()Ljava/lang/Throwable;" } : Jvm.MethodName) ({ cls := "java/lang/Throwable", name := "fillInStackTrace", desc := "()Ljava/lang/Throwable;" } : Jvm.MethodName) : Cond) ∈ wd_all := wd_m 352 (by decide +kernel) (by decide +kernel)
theorem wi_363 : (Jvm.Cond.fieldLink "java/lang/Throwable" (198 : Nat) "java/lang/Throwable" "backtrace" "Ljava/lang/Object;" : Cond) ∈ wd_all := wd_m 363 (by decide +kernel) (by decide +kernel)
theorem wi_365 : (Jvm.Cond.instanceMethod ({ cls := "java/lang/Throwable", name := "<init>", desc := "()V" } : Jvm.MethodName) : Cond) ∈ wd_all := wd_m 365 (by decide +kernel) (by decide +kernel)
theorem wi_367 : (Jvm.Cond.methodLink "java/lang/Throwable" (1 : Nat) ({ cls := "java/lang/Object", name := "<init>", desc := "()V" } : Jvm.MethodName) : Cond) ∈ wd_all := wd_m 367 (by decide +kernel) (by decide +kernel)
theorem wi_368 : (Jvm.Cond.fieldLink "java/lang/Throwable" (13 : Nat) "java/lang/Throwable" "UNASSIGNED_STACK" "[Ljava/lang/StackTraceElement;" : Cond) ∈ wd_all := wd_m 368 (by decide +kernel) (by decide +kernel)
theorem wi_370 : (Jvm.Cond.fieldLink "java/lang/Throwable" (20 : Nat) "java/lang/Throwable" "SUPPRESSED_SENTINEL" "Ljava/util/List;" : Cond) ∈ wd_all := wd_m 370 (by decide +kernel) (by decide +kernel)
theorem wi_372 : (Jvm.Cond.methodLink "java/lang/Throwable" (27 : Nat) ({ cls := "java/lang/Throwable", name := "fillInStackTrace", desc := "()Ljava/lang/Throwable;" } : Jvm.MethodName) : Cond) ∈ wd_all := wd_m 372 (by decide +kernel) (by decide +kernel)
theorem wi_373 : (Jvm.Cond.instanceMethod ({ cls := "java/lang/Throwable", name := "fillInStackTrace", desc := "()Ljava/lang/Throwable;" } : Jvm.MethodName) : Cond) ∈ wd_all := wd_m 373 (by decide +kernel) (by decide +kernel)
theorem wi_374 : (Jvm.Cond.sameMethod "java/lang/Throwable" "java/lang/Throwable" "fillInStackTrace" "()Ljava/lang/Throwable;" : Cond) ∈ wd_all := wd_m 374 (by decide +kernel) (by decide +kernel)
theorem wi_375 : (Jvm.Cond.selects "java/lang/IllegalStateException" ({ cls := "java/lang/Throwable", name := "fillInStackTrace", desc := "()Ljava/lang/Throwable;" } : Jvm.MethodName) ({ cls := "java/lang/Throwable", name := "fillInStackTrace", desc := "()Ljava/lang/Throwable;" } : Jvm.MethodName) : Cond) ∈ wd_all := wd_m 375 (by decide +kernel) (by decide +kernel)
theorem wi_376 : (Jvm.Cond.selects "java/lang/IndexOutOfBoundsException" ({ cls := "java/lang/Throwable", name := "fillInStackTrace", desc := "()Ljava/lang/Throwable;" } : Jvm.MethodName) ({ cls := "java/lang/Throwable", name := "fillInStackTrace", desc := "()Ljava/lang/Throwable;" } : Jvm.MethodName) : Cond) ∈ wd_all := wd_m 376 (by decide +kernel) (by decide +kernel)
theorem wi_377 : (Jvm.Cond.selects "java/lang/UnsupportedOperationException" ({ cls := "java/lang/Throwable", name := "fillInStackTrace", desc := "()Ljava/lang/Throwable;" } : Jvm.MethodName) ({ cls := "java/lang/Throwable", name := "fillInStackTrace", desc := "()Ljava/lang/Throwable;" } : Jvm.MethodName) : Cond) ∈ wd_all := wd_m 377 (by decide +kernel) (by decide +kernel)
theorem wi_379 : (Jvm.Cond.methodLink "java/lang/Throwable" (202 : Nat) ({ cls := "java/lang/Throwable", name := "fillInStackTrace", desc := "(I)Ljava/lang/Throwable;" } : Jvm.MethodName) : Cond) ∈ wd_all := wd_m 379 (by decide +kernel) (by decide +kernel)
theorem wi_381 : (Jvm.Cond.instanceMethod ({ cls := "java/lang/Throwable", name := "fillInStackTrace", desc := "(I)Ljava/lang/Throwable;" } : Jvm.MethodName) : Cond) ∈ wd_all := wd_m 381 (by decide +kernel) (by decide +kernel)
theorem wi_382 : (Jvm.Cond.instantiable "java/lang/Throwable" (6 : Nat) : Cond) ∈ wd_all := wd_m 382 (by decide +kernel) (by decide +kernel)
theorem wi_383 : (Jvm.Cond.native ({ cls := "java/lang/Throwable", name := "fillInStackTrace", desc := "(I)Ljava/lang/Throwable;" } : Jvm.MethodName) : Cond) ∈ wd_all := wd_m 383 (by decide +kernel) (by decide +kernel)
theorem wi_385 : (Jvm.Cond.methodLink "RunKeeper" (107 : Nat) ({ cls := "java/lang/IllegalArgumentException", name := "<init>", desc := "(Ljava/lang/String;)V" } : Jvm.MethodName) : Cond) ∈ wd_all := wd_m 385 (by decide +kernel) (by decide +kernel)
theorem wi_386 : (Jvm.Cond.instanceMethod ({ cls := "java/lang/IllegalArgumentException", name := "<init>", desc := "(Ljava/lang/String;)V" } : Jvm.MethodName) : Cond) ∈ wd_all := wd_m 386 (by decide +kernel) (by decide +kernel)
theorem wi_388 : (Jvm.Cond.methodLink "java/lang/IllegalArgumentException" (7 : Nat) ({ cls := "java/lang/RuntimeException", name := "<init>", desc := "(Ljava/lang/String;)V" } : Jvm.MethodName) : Cond) ∈ wd_all := wd_m 388 (by decide +kernel) (by decide +kernel)
theorem wi_389 : (Jvm.Cond.instanceMethod ({ cls := "java/lang/RuntimeException", name := "<init>", desc := "(Ljava/lang/String;)V" } : Jvm.MethodName) : Cond) ∈ wd_all := wd_m 389 (by decide +kernel) (by decide +kernel)
theorem wi_391 : (Jvm.Cond.methodLink "java/lang/RuntimeException" (7 : Nat) ({ cls := "java/lang/Exception", name := "<init>", desc := "(Ljava/lang/String;)V" } : Jvm.MethodName) : Cond) ∈ wd_all := wd_m 391 (by decide +kernel) (by decide +kernel)
theorem wi_392 : (Jvm.Cond.instanceMethod ({ cls := "java/lang/Exception", name := "<init>", desc := "(Ljava/lang/String;)V" } : Jvm.MethodName) : Cond) ∈ wd_all := wd_m 392 (by decide +kernel) (by decide +kernel)
theorem wi_394 : (Jvm.Cond.methodLink "java/lang/Exception" (7 : Nat) ({ cls := "java/lang/Throwable", name := "<init>", desc := "(Ljava/lang/String;)V" } : Jvm.MethodName) : Cond) ∈ wd_all := wd_m 394 (by decide +kernel) (by decide +kernel)
theorem wi_395 : (Jvm.Cond.instanceMethod ({ cls := "java/lang/Throwable", name := "<init>", desc := "(Ljava/lang/String;)V" } : Jvm.MethodName) : Cond) ∈ wd_all := wd_m 395 (by decide +kernel) (by decide +kernel)
theorem wi_397 : (Jvm.Cond.fieldLink "java/lang/Throwable" (198 : Nat) "java/lang/Throwable" "backtrace" "Ljava/lang/Object;" : Cond) ∈ wd_all := wd_m 397 (by decide +kernel) (by decide +kernel)
theorem wi_398 : (Jvm.Cond.fieldLink "java/lang/Throwable" (31 : Nat) "java/lang/Throwable" "detailMessage" "Ljava/lang/String;" : Cond) ∈ wd_all := wd_m 398 (by decide +kernel) (by decide +kernel)
theorem wi_399 : (Jvm.Cond.fieldLink "java/lang/Throwable" (7 : Nat) "java/lang/Throwable" "cause" "Ljava/lang/Throwable;" : Cond) ∈ wd_all := wd_m 399 (by decide +kernel) (by decide +kernel)
theorem wi_400 : (Jvm.Cond.fieldLink "java/lang/Throwable" (17 : Nat) "java/lang/Throwable" "stackTrace" "[Ljava/lang/StackTraceElement;" : Cond) ∈ wd_all := wd_m 400 (by decide +kernel) (by decide +kernel)
theorem wi_401 : (Jvm.Cond.fieldLink "java/lang/Throwable" (24 : Nat) "java/lang/Throwable" "suppressedExceptions" "Ljava/util/List;" : Cond) ∈ wd_all := wd_m 401 (by decide +kernel) (by decide +kernel)
theorem wi_410 : (Jvm.Cond.arrayClass Jvm.ClassFile.FieldType.byte : Cond) ∈ wd_all := wd_m 410 (by decide +kernel) (by decide +kernel)
theorem wi_411 : (Jvm.Cond.methodLink "RunKeeper" (204 : Nat) ({ cls := "RunKeeper$Row", name := "isFull", desc := "()Z" } : Jvm.MethodName) : Cond) ∈ wd_all := wd_m 411 (by decide +kernel) (by decide +kernel)
theorem wi_412 : (Jvm.Cond.instanceMethod ({ cls := "RunKeeper$Row", name := "isFull", desc := "()Z" } : Jvm.MethodName) : Cond) ∈ wd_all := wd_m 412 (by decide +kernel) (by decide +kernel)
theorem wi_413 : (Jvm.Cond.selects "RunKeeper$Row" ({ cls := "RunKeeper$Row", name := "isFull", desc := "()Z" } : Jvm.MethodName) ({ cls := "RunKeeper$Row", name := "isFull", desc := "()Z" } : Jvm.MethodName) : Cond) ∈ wd_all := wd_m 413 (by decide +kernel) (by decide +kernel)
theorem wi_414 : (Jvm.Cond.code ({ cls := "RunKeeper$Row", name := "isFull", desc := "()Z" } : Jvm.MethodName) prog_4_method_3_code (1 : Nat) (Option.some Jvm.ClassFile.FieldType.boolean) : Cond) ∈ wd_all := wd_m 414 (by decide +kernel) (by decide +kernel)
theorem wi_415 : (Jvm.Cond.methodLink "RunKeeper" (81 : Nat) ({ cls := "RunKeeper", name := "entriesInAll", desc := "()I" } : Jvm.MethodName) : Cond) ∈ wd_all := wd_m 415 (by decide +kernel) (by decide +kernel)
theorem wi_417 : (Jvm.Cond.instanceMethod ({ cls := "RunKeeper", name := "entriesInAll", desc := "()I" } : Jvm.MethodName) : Cond) ∈ wd_all := wd_m 417 (by decide +kernel) (by decide +kernel)
theorem wi_418 : (Jvm.Cond.code ({ cls := "RunKeeper", name := "entriesInAll", desc := "()I" } : Jvm.MethodName) prog_1_method_23_code (3 : Nat) (Option.some Jvm.ClassFile.FieldType.int) : Cond) ∈ wd_all := wd_m 418 (by decide +kernel) (by decide +kernel)
theorem wi_419 : (Jvm.Cond.methodLink "RunKeeper" (194 : Nat) ({ cls := "RunKeeper$Level", name := "entryCount", desc := "()I" } : Jvm.MethodName) : Cond) ∈ wd_all := wd_m 419 (by decide +kernel) (by decide +kernel)
theorem wi_420 : (Jvm.Cond.instanceMethod ({ cls := "RunKeeper$Level", name := "entryCount", desc := "()I" } : Jvm.MethodName) : Cond) ∈ wd_all := wd_m 420 (by decide +kernel) (by decide +kernel)
theorem wi_421 : (Jvm.Cond.selects "RunKeeper$Level" ({ cls := "RunKeeper$Level", name := "entryCount", desc := "()I" } : Jvm.MethodName) ({ cls := "RunKeeper$Level", name := "entryCount", desc := "()I" } : Jvm.MethodName) : Cond) ∈ wd_all := wd_m 421 (by decide +kernel) (by decide +kernel)
theorem wi_422 : (Jvm.Cond.code ({ cls := "RunKeeper$Level", name := "entryCount", desc := "()I" } : Jvm.MethodName) prog_3_method_3_code (1 : Nat) (Option.some Jvm.ClassFile.FieldType.int) : Cond) ∈ wd_all := wd_m 422 (by decide +kernel) (by decide +kernel)
theorem wi_423 : (Jvm.Cond.classLink "RunKeeper" (84 : Nat) "java/lang/IndexOutOfBoundsException" : Cond) ∈ wd_all := wd_m 423 (by decide +kernel) (by decide +kernel)
theorem wi_424 : (Jvm.Cond.instantiable "java/lang/IndexOutOfBoundsException" (6 : Nat) : Cond) ∈ wd_all := wd_m 424 (by decide +kernel) (by decide +kernel)
theorem wi_426 : (Jvm.Cond.selects "java/lang/IndexOutOfBoundsException" ({ cls := "java/lang/Throwable", name := "fillInStackTrace", desc := "(I)Ljava/lang/Throwable;" } : Jvm.MethodName) ({ cls := "java/lang/Throwable", name := "fillInStackTrace", desc := "(I)Ljava/lang/Throwable;" } : Jvm.MethodName) : Cond) ∈ wd_all := wd_m 426 (by decide +kernel) (by decide +kernel)
theorem wi_433 : (Jvm.Cond.methodLink "RunKeeper" (88 : Nat) ({ cls := "java/lang/IndexOutOfBoundsException", name := "<init>", desc := "(Ljava/lang/String;)V" } : Jvm.MethodName) : Cond) ∈ wd_all := wd_m 433 (by decide +kernel) (by decide +kernel)
theorem wi_434 : (Jvm.Cond.instanceMethod ({ cls := "java/lang/IndexOutOfBoundsException", name := "<init>", desc := "(Ljava/lang/String;)V" } : Jvm.MethodName) : Cond) ∈ wd_all := wd_m 434 (by decide +kernel) (by decide +kernel)
theorem wi_436 : (Jvm.Cond.methodLink "java/lang/IndexOutOfBoundsException" (7 : Nat) ({ cls := "java/lang/RuntimeException", name := "<init>", desc := "(Ljava/lang/String;)V" } : Jvm.MethodName) : Cond) ∈ wd_all := wd_m 436 (by decide +kernel) (by decide +kernel)
theorem wi_439 : (Jvm.Cond.instantiable "RunKeeper$Entry" (4 : Nat) : Cond) ∈ wd_all := wd_m 439 (by decide +kernel) (by decide +kernel)
theorem wi_440 : (Jvm.Cond.methodLink "RunKeeper" (209 : Nat) ({ cls := "RunKeeper$Entry", name := "<init>", desc := "(IIJZ)V" } : Jvm.MethodName) : Cond) ∈ wd_all := wd_m 440 (by decide +kernel) (by decide +kernel)
theorem wi_441 : (Jvm.Cond.instanceMethod ({ cls := "RunKeeper$Entry", name := "<init>", desc := "(IIJZ)V" } : Jvm.MethodName) : Cond) ∈ wd_all := wd_m 441 (by decide +kernel) (by decide +kernel)
theorem wi_442 : (Jvm.Cond.code ({ cls := "RunKeeper$Entry", name := "<init>", desc := "(IIJZ)V" } : Jvm.MethodName) prog_2_method_1_code (6 : Nat) (Option.none : Option Jvm.ClassFile.FieldType) : Cond) ∈ wd_all := wd_m 442 (by decide +kernel) (by decide +kernel)
theorem wi_443 : (Jvm.Cond.methodLink "RunKeeper$Entry" (1 : Nat) ({ cls := "java/lang/Object", name := "<init>", desc := "()V" } : Jvm.MethodName) : Cond) ∈ wd_all := wd_m 443 (by decide +kernel) (by decide +kernel)
theorem wi_444 : (Jvm.Cond.fieldLink "RunKeeper$Entry" (7 : Nat) "RunKeeper$Entry" "key" "I" : Cond) ∈ wd_all := wd_m 444 (by decide +kernel) (by decide +kernel)
theorem wi_448 : (Jvm.Cond.fieldLink "RunKeeper$Entry" (13 : Nat) "RunKeeper$Entry" "sequence" "I" : Cond) ∈ wd_all := wd_m 448 (by decide +kernel) (by decide +kernel)
theorem wi_451 : (Jvm.Cond.fieldLink "RunKeeper$Entry" (16 : Nat) "RunKeeper$Entry" "number" "J" : Cond) ∈ wd_all := wd_m 451 (by decide +kernel) (by decide +kernel)
theorem wi_453 : (Jvm.Cond.fieldLink "RunKeeper$Entry" (20 : Nat) "RunKeeper$Entry" "deleted" "Z" : Cond) ∈ wd_all := wd_m 453 (by decide +kernel) (by decide +kernel)
theorem wi_465 : (Jvm.Cond.methodLink "RunKeeper" (212 : Nat) ({ cls := "RunKeeper$Row", name := "add", desc := "(LRunKeeper$Entry;)V" } : Jvm.MethodName) : Cond) ∈ wd_all := wd_m 465 (by decide +kernel) (by decide +kernel)
theorem wi_466 : (Jvm.Cond.methodLink "RunKeeper" (93 : Nat) ({ cls := "RunKeeper", name := "appendToTable", desc := "(LRunKeeper$Entry;)V" } : Jvm.MethodName) : Cond) ∈ wd_all := wd_m 466 (by decide +kernel) (by decide +kernel)
theorem wi_468 : (Jvm.Cond.instanceMethod ({ cls := "RunKeeper", name := "appendToTable", desc := "(LRunKeeper$Entry;)V" } : Jvm.MethodName) : Cond) ∈ wd_all := wd_m 468 (by decide +kernel) (by decide +kernel)
theorem wi_469 : (Jvm.Cond.code ({ cls := "RunKeeper", name := "appendToTable", desc := "(LRunKeeper$Entry;)V" } : Jvm.MethodName) prog_1_method_19_code (2 : Nat) (Option.none : Option Jvm.ClassFile.FieldType) : Cond) ∈ wd_all := wd_m 469 (by decide +kernel) (by decide +kernel)
theorem wi_470 : (Jvm.Cond.methodLink "RunKeeper" (215 : Nat) ({ cls := "RunKeeper$Entry", name := "numbered", desc := "(I)LRunKeeper$Entry;" } : Jvm.MethodName) : Cond) ∈ wd_all := wd_m 470 (by decide +kernel) (by decide +kernel)
theorem wi_471 : (Jvm.Cond.instanceMethod ({ cls := "RunKeeper$Entry", name := "numbered", desc := "(I)LRunKeeper$Entry;" } : Jvm.MethodName) : Cond) ∈ wd_all := wd_m 471 (by decide +kernel) (by decide +kernel)
theorem wi_472 : (Jvm.Cond.selects "RunKeeper$Entry" ({ cls := "RunKeeper$Entry", name := "numbered", desc := "(I)LRunKeeper$Entry;" } : Jvm.MethodName) ({ cls := "RunKeeper$Entry", name := "numbered", desc := "(I)LRunKeeper$Entry;" } : Jvm.MethodName) : Cond) ∈ wd_all := wd_m 472 (by decide +kernel) (by decide +kernel)
theorem wi_473 : (Jvm.Cond.code ({ cls := "RunKeeper$Entry", name := "numbered", desc := "(I)LRunKeeper$Entry;" } : Jvm.MethodName) prog_2_method_2_code (2 : Nat) (Option.some (Jvm.ClassFile.FieldType.object "RunKeeper$Entry")) : Cond) ∈ wd_all := wd_m 473 (by decide +kernel) (by decide +kernel)
theorem wi_474 : (Jvm.Cond.classLink "RunKeeper$Entry" (8 : Nat) "RunKeeper$Entry" : Cond) ∈ wd_all := wd_m 474 (by decide +kernel) (by decide +kernel)
theorem wi_475 : (Jvm.Cond.methodLink "RunKeeper$Entry" (24 : Nat) ({ cls := "RunKeeper$Entry", name := "<init>", desc := "(IIJZ)V" } : Jvm.MethodName) : Cond) ∈ wd_all := wd_m 475 (by decide +kernel) (by decide +kernel)
theorem wi_476 : (Jvm.Cond.methodLink "RunKeeperLaw" (73 : Nat) ({ cls := "RunKeeperLaw", name := "delete", desc := "(LRunKeeper;I[J)I" } : Jvm.MethodName) : Cond) ∈ wd_all := wd_m 476 (by decide +kernel) (by decide +kernel)
theorem wi_477 : (Jvm.Cond.static ({ cls := "RunKeeperLaw", name := "delete", desc := "(LRunKeeper;I[J)I" } : Jvm.MethodName) : Cond) ∈ wd_all := wd_m 477 (by decide +kernel) (by decide +kernel)
theorem wi_479 : (Jvm.Cond.methodLink "RunKeeperLaw" (17 : Nat) ({ cls := "RunKeeper", name := "delete", desc := "(I)I" } : Jvm.MethodName) : Cond) ∈ wd_all := wd_m 479 (by decide +kernel) (by decide +kernel)
theorem wi_480 : (Jvm.Cond.instanceMethod ({ cls := "RunKeeper", name := "delete", desc := "(I)I" } : Jvm.MethodName) : Cond) ∈ wd_all := wd_m 480 (by decide +kernel) (by decide +kernel)
theorem wi_481 : (Jvm.Cond.selects "RunKeeper" ({ cls := "RunKeeper", name := "delete", desc := "(I)I" } : Jvm.MethodName) ({ cls := "RunKeeper", name := "delete", desc := "(I)I" } : Jvm.MethodName) : Cond) ∈ wd_all := wd_m 481 (by decide +kernel) (by decide +kernel)
theorem wi_482 : (Jvm.Cond.code ({ cls := "RunKeeper", name := "delete", desc := "(I)I" } : Jvm.MethodName) prog_1_method_3_code (2 : Nat) (Option.some Jvm.ClassFile.FieldType.int) : Cond) ∈ wd_all := wd_m 482 (by decide +kernel) (by decide +kernel)
theorem wi_483 : (Jvm.Cond.methodLink "RunKeeperLaw" (77 : Nat) ({ cls := "RunKeeperLaw", name := "batch", desc := "(LRunKeeper;)I" } : Jvm.MethodName) : Cond) ∈ wd_all := wd_m 483 (by decide +kernel) (by decide +kernel)
theorem wi_484 : (Jvm.Cond.static ({ cls := "RunKeeperLaw", name := "batch", desc := "(LRunKeeper;)I" } : Jvm.MethodName) : Cond) ∈ wd_all := wd_m 484 (by decide +kernel) (by decide +kernel)
theorem wi_486 : (Jvm.Cond.classLink "RunKeeperLaw" (24 : Nat) "java/lang/IllegalStateException" : Cond) ∈ wd_all := wd_m 486 (by decide +kernel) (by decide +kernel)
theorem wi_487 : (Jvm.Cond.methodLink "RunKeeperLaw" (21 : Nat) ({ cls := "RunKeeper", name := "batch", desc := "()V" } : Jvm.MethodName) : Cond) ∈ wd_all := wd_m 487 (by decide +kernel) (by decide +kernel)
theorem wi_488 : (Jvm.Cond.instanceMethod ({ cls := "RunKeeper", name := "batch", desc := "()V" } : Jvm.MethodName) : Cond) ∈ wd_all := wd_m 488 (by decide +kernel) (by decide +kernel)
theorem wi_489 : (Jvm.Cond.selects "RunKeeper" ({ cls := "RunKeeper", name := "batch", desc := "()V" } : Jvm.MethodName) ({ cls := "RunKeeper", name := "batch", desc := "()V" } : Jvm.MethodName) : Cond) ∈ wd_all := wd_m 489 (by decide +kernel) (by decide +kernel)
theorem wi_490 : (Jvm.Cond.code ({ cls := "RunKeeper", name := "batch", desc := "()V" } : Jvm.MethodName) prog_1_method_4_code (1 : Nat) (Option.none : Option Jvm.ClassFile.FieldType) : Cond) ∈ wd_all := wd_m 490 (by decide +kernel) (by decide +kernel)
theorem wi_491 : (Jvm.Cond.classLink "RunKeeper" (68 : Nat) "java/lang/IllegalStateException" : Cond) ∈ wd_all := wd_m 491 (by decide +kernel) (by decide +kernel)
theorem wi_492 : (Jvm.Cond.instantiable "java/lang/IllegalStateException" (6 : Nat) : Cond) ∈ wd_all := wd_m 492 (by decide +kernel) (by decide +kernel)
theorem wi_494 : (Jvm.Cond.selects "java/lang/IllegalStateException" ({ cls := "java/lang/Throwable", name := "fillInStackTrace", desc := "(I)Ljava/lang/Throwable;" } : Jvm.MethodName) ({ cls := "java/lang/Throwable", name := "fillInStackTrace", desc := "(I)Ljava/lang/Throwable;" } : Jvm.MethodName) : Cond) ∈ wd_all := wd_m 494 (by decide +kernel) (by decide +kernel)
theorem wi_501 : (Jvm.Cond.methodLink "RunKeeper" (72 : Nat) ({ cls := "java/lang/IllegalStateException", name := "<init>", desc := "(Ljava/lang/String;)V" } : Jvm.MethodName) : Cond) ∈ wd_all := wd_m 501 (by decide +kernel) (by decide +kernel)
theorem wi_502 : (Jvm.Cond.instanceMethod ({ cls := "java/lang/IllegalStateException", name := "<init>", desc := "(Ljava/lang/String;)V" } : Jvm.MethodName) : Cond) ∈ wd_all := wd_m 502 (by decide +kernel) (by decide +kernel)
theorem wi_504 : (Jvm.Cond.methodLink "java/lang/IllegalStateException" (7 : Nat) ({ cls := "java/lang/RuntimeException", name := "<init>", desc := "(Ljava/lang/String;)V" } : Jvm.MethodName) : Cond) ∈ wd_all := wd_m 504 (by decide +kernel) (by decide +kernel)
theorem wi_507 : (Jvm.Cond.methodLink "RunKeeperLaw" (81 : Nat) ({ cls := "RunKeeperLaw", name := "end", desc := "(LRunKeeper;Z[J)I" } : Jvm.MethodName) : Cond) ∈ wd_all := wd_m 507 (by decide +kernel) (by decide +kernel)
theorem wi_508 : (Jvm.Cond.static ({ cls := "RunKeeperLaw", name := "end", desc := "(LRunKeeper;Z[J)I" } : Jvm.MethodName) : Cond) ∈ wd_all := wd_m 508 (by decide +kernel) (by decide +kernel)
theorem wi_510 : (Jvm.Cond.methodLink "RunKeeperLaw" (26 : Nat) ({ cls := "RunKeeper", name := "end", desc := "(Z)I" } : Jvm.MethodName) : Cond) ∈ wd_all := wd_m 510 (by decide +kernel) (by decide +kernel)
theorem wi_511 : (Jvm.Cond.instanceMethod ({ cls := "RunKeeper", name := "end", desc := "(Z)I" } : Jvm.MethodName) : Cond) ∈ wd_all := wd_m 511 (by decide +kernel) (by decide +kernel)
theorem wi_512 : (Jvm.Cond.selects "RunKeeper" ({ cls := "RunKeeper", name := "end", desc := "(Z)I" } : Jvm.MethodName) ({ cls := "RunKeeper", name := "end", desc := "(Z)I" } : Jvm.MethodName) : Cond) ∈ wd_all := wd_m 512 (by decide +kernel) (by decide +kernel)
theorem wi_513 : (Jvm.Cond.code ({ cls := "RunKeeper", name := "end", desc := "(Z)I" } : Jvm.MethodName) prog_1_method_5_code (4 : Nat) (Option.some Jvm.ClassFile.FieldType.int) : Cond) ∈ wd_all := wd_m 513 (by decide +kernel) (by decide +kernel)
theorem wi_516 : (Jvm.Cond.methodLink "RunKeeper" (89 : Nat) ({ cls := "RunKeeper$Row", name := "at", desc := "(I)LRunKeeper$Entry;" } : Jvm.MethodName) : Cond) ∈ wd_all := wd_m 516 (by decide +kernel) (by decide +kernel)
theorem wi_517 : (Jvm.Cond.methodLink "RunKeeperLaw" (93 : Nat) ({ cls := "RunKeeperLaw", name := "merge", desc := "(LRunKeeper;I[J)I" } : Jvm.MethodName) : Cond) ∈ wd_all := wd_m 517 (by decide +kernel) (by decide +kernel)
theorem wi_518 : (Jvm.Cond.static ({ cls := "RunKeeperLaw", name := "merge", desc := "(LRunKeeper;I[J)I" } : Jvm.MethodName) : Cond) ∈ wd_all := wd_m 518 (by decide +kernel) (by decide +kernel)
theorem wi_520 : (Jvm.Cond.methodLink "RunKeeperLaw" (30 : Nat) ({ cls := "RunKeeper", name := "merge", desc := "(I)I" } : Jvm.MethodName) : Cond) ∈ wd_all := wd_m 520 (by decide +kernel) (by decide +kernel)
theorem wi_521 : (Jvm.Cond.instanceMethod ({ cls := "RunKeeper", name := "merge", desc := "(I)I" } : Jvm.MethodName) : Cond) ∈ wd_all := wd_m 521 (by decide +kernel) (by decide +kernel)
theorem wi_522 : (Jvm.Cond.selects "RunKeeper" ({ cls := "RunKeeper", name := "merge", desc := "(I)I" } : Jvm.MethodName) ({ cls := "RunKeeper", name := "merge", desc := "(I)I" } : Jvm.MethodName) : Cond) ∈ wd_all := wd_m 522 (by decide +kernel) (by decide +kernel)
theorem wi_523 : (Jvm.Cond.code ({ cls := "RunKeeper", name := "merge", desc := "(I)I" } : Jvm.MethodName) prog_1_method_8_code (3 : Nat) (Option.some Jvm.ClassFile.FieldType.int) : Cond) ∈ wd_all := wd_m 523 (by decide +kernel) (by decide +kernel)
theorem wi_525 : (Jvm.Cond.methodLink "RunKeeper" (108 : Nat) ({ cls := "RunKeeper", name := "mergeOnce", desc := "()Z" } : Jvm.MethodName) : Cond) ∈ wd_all := wd_m 525 (by decide +kernel) (by decide +kernel)
theorem wi_527 : (Jvm.Cond.instanceMethod ({ cls := "RunKeeper", name := "mergeOnce", desc := "()Z" } : Jvm.MethodName) : Cond) ∈ wd_all := wd_m 527 (by decide +kernel) (by decide +kernel)
theorem wi_528 : (Jvm.Cond.code ({ cls := "RunKeeper", name := "mergeOnce", desc := "()Z" } : Jvm.MethodName) prog_1_method_25_code (3 : Nat) (Option.some Jvm.ClassFile.FieldType.boolean) : Cond) ∈ wd_all := wd_m 528 (by decide +kernel) (by decide +kernel)
theorem wi_529 : (Jvm.Cond.methodLink "RunKeeper" (237 : Nat) ({ cls := "RunKeeper", name := "leastLevelToMerge", desc := "()I" } : Jvm.MethodName) : Cond) ∈ wd_all := wd_m 529 (by decide +kernel) (by decide +kernel)
theorem wi_531 : (Jvm.Cond.instanceMethod ({ cls := "RunKeeper", name := "leastLevelToMerge", desc := "()I" } : Jvm.MethodName) : Cond) ∈ wd_all := wd_m 531 (by decide +kernel) (by decide +kernel)
theorem wi_532 : (Jvm.Cond.code ({ cls := "RunKeeper", name := "leastLevelToMerge", desc := "()I" } : Jvm.MethodName) prog_1_method_26_code (2 : Nat) (Option.some Jvm.ClassFile.FieldType.int) : Cond) ∈ wd_all := wd_m 532 (by decide +kernel) (by decide +kernel)
theorem wi_533 : (Jvm.Cond.methodLink "RunKeeper" (191 : Nat) ({ cls := "RunKeeper$Level", name := "runCount", desc := "()I" } : Jvm.MethodName) : Cond) ∈ wd_all := wd_m 533 (by decide +kernel) (by decide +kernel)
theorem wi_534 : (Jvm.Cond.instanceMethod ({ cls := "RunKeeper$Level", name := "runCount", desc := "()I" } : Jvm.MethodName) : Cond) ∈ wd_all := wd_m 534 (by decide +kernel) (by decide +kernel)
theorem wi_535 : (Jvm.Cond.selects "RunKeeper$Level" ({ cls := "RunKeeper$Level", name := "runCount", desc := "()I" } : Jvm.MethodName) ({ cls := "RunKeeper$Level", name := "runCount", desc := "()I" } : Jvm.MethodName) : Cond) ∈ wd_all := wd_m 535 (by decide +kernel) (by decide +kernel)
theorem wi_536 : (Jvm.Cond.code ({ cls := "RunKeeper$Level", name := "runCount", desc := "()I" } : Jvm.MethodName) prog_3_method_2_code (1 : Nat) (Option.some Jvm.ClassFile.FieldType.int) : Cond) ∈ wd_all := wd_m 536 (by decide +kernel) (by decide +kernel)
theorem wi_537 : (Jvm.Cond.methodLink "RunKeeper" (240 : Nat) ({ cls := "RunKeeper", name := "areEmptyFrom", desc := "(I)Z" } : Jvm.MethodName) : Cond) ∈ wd_all := wd_m 537 (by decide +kernel) (by decide +kernel)
theorem wi_539 : (Jvm.Cond.instanceMethod ({ cls := "RunKeeper", name := "areEmptyFrom", desc := "(I)Z" } : Jvm.MethodName) : Cond) ∈ wd_all := wd_m 539 (by decide +kernel) (by decide +kernel)
theorem wi_540 : (Jvm.Cond.code ({ cls := "RunKeeper", name := "areEmptyFrom", desc := "(I)Z" } : Jvm.MethodName) prog_1_method_27_code (3 : Nat) (Option.some Jvm.ClassFile.FieldType.boolean) : Cond) ∈ wd_all := wd_m 540 (by decide +kernel) (by decide +kernel)
theorem wi_541 : (Jvm.Cond.methodLink "RunKeeper" (243 : Nat) ({ cls := "RunKeeper", name := "keepWhatIsSeen", desc := "(Z)V" } : Jvm.MethodName) : Cond) ∈ wd_all := wd_m 541 (by decide +kernel) (by decide +kernel)
theorem wi_543 : (Jvm.Cond.instanceMethod ({ cls := "RunKeeper", name := "keepWhatIsSeen", desc := "(Z)V" } : Jvm.MethodName) : Cond) ∈ wd_all := wd_m 543 (by decide +kernel) (by decide +kernel)
theorem wi_544 : (Jvm.Cond.code ({ cls := "RunKeeper", name := "keepWhatIsSeen", desc := "(Z)V" } : Jvm.MethodName) prog_1_method_28_code (4 : Nat) (Option.none : Option Jvm.ClassFile.FieldType) : Cond) ∈ wd_all := wd_m 544 (by decide +kernel) (by decide +kernel)
theorem wi_545 : (Jvm.Cond.methodLink "RunKeeper" (250 : Nat) ({ cls := "RunKeeper", name := "isSeen", desc := "(LRunKeeper$Entry;LRunKeeper$Entry;)Z" } : Jvm.MethodName) : Cond) ∈ wd_all := wd_m 545 (by decide +kernel) (by decide +kernel)
theorem wi_547 : (Jvm.Cond.instanceMethod ({ cls := "RunKeeper", name := "isSeen", desc := "(LRunKeeper$Entry;LRunKeeper$Entry;)Z" } : Jvm.MethodName) : Cond) ∈ wd_all := wd_m 547 (by decide +kernel) (by decide +kernel)
theorem wi_548 : (Jvm.Cond.code ({ cls := "RunKeeper", name := "isSeen", desc := "(LRunKeeper$Entry;LRunKeeper$Entry;)Z" } : Jvm.MethodName) prog_1_method_29_code (3 : Nat) (Option.some Jvm.ClassFile.FieldType.boolean) : Cond) ∈ wd_all := wd_m 548 (by decide +kernel) (by decide +kernel)
theorem wi_549 : (Jvm.Cond.methodLink "RunKeeper" (254 : Nat) ({ cls := "RunKeeper$Entry", name := "hasKeyOf", desc := "(LRunKeeper$Entry;)Z" } : Jvm.MethodName) : Cond) ∈ wd_all := wd_m 549 (by decide +kernel) (by decide +kernel)
theorem wi_550 : (Jvm.Cond.instanceMethod ({ cls := "RunKeeper$Entry", name := "hasKeyOf", desc := "(LRunKeeper$Entry;)Z" } : Jvm.MethodName) : Cond) ∈ wd_all := wd_m 550 (by decide +kernel) (by decide +kernel)
theorem wi_551 : (Jvm.Cond.selects "RunKeeper$Entry" ({ cls := "RunKeeper$Entry", name := "hasKeyOf", desc := "(LRunKeeper$Entry;)Z" } : Jvm.MethodName) ({ cls := "RunKeeper$Entry", name := "hasKeyOf", desc := "(LRunKeeper$Entry;)Z" } : Jvm.MethodName) : Cond) ∈ wd_all := wd_m 551 (by decide +kernel) (by decide +kernel)
theorem wi_552 : (Jvm.Cond.code ({ cls := "RunKeeper$Entry", name := "hasKeyOf", desc := "(LRunKeeper$Entry;)Z" } : Jvm.MethodName) prog_2_method_3_code (2 : Nat) (Option.some Jvm.ClassFile.FieldType.boolean) : Cond) ∈ wd_all := wd_m 552 (by decide +kernel) (by decide +kernel)
theorem wi_553 : (Jvm.Cond.methodLink "RunKeeper" (261 : Nat) ({ cls := "RunKeeper$Snapshots", name := "anyFromBelow", desc := "(II)Z" } : Jvm.MethodName) : Cond) ∈ wd_all := wd_m 553 (by decide +kernel) (by decide +kernel)
theorem wi_554 : (Jvm.Cond.instanceMethod ({ cls := "RunKeeper$Snapshots", name := "anyFromBelow", desc := "(II)Z" } : Jvm.MethodName) : Cond) ∈ wd_all := wd_m 554 (by decide +kernel) (by decide +kernel)
theorem wi_555 : (Jvm.Cond.selects "RunKeeper$Snapshots" ({ cls := "RunKeeper$Snapshots", name := "anyFromBelow", desc := "(II)Z" } : Jvm.MethodName) ({ cls := "RunKeeper$Snapshots", name := "anyFromBelow", desc := "(II)Z" } : Jvm.MethodName) : Cond) ∈ wd_all := wd_m 555 (by decide +kernel) (by decide +kernel)
theorem wi_556 : (Jvm.Cond.code ({ cls := "RunKeeper$Snapshots", name := "anyFromBelow", desc := "(II)Z" } : Jvm.MethodName) prog_6_method_9_code (4 : Nat) (Option.some Jvm.ClassFile.FieldType.boolean) : Cond) ∈ wd_all := wd_m 556 (by decide +kernel) (by decide +kernel)
theorem wi_557 : (Jvm.Cond.methodLink "RunKeeper" (258 : Nat) ({ cls := "RunKeeper$Row", name := "cutDeletedTail", desc := "()V" } : Jvm.MethodName) : Cond) ∈ wd_all := wd_m 557 (by decide +kernel) (by decide +kernel)
theorem wi_558 : (Jvm.Cond.instanceMethod ({ cls := "RunKeeper$Row", name := "cutDeletedTail", desc := "()V" } : Jvm.MethodName) : Cond) ∈ wd_all := wd_m 558 (by decide +kernel) (by decide +kernel)
theorem wi_559 : (Jvm.Cond.selects "RunKeeper$Row" ({ cls := "RunKeeper$Row", name := "cutDeletedTail", desc := "()V" } : Jvm.MethodName) ({ cls := "RunKeeper$Row", name := "cutDeletedTail", desc := "()V" } : Jvm.MethodName) : Cond) ∈ wd_all := wd_m 559 (by decide +kernel) (by decide +kernel)
theorem wi_560 : (Jvm.Cond.code ({ cls := "RunKeeper$Row", name := "cutDeletedTail", desc := "()V" } : Jvm.MethodName) prog_4_method_8_code (1 : Nat) (Option.none : Option Jvm.ClassFile.FieldType) : Cond) ∈ wd_all := wd_m 560 (by decide +kernel) (by decide +kernel)
theorem wi_561 : (Jvm.Cond.methodLink "RunKeeper" (247 : Nat) ({ cls := "RunKeeper$Level", name := "clear", desc := "()V" } : Jvm.MethodName) : Cond) ∈ wd_all := wd_m 561 (by decide +kernel) (by decide +kernel)
theorem wi_562 : (Jvm.Cond.instanceMethod ({ cls := "RunKeeper$Level", name := "clear", desc := "()V" } : Jvm.MethodName) : Cond) ∈ wd_all := wd_m 562 (by decide +kernel) (by decide +kernel)
theorem wi_563 : (Jvm.Cond.selects "RunKeeper$Level" ({ cls := "RunKeeper$Level", name := "clear", desc := "()V" } : Jvm.MethodName) ({ cls := "RunKeeper$Level", name := "clear", desc := "()V" } : Jvm.MethodName) : Cond) ∈ wd_all := wd_m 563 (by decide +kernel) (by decide +kernel)
theorem wi_564 : (Jvm.Cond.code ({ cls := "RunKeeper$Level", name := "clear", desc := "()V" } : Jvm.MethodName) prog_3_method_7_code (1 : Nat) (Option.none : Option Jvm.ClassFile.FieldType) : Cond) ∈ wd_all := wd_m 564 (by decide +kernel) (by decide +kernel)
theorem wi_565 : (Jvm.Cond.methodLink "RunKeeper$Level" (45 : Nat) ({ cls := "java/util/ArrayList", name := "clear", desc := "()V" } : Jvm.MethodName) : Cond) ∈ wd_all := wd_m 565 (by decide +kernel) (by decide +kernel)
theorem wi_566 : (Jvm.Cond.instanceMethod ({ cls := "java/util/ArrayList", name := "clear", desc := "()V" } : Jvm.MethodName) : Cond) ∈ wd_all := wd_m 566 (by decide +kernel) (by decide +kernel)
theorem wi_567 : (Jvm.Cond.selects "java/util/ArrayList" ({ cls := "java/util/ArrayList", name := "clear", desc := "()V" } : Jvm.MethodName) ({ cls := "java/util/ArrayList", name := "clear", desc := "()V" } : Jvm.MethodName) : Cond) ∈ wd_all := wd_m 567 (by decide +kernel) (by decide +kernel)
theorem wi_568 : (Jvm.Cond.code ({ cls := "java/util/ArrayList", name := "clear", desc := "()V" } : Jvm.MethodName) prog_24_method_40_code (4 : Nat) (Option.none : Option Jvm.ClassFile.FieldType) : Cond) ∈ wd_all := wd_m 568 (by decide +kernel) (by decide +kernel)
theorem wi_569 : (Jvm.Cond.methodLink "RunKeeperLaw" (100 : Nat) ({ cls := "RunKeeperLaw", name := "snapshot", desc := "(LRunKeeper;[J)I" } : Jvm.MethodName) : Cond) ∈ wd_all := wd_m 569 (by decide +kernel) (by decide +kernel)
theorem wi_570 : (Jvm.Cond.static ({ cls := "RunKeeperLaw", name := "snapshot", desc := "(LRunKeeper;[J)I" } : Jvm.MethodName) : Cond) ∈ wd_all := wd_m 570 (by decide +kernel) (by decide +kernel)
theorem wi_572 : (Jvm.Cond.methodLink "RunKeeperLaw" (33 : Nat) ({ cls := "RunKeeper", name := "snapshot", desc := "()I" } : Jvm.MethodName) : Cond) ∈ wd_all := wd_m 572 (by decide +kernel) (by decide +kernel)
theorem wi_573 : (Jvm.Cond.instanceMethod ({ cls := "RunKeeper", name := "snapshot", desc := "()I" } : Jvm.MethodName) : Cond) ∈ wd_all := wd_m 573 (by decide +kernel) (by decide +kernel)
theorem wi_574 : (Jvm.Cond.selects "RunKeeper" ({ cls := "RunKeeper", name := "snapshot", desc := "()I" } : Jvm.MethodName) ({ cls := "RunKeeper", name := "snapshot", desc := "()I" } : Jvm.MethodName) : Cond) ∈ wd_all := wd_m 574 (by decide +kernel) (by decide +kernel)
theorem wi_575 : (Jvm.Cond.code ({ cls := "RunKeeper", name := "snapshot", desc := "()I" } : Jvm.MethodName) prog_1_method_10_code (2 : Nat) (Option.some Jvm.ClassFile.FieldType.int) : Cond) ∈ wd_all := wd_m 575 (by decide +kernel) (by decide +kernel)
theorem wi_576 : (Jvm.Cond.methodLink "RunKeeper" (124 : Nat) ({ cls := "RunKeeper$Snapshots", name := "leastFree", desc := "()I" } : Jvm.MethodName) : Cond) ∈ wd_all := wd_m 576 (by decide +kernel) (by decide +kernel)
theorem wi_577 : (Jvm.Cond.instanceMethod ({ cls := "RunKeeper$Snapshots", name := "leastFree", desc := "()I" } : Jvm.MethodName) : Cond) ∈ wd_all := wd_m 577 (by decide +kernel) (by decide +kernel)
theorem wi_578 : (Jvm.Cond.selects "RunKeeper$Snapshots" ({ cls := "RunKeeper$Snapshots", name := "leastFree", desc := "()I" } : Jvm.MethodName) ({ cls := "RunKeeper$Snapshots", name := "leastFree", desc := "()I" } : Jvm.MethodName) : Cond) ∈ wd_all := wd_m 578 (by decide +kernel) (by decide +kernel)
theorem wi_579 : (Jvm.Cond.code ({ cls := "RunKeeper$Snapshots", name := "leastFree", desc := "()I" } : Jvm.MethodName) prog_6_method_3_code (2 : Nat) (Option.some Jvm.ClassFile.FieldType.int) : Cond) ∈ wd_all := wd_m 579 (by decide +kernel) (by decide +kernel)
theorem wi_581 : (Jvm.Cond.methodLink "RunKeeper" (129 : Nat) ({ cls := "RunKeeper$Snapshots", name := "keep", desc := "(II)V" } : Jvm.MethodName) : Cond) ∈ wd_all := wd_m 581 (by decide +kernel) (by decide +kernel)
theorem wi_582 : (Jvm.Cond.instanceMethod ({ cls := "RunKeeper$Snapshots", name := "keep", desc := "(II)V" } : Jvm.MethodName) : Cond) ∈ wd_all := wd_m 582 (by decide +kernel) (by decide +kernel)
theorem wi_583 : (Jvm.Cond.selects "RunKeeper$Snapshots" ({ cls := "RunKeeper$Snapshots", name := "keep", desc := "(II)V" } : Jvm.MethodName) ({ cls := "RunKeeper$Snapshots", name := "keep", desc := "(II)V" } : Jvm.MethodName) : Cond) ∈ wd_all := wd_m 583 (by decide +kernel) (by decide +kernel)
theorem wi_584 : (Jvm.Cond.code ({ cls := "RunKeeper$Snapshots", name := "keep", desc := "(II)V" } : Jvm.MethodName) prog_6_method_4_code (3 : Nat) (Option.none : Option Jvm.ClassFile.FieldType) : Cond) ∈ wd_all := wd_m 584 (by decide +kernel) (by decide +kernel)
theorem wi_585 : (Jvm.Cond.methodLink "RunKeeperLaw" (104 : Nat) ({ cls := "RunKeeperLaw", name := "release", desc := "(LRunKeeper;I)I" } : Jvm.MethodName) : Cond) ∈ wd_all := wd_m 585 (by decide +kernel) (by decide +kernel)
theorem wi_586 : (Jvm.Cond.static ({ cls := "RunKeeperLaw", name := "release", desc := "(LRunKeeper;I)I" } : Jvm.MethodName) : Cond) ∈ wd_all := wd_m 586 (by decide +kernel) (by decide +kernel)
theorem wi_588 : (Jvm.Cond.methodLink "RunKeeperLaw" (37 : Nat) ({ cls := "RunKeeper", name := "release", desc := "(I)V" } : Jvm.MethodName) : Cond) ∈ wd_all := wd_m 588 (by decide +kernel) (by decide +kernel)
theorem wi_589 : (Jvm.Cond.instanceMethod ({ cls := "RunKeeper", name := "release", desc := "(I)V" } : Jvm.MethodName) : Cond) ∈ wd_all := wd_m 589 (by decide +kernel) (by decide +kernel)
theorem wi_590 : (Jvm.Cond.selects "RunKeeper" ({ cls := "RunKeeper", name := "release", desc := "(I)V" } : Jvm.MethodName) ({ cls := "RunKeeper", name := "release", desc := "(I)V" } : Jvm.MethodName) : Cond) ∈ wd_all := wd_m 590 (by decide +kernel) (by decide +kernel)
theorem wi_591 : (Jvm.Cond.code ({ cls := "RunKeeper", name := "release", desc := "(I)V" } : Jvm.MethodName) prog_1_method_11_code (2 : Nat) (Option.none : Option Jvm.ClassFile.FieldType) : Cond) ∈ wd_all := wd_m 591 (by decide +kernel) (by decide +kernel)
theorem wi_592 : (Jvm.Cond.methodLink "RunKeeper" (133 : Nat) ({ cls := "RunKeeper$Snapshots", name := "has", desc := "(I)Z" } : Jvm.MethodName) : Cond) ∈ wd_all := wd_m 592 (by decide +kernel) (by decide +kernel)
theorem wi_593 : (Jvm.Cond.instanceMethod ({ cls := "RunKeeper$Snapshots", name := "has", desc := "(I)Z" } : Jvm.MethodName) : Cond) ∈ wd_all := wd_m 593 (by decide +kernel) (by decide +kernel)
theorem wi_594 : (Jvm.Cond.selects "RunKeeper$Snapshots" ({ cls := "RunKeeper$Snapshots", name := "has", desc := "(I)Z" } : Jvm.MethodName) ({ cls := "RunKeeper$Snapshots", name := "has", desc := "(I)Z" } : Jvm.MethodName) : Cond) ∈ wd_all := wd_m 594 (by decide +kernel) (by decide +kernel)
theorem wi_595 : (Jvm.Cond.code ({ cls := "RunKeeper$Snapshots", name := "has", desc := "(I)Z" } : Jvm.MethodName) prog_6_method_2_code (2 : Nat) (Option.some Jvm.ClassFile.FieldType.boolean) : Cond) ∈ wd_all := wd_m 595 (by decide +kernel) (by decide +kernel)
theorem wi_597 : (Jvm.Cond.methodLink "RunKeeper" (139 : Nat) ({ cls := "RunKeeper$Snapshots", name := "forget", desc := "(I)V" } : Jvm.MethodName) : Cond) ∈ wd_all := wd_m 597 (by decide +kernel) (by decide +kernel)
theorem wi_598 : (Jvm.Cond.instanceMethod ({ cls := "RunKeeper$Snapshots", name := "forget", desc := "(I)V" } : Jvm.MethodName) : Cond) ∈ wd_all := wd_m 598 (by decide +kernel) (by decide +kernel)
theorem wi_599 : (Jvm.Cond.selects "RunKeeper$Snapshots" ({ cls := "RunKeeper$Snapshots", name := "forget", desc := "(I)V" } : Jvm.MethodName) ({ cls := "RunKeeper$Snapshots", name := "forget", desc := "(I)V" } : Jvm.MethodName) : Cond) ∈ wd_all := wd_m 599 (by decide +kernel) (by decide +kernel)
theorem wi_600 : (Jvm.Cond.code ({ cls := "RunKeeper$Snapshots", name := "forget", desc := "(I)V" } : Jvm.MethodName) prog_6_method_5_code (2 : Nat) (Option.none : Option Jvm.ClassFile.FieldType) : Cond) ∈ wd_all := wd_m 600 (by decide +kernel) (by decide +kernel)
theorem wi_601 : (Jvm.Cond.methodLink "RunKeeper$Snapshots" (19 : Nat) ({ cls := "RunKeeper$Snapshots", name := "has", desc := "(I)Z" } : Jvm.MethodName) : Cond) ∈ wd_all := wd_m 601 (by decide +kernel) (by decide +kernel)
theorem wi_602 : (Jvm.Cond.methodLink "RunKeeperLaw" (108 : Nat) ({ cls := "RunKeeperLaw", name := "get", desc := "(LRunKeeper;II[J)I" } : Jvm.MethodName) : Cond) ∈ wd_all := wd_m 602 (by decide +kernel) (by decide +kernel)
theorem wi_603 : (Jvm.Cond.static ({ cls := "RunKeeperLaw", name := "get", desc := "(LRunKeeper;II[J)I" } : Jvm.MethodName) : Cond) ∈ wd_all := wd_m 603 (by decide +kernel) (by decide +kernel)
theorem wi_605 : (Jvm.Cond.classLink "RunKeeperLaw" (45 : Nat) "java/lang/UnsupportedOperationException" : Cond) ∈ wd_all := wd_m 605 (by decide +kernel) (by decide +kernel)
theorem wi_606 : (Jvm.Cond.methodLink "RunKeeperLaw" (41 : Nat) ({ cls := "RunKeeper", name := "get", desc := "(II)J" } : Jvm.MethodName) : Cond) ∈ wd_all := wd_m 606 (by decide +kernel) (by decide +kernel)
theorem wi_607 : (Jvm.Cond.instanceMethod ({ cls := "RunKeeper", name := "get", desc := "(II)J" } : Jvm.MethodName) : Cond) ∈ wd_all := wd_m 607 (by decide +kernel) (by decide +kernel)
theorem wi_608 : (Jvm.Cond.selects "RunKeeper" ({ cls := "RunKeeper", name := "get", desc := "(II)J" } : Jvm.MethodName) ({ cls := "RunKeeper", name := "get", desc := "(II)J" } : Jvm.MethodName) : Cond) ∈ wd_all := wd_m 608 (by decide +kernel) (by decide +kernel)
theorem wi_609 : (Jvm.Cond.code ({ cls := "RunKeeper", name := "get", desc := "(II)J" } : Jvm.MethodName) prog_1_method_12_code (4 : Nat) (Option.some Jvm.ClassFile.FieldType.long) : Cond) ∈ wd_all := wd_m 609 (by decide +kernel) (by decide +kernel)
theorem wi_610 : (Jvm.Cond.methodLink "RunKeeper" (142 : Nat) ({ cls := "RunKeeper", name := "requireKeyAndView", desc := "(II)V" } : Jvm.MethodName) : Cond) ∈ wd_all := wd_m 610 (by decide +kernel) (by decide +kernel)
theorem wi_612 : (Jvm.Cond.instanceMethod ({ cls := "RunKeeper", name := "requireKeyAndView", desc := "(II)V" } : Jvm.MethodName) : Cond) ∈ wd_all := wd_m 612 (by decide +kernel) (by decide +kernel)
theorem wi_613 : (Jvm.Cond.code ({ cls := "RunKeeper", name := "requireKeyAndView", desc := "(II)V" } : Jvm.MethodName) prog_1_method_30_code (3 : Nat) (Option.none : Option Jvm.ClassFile.FieldType) : Cond) ∈ wd_all := wd_m 613 (by decide +kernel) (by decide +kernel)
theorem wi_615 : (Jvm.Cond.methodLink "RunKeeper" (145 : Nat) ({ cls := "RunKeeper", name := "sequenceOf", desc := "(I)I" } : Jvm.MethodName) : Cond) ∈ wd_all := wd_m 615 (by decide +kernel) (by decide +kernel)
theorem wi_617 : (Jvm.Cond.instanceMethod ({ cls := "RunKeeper", name := "sequenceOf", desc := "(I)I" } : Jvm.MethodName) : Cond) ∈ wd_all := wd_m 617 (by decide +kernel) (by decide +kernel)
theorem wi_618 : (Jvm.Cond.code ({ cls := "RunKeeper", name := "sequenceOf", desc := "(I)I" } : Jvm.MethodName) prog_1_method_31_code (2 : Nat) (Option.some Jvm.ClassFile.FieldType.int) : Cond) ∈ wd_all := wd_m 618 (by decide +kernel) (by decide +kernel)
theorem wi_619 : (Jvm.Cond.methodLink "RunKeeper" (267 : Nat) ({ cls := "RunKeeper$Snapshots", name := "sequenceAt", desc := "(I)I" } : Jvm.MethodName) : Cond) ∈ wd_all := wd_m 619 (by decide +kernel) (by decide +kernel)
theorem wi_620 : (Jvm.Cond.instanceMethod ({ cls := "RunKeeper$Snapshots", name := "sequenceAt", desc := "(I)I" } : Jvm.MethodName) : Cond) ∈ wd_all := wd_m 620 (by decide +kernel) (by decide +kernel)
theorem wi_621 : (Jvm.Cond.selects "RunKeeper$Snapshots" ({ cls := "RunKeeper$Snapshots", name := "sequenceAt", desc := "(I)I" } : Jvm.MethodName) ({ cls := "RunKeeper$Snapshots", name := "sequenceAt", desc := "(I)I" } : Jvm.MethodName) : Cond) ∈ wd_all := wd_m 621 (by decide +kernel) (by decide +kernel)
theorem wi_622 : (Jvm.Cond.code ({ cls := "RunKeeper$Snapshots", name := "sequenceAt", desc := "(I)I" } : Jvm.MethodName) prog_6_method_7_code (2 : Nat) (Option.some Jvm.ClassFile.FieldType.int) : Cond) ∈ wd_all := wd_m 622 (by decide +kernel) (by decide +kernel)
theorem wi_623 : (Jvm.Cond.methodLink "RunKeeper" (149 : Nat) ({ cls := "RunKeeper", name := "look", desc := "(II)LRunKeeper$Entry;" } : Jvm.MethodName) : Cond) ∈ wd_all := wd_m 623 (by decide +kernel) (by decide +kernel)
theorem wi_625 : (Jvm.Cond.instanceMethod ({ cls := "RunKeeper", name := "look", desc := "(II)LRunKeeper$Entry;" } : Jvm.MethodName) : Cond) ∈ wd_all := wd_m 625 (by decide +kernel) (by decide +kernel)
theorem wi_626 : (Jvm.Cond.code ({ cls := "RunKeeper", name := "look", desc := "(II)LRunKeeper$Entry;" } : Jvm.MethodName) prog_1_method_32_code (5 : Nat) (Option.some (Jvm.ClassFile.FieldType.object "RunKeeper$Entry")) : Cond) ∈ wd_all := wd_m 626 (by decide +kernel) (by decide +kernel)
theorem wi_627 : (Jvm.Cond.methodLink "RunKeeper" (270 : Nat) ({ cls := "RunKeeper$Row", name := "latestOf", desc := "(II)LRunKeeper$Entry;" } : Jvm.MethodName) : Cond) ∈ wd_all := wd_m 627 (by decide +kernel) (by decide +kernel)
theorem wi_628 : (Jvm.Cond.instanceMethod ({ cls := "RunKeeper$Row", name := "latestOf", desc := "(II)LRunKeeper$Entry;" } : Jvm.MethodName) : Cond) ∈ wd_all := wd_m 628 (by decide +kernel) (by decide +kernel)
theorem wi_629 : (Jvm.Cond.selects "RunKeeper$Row" ({ cls := "RunKeeper$Row", name := "latestOf", desc := "(II)LRunKeeper$Entry;" } : Jvm.MethodName) ({ cls := "RunKeeper$Row", name := "latestOf", desc := "(II)LRunKeeper$Entry;" } : Jvm.MethodName) : Cond) ∈ wd_all := wd_m 629 (by decide +kernel) (by decide +kernel)
theorem wi_630 : (Jvm.Cond.code ({ cls := "RunKeeper$Row", name := "latestOf", desc := "(II)LRunKeeper$Entry;" } : Jvm.MethodName) prog_4_method_11_code (6 : Nat) (Option.some (Jvm.ClassFile.FieldType.object "RunKeeper$Entry")) : Cond) ∈ wd_all := wd_m 630 (by decide +kernel) (by decide +kernel)
theorem wi_631 : (Jvm.Cond.methodLink "RunKeeper" (273 : Nat) ({ cls := "RunKeeper", name := "lookInLevel", desc := "(LRunKeeper$Level;II)LRunKeeper$Entry;" } : Jvm.MethodName) : Cond) ∈ wd_all := wd_m 631 (by decide +kernel) (by decide +kernel)
theorem wi_633 : (Jvm.Cond.instanceMethod ({ cls := "RunKeeper", name := "lookInLevel", desc := "(LRunKeeper$Level;II)LRunKeeper$Entry;" } : Jvm.MethodName) : Cond) ∈ wd_all := wd_m 633 (by decide +kernel) (by decide +kernel)
theorem wi_634 : (Jvm.Cond.code ({ cls := "RunKeeper", name := "lookInLevel", desc := "(LRunKeeper$Level;II)LRunKeeper$Entry;" } : Jvm.MethodName) prog_1_method_33_code (7 : Nat) (Option.some (Jvm.ClassFile.FieldType.object "RunKeeper$Entry")) : Cond) ∈ wd_all := wd_m 634 (by decide +kernel) (by decide +kernel)
theorem wi_635 : (Jvm.Cond.methodLink "RunKeeper" (173 : Nat) ({ cls := "RunKeeper$Level", name := "runAt", desc := "(I)LRunKeeper$Run;" } : Jvm.MethodName) : Cond) ∈ wd_all := wd_m 635 (by decide +kernel) (by decide +kernel)
theorem wi_636 : (Jvm.Cond.instanceMethod ({ cls := "RunKeeper$Level", name := "runAt", desc := "(I)LRunKeeper$Run;" } : Jvm.MethodName) : Cond) ∈ wd_all := wd_m 636 (by decide +kernel) (by decide +kernel)
theorem wi_637 : (Jvm.Cond.selects "RunKeeper$Level" ({ cls := "RunKeeper$Level", name := "runAt", desc := "(I)LRunKeeper$Run;" } : Jvm.MethodName) ({ cls := "RunKeeper$Level", name := "runAt", desc := "(I)LRunKeeper$Run;" } : Jvm.MethodName) : Cond) ∈ wd_all := wd_m 637 (by decide +kernel) (by decide +kernel)
theorem wi_638 : (Jvm.Cond.code ({ cls := "RunKeeper$Level", name := "runAt", desc := "(I)LRunKeeper$Run;" } : Jvm.MethodName) prog_3_method_4_code (2 : Nat) (Option.some (Jvm.ClassFile.FieldType.object "RunKeeper$Run")) : Cond) ∈ wd_all := wd_m 638 (by decide +kernel) (by decide +kernel)
theorem wi_639 : (Jvm.Cond.methodLink "RunKeeper" (277 : Nat) ({ cls := "RunKeeper$Run", name := "mayHave", desc := "(I)Z" } : Jvm.MethodName) : Cond) ∈ wd_all := wd_m 639 (by decide +kernel) (by decide +kernel)
theorem wi_640 : (Jvm.Cond.instanceMethod ({ cls := "RunKeeper$Run", name := "mayHave", desc := "(I)Z" } : Jvm.MethodName) : Cond) ∈ wd_all := wd_m 640 (by decide +kernel) (by decide +kernel)
theorem wi_641 : (Jvm.Cond.selects "RunKeeper$Run" ({ cls := "RunKeeper$Run", name := "mayHave", desc := "(I)Z" } : Jvm.MethodName) ({ cls := "RunKeeper$Run", name := "mayHave", desc := "(I)Z" } : Jvm.MethodName) : Cond) ∈ wd_all := wd_m 641 (by decide +kernel) (by decide +kernel)
theorem wi_642 : (Jvm.Cond.code ({ cls := "RunKeeper$Run", name := "mayHave", desc := "(I)Z" } : Jvm.MethodName) prog_5_method_5_code (4 : Nat) (Option.some Jvm.ClassFile.FieldType.boolean) : Cond) ∈ wd_all := wd_m 642 (by decide +kernel) (by decide +kernel)
theorem wi_643 : (Jvm.Cond.methodLink "RunKeeper$Run" (52 : Nat) ({ cls := "RunKeeper$Run", name := "passesFilter", desc := "(I)Z" } : Jvm.MethodName) : Cond) ∈ wd_all := wd_m 643 (by decide +kernel) (by decide +kernel)
theorem wi_645 : (Jvm.Cond.instanceMethod ({ cls := "RunKeeper$Run", name := "passesFilter", desc := "(I)Z" } : Jvm.MethodName) : Cond) ∈ wd_all := wd_m 645 (by decide +kernel) (by decide +kernel)
theorem wi_646 : (Jvm.Cond.code ({ cls := "RunKeeper$Run", name := "passesFilter", desc := "(I)Z" } : Jvm.MethodName) prog_5_method_6_code (4 : Nat) (Option.some Jvm.ClassFile.FieldType.boolean) : Cond) ∈ wd_all := wd_m 646 (by decide +kernel) (by decide +kernel)
theorem wi_647 : (Jvm.Cond.methodLink "RunKeeper" (280 : Nat) ({ cls := "RunKeeper", name := "probe", desc := "(LRunKeeper$Run;II)LRunKeeper$Entry;" } : Jvm.MethodName) : Cond) ∈ wd_all := wd_m 647 (by decide +kernel) (by decide +kernel)
theorem wi_649 : (Jvm.Cond.instanceMethod ({ cls := "RunKeeper", name := "probe", desc := "(LRunKeeper$Run;II)LRunKeeper$Entry;" } : Jvm.MethodName) : Cond) ∈ wd_all := wd_m 649 (by decide +kernel) (by decide +kernel)
theorem wi_650 : (Jvm.Cond.code ({ cls := "RunKeeper", name := "probe", desc := "(LRunKeeper$Run;II)LRunKeeper$Entry;" } : Jvm.MethodName) prog_1_method_34_code (4 : Nat) (Option.some (Jvm.ClassFile.FieldType.object "RunKeeper$Entry")) : Cond) ∈ wd_all := wd_m 650 (by decide +kernel) (by decide +kernel)
theorem wi_651 : (Jvm.Cond.methodLink "RunKeeper" (177 : Nat) ({ cls := "RunKeeper$Run", name := "entries", desc := "()LRunKeeper$Row;" } : Jvm.MethodName) : Cond) ∈ wd_all := wd_m 651 (by decide +kernel) (by decide +kernel)
theorem wi_652 : (Jvm.Cond.methodLink "RunKeeper" (284 : Nat) ({ cls := "RunKeeper$Row", name := "hasKey", desc := "(I)Z" } : Jvm.MethodName) : Cond) ∈ wd_all := wd_m 652 (by decide +kernel) (by decide +kernel)
theorem wi_653 : (Jvm.Cond.instanceMethod ({ cls := "RunKeeper$Row", name := "hasKey", desc := "(I)Z" } : Jvm.MethodName) : Cond) ∈ wd_all := wd_m 653 (by decide +kernel) (by decide +kernel)
theorem wi_654 : (Jvm.Cond.selects "RunKeeper$Row" ({ cls := "RunKeeper$Row", name := "hasKey", desc := "(I)Z" } : Jvm.MethodName) ({ cls := "RunKeeper$Row", name := "hasKey", desc := "(I)Z" } : Jvm.MethodName) : Cond) ∈ wd_all := wd_m 654 (by decide +kernel) (by decide +kernel)
theorem wi_655 : (Jvm.Cond.code ({ cls := "RunKeeper$Row", name := "hasKey", desc := "(I)Z" } : Jvm.MethodName) prog_4_method_10_code (3 : Nat) (Option.some Jvm.ClassFile.FieldType.boolean) : Cond) ∈ wd_all := wd_m 655 (by decide +kernel) (by decide +kernel)
theorem wi_656 : (Jvm.Cond.classLink "RunKeeper" (156 : Nat) "java/lang/UnsupportedOperationException" : Cond) ∈ wd_all := wd_m 656 (by decide +kernel) (by decide +kernel)
theorem wi_657 : (Jvm.Cond.instantiable "java/lang/UnsupportedOperationException" (6 : Nat) : Cond) ∈ wd_all := wd_m 657 (by decide +kernel) (by decide +kernel)
theorem wi_659 : (Jvm.Cond.selects "java/lang/UnsupportedOperationException" ({ cls := "java/lang/Throwable", name := "fillInStackTrace", desc := "(I)Ljava/lang/Throwable;" } : Jvm.MethodName) ({ cls := "java/lang/Throwable", name := "fillInStackTrace", desc := "(I)Ljava/lang/Throwable;" } : Jvm.MethodName) : Cond) ∈ wd_all := wd_m 659 (by decide +kernel) (by decide +kernel)
theorem wi_666 : (Jvm.Cond.methodLink "RunKeeper" (160 : Nat) ({ cls := "java/lang/UnsupportedOperationException", name := "<init>", desc := "(Ljava/lang/String;)V" } : Jvm.MethodName) : Cond) ∈ wd_all := wd_m 666 (by decide +kernel) (by decide +kernel)
theorem wi_667 : (Jvm.Cond.instanceMethod ({ cls := "java/lang/UnsupportedOperationException", name := "<init>", desc := "(Ljava/lang/String;)V" } : Jvm.MethodName) : Cond) ∈ wd_all := wd_m 667 (by decide +kernel) (by decide +kernel)
theorem wi_669 : (Jvm.Cond.methodLink "java/lang/UnsupportedOperationException" (7 : Nat) ({ cls := "java/lang/RuntimeException", name := "<init>", desc := "(Ljava/lang/String;)V" } : Jvm.MethodName) : Cond) ∈ wd_all := wd_m 669 (by decide +kernel) (by decide +kernel)
theorem wi_672 : (Jvm.Cond.methodLink "RunKeeperLaw" (112 : Nat) ({ cls := "RunKeeperLaw", name := "next", desc := "(LRunKeeper;II[J)I" } : Jvm.MethodName) : Cond) ∈ wd_all := wd_m 672 (by decide +kernel) (by decide +kernel)
theorem wi_673 : (Jvm.Cond.static ({ cls := "RunKeeperLaw", name := "next", desc := "(LRunKeeper;II[J)I" } : Jvm.MethodName) : Cond) ∈ wd_all := wd_m 673 (by decide +kernel) (by decide +kernel)
theorem wi_675 : (Jvm.Cond.methodLink "RunKeeperLaw" (47 : Nat) ({ cls := "RunKeeper", name := "next", desc := "(II)I" } : Jvm.MethodName) : Cond) ∈ wd_all := wd_m 675 (by decide +kernel) (by decide +kernel)
theorem wi_676 : (Jvm.Cond.instanceMethod ({ cls := "RunKeeper", name := "next", desc := "(II)I" } : Jvm.MethodName) : Cond) ∈ wd_all := wd_m 676 (by decide +kernel) (by decide +kernel)
theorem wi_677 : (Jvm.Cond.selects "RunKeeper" ({ cls := "RunKeeper", name := "next", desc := "(II)I" } : Jvm.MethodName) ({ cls := "RunKeeper", name := "next", desc := "(II)I" } : Jvm.MethodName) : Cond) ∈ wd_all := wd_m 677 (by decide +kernel) (by decide +kernel)
theorem wi_678 : (Jvm.Cond.code ({ cls := "RunKeeper", name := "next", desc := "(II)I" } : Jvm.MethodName) prog_1_method_13_code (5 : Nat) (Option.some Jvm.ClassFile.FieldType.int) : Cond) ∈ wd_all := wd_m 678 (by decide +kernel) (by decide +kernel)
theorem wi_679 : (Jvm.Cond.methodLink "RunKeeper" (165 : Nat) ({ cls := "RunKeeper", name := "noteNewestOfKeys", desc := "(I)V" } : Jvm.MethodName) : Cond) ∈ wd_all := wd_m 679 (by decide +kernel) (by decide +kernel)
theorem wi_681 : (Jvm.Cond.instanceMethod ({ cls := "RunKeeper", name := "noteNewestOfKeys", desc := "(I)V" } : Jvm.MethodName) : Cond) ∈ wd_all := wd_m 681 (by decide +kernel) (by decide +kernel)
theorem wi_682 : (Jvm.Cond.code ({ cls := "RunKeeper", name := "noteNewestOfKeys", desc := "(I)V" } : Jvm.MethodName) prog_1_method_35_code (3 : Nat) (Option.none : Option Jvm.ClassFile.FieldType) : Cond) ∈ wd_all := wd_m 682 (by decide +kernel) (by decide +kernel)
theorem wi_683 : (Jvm.Cond.methodLink "RunKeeper" (287 : Nat) ({ cls := "RunKeeper", name := "noteIfNewest", desc := "(LRunKeeper$Entry;I)V" } : Jvm.MethodName) : Cond) ∈ wd_all := wd_m 683 (by decide +kernel) (by decide +kernel)
theorem wi_685 : (Jvm.Cond.instanceMethod ({ cls := "RunKeeper", name := "noteIfNewest", desc := "(LRunKeeper$Entry;I)V" } : Jvm.MethodName) : Cond) ∈ wd_all := wd_m 685 (by decide +kernel) (by decide +kernel)
theorem wi_686 : (Jvm.Cond.code ({ cls := "RunKeeper", name := "noteIfNewest", desc := "(LRunKeeper$Entry;I)V" } : Jvm.MethodName) prog_1_method_36_code (4 : Nat) (Option.none : Option Jvm.ClassFile.FieldType) : Cond) ∈ wd_all := wd_m 686 (by decide +kernel) (by decide +kernel)
theorem wi_687 : (Jvm.Cond.methodLink "RunKeeperLaw" (115 : Nat) ({ cls := "RunKeeperLaw", name := "entry", desc := "(LRunKeeper;IIII[J)I" } : Jvm.MethodName) : Cond) ∈ wd_all := wd_m 687 (by decide +kernel) (by decide +kernel)
theorem wi_688 : (Jvm.Cond.static ({ cls := "RunKeeperLaw", name := "entry", desc := "(LRunKeeper;IIII[J)I" } : Jvm.MethodName) : Cond) ∈ wd_all := wd_m 688 (by decide +kernel) (by decide +kernel)
theorem wi_690 : (Jvm.Cond.methodLink "RunKeeperLaw" (51 : Nat) ({ cls := "RunKeeper", name := "entry", desc := "(IIII)I" } : Jvm.MethodName) : Cond) ∈ wd_all := wd_m 690 (by decide +kernel) (by decide +kernel)
theorem wi_691 : (Jvm.Cond.instanceMethod ({ cls := "RunKeeper", name := "entry", desc := "(IIII)I" } : Jvm.MethodName) : Cond) ∈ wd_all := wd_m 691 (by decide +kernel) (by decide +kernel)
theorem wi_692 : (Jvm.Cond.selects "RunKeeper" ({ cls := "RunKeeper", name := "entry", desc := "(IIII)I" } : Jvm.MethodName) ({ cls := "RunKeeper", name := "entry", desc := "(IIII)I" } : Jvm.MethodName) : Cond) ∈ wd_all := wd_m 692 (by decide +kernel) (by decide +kernel)
theorem wi_693 : (Jvm.Cond.code ({ cls := "RunKeeper", name := "entry", desc := "(IIII)I" } : Jvm.MethodName) prog_1_method_14_code (7 : Nat) (Option.some Jvm.ClassFile.FieldType.int) : Cond) ∈ wd_all := wd_m 693 (by decide +kernel) (by decide +kernel)
theorem wi_696 : (Jvm.Cond.methodLink "RunKeeperLaw" (119 : Nat) ({ cls := "RunKeeperLaw", name := "count", desc := "(LRunKeeper;II[J)I" } : Jvm.MethodName) : Cond) ∈ wd_all := wd_m 696 (by decide +kernel) (by decide +kernel)
theorem wi_697 : (Jvm.Cond.static ({ cls := "RunKeeperLaw", name := "count", desc := "(LRunKeeper;II[J)I" } : Jvm.MethodName) : Cond) ∈ wd_all := wd_m 697 (by decide +kernel) (by decide +kernel)
theorem wi_699 : (Jvm.Cond.methodLink "RunKeeperLaw" (55 : Nat) ({ cls := "RunKeeper", name := "count", desc := "(II)I" } : Jvm.MethodName) : Cond) ∈ wd_all := wd_m 699 (by decide +kernel) (by decide +kernel)
theorem wi_700 : (Jvm.Cond.instanceMethod ({ cls := "RunKeeper", name := "count", desc := "(II)I" } : Jvm.MethodName) : Cond) ∈ wd_all := wd_m 700 (by decide +kernel) (by decide +kernel)
theorem wi_701 : (Jvm.Cond.selects "RunKeeper" ({ cls := "RunKeeper", name := "count", desc := "(II)I" } : Jvm.MethodName) ({ cls := "RunKeeper", name := "count", desc := "(II)I" } : Jvm.MethodName) : Cond) ∈ wd_all := wd_m 701 (by decide +kernel) (by decide +kernel)
theorem wi_702 : (Jvm.Cond.code ({ cls := "RunKeeper", name := "count", desc := "(II)I" } : Jvm.MethodName) prog_1_method_15_code (3 : Nat) (Option.some Jvm.ClassFile.FieldType.int) : Cond) ∈ wd_all := wd_m 702 (by decide +kernel) (by decide +kernel)
theorem wi_704 : (Jvm.Cond.methodLink "RunKeeper" (197 : Nat) ({ cls := "RunKeeper$Snapshots", name := "taken", desc := "()I" } : Jvm.MethodName) : Cond) ∈ wd_all := wd_m 704 (by decide +kernel) (by decide +kernel)
theorem wi_705 : (Jvm.Cond.instanceMethod ({ cls := "RunKeeper$Snapshots", name := "taken", desc := "()I" } : Jvm.MethodName) : Cond) ∈ wd_all := wd_m 705 (by decide +kernel) (by decide +kernel)
theorem wi_706 : (Jvm.Cond.selects "RunKeeper$Snapshots" ({ cls := "RunKeeper$Snapshots", name := "taken", desc := "()I" } : Jvm.MethodName) ({ cls := "RunKeeper$Snapshots", name := "taken", desc := "()I" } : Jvm.MethodName) : Cond) ∈ wd_all := wd_m 706 (by decide +kernel) (by decide +kernel)
theorem wi_707 : (Jvm.Cond.code ({ cls := "RunKeeper$Snapshots", name := "taken", desc := "()I" } : Jvm.MethodName) prog_6_method_8_code (3 : Nat) (Option.some Jvm.ClassFile.FieldType.int) : Cond) ∈ wd_all := wd_m 707 (by decide +kernel) (by decide +kernel)
theorem wi_708 : (Jvm.Cond.classLink "RunKeeperLaw" (59 : Nat) "RunKeeperModel" : Cond) ∈ wd_all := wd_m 708 (by decide +kernel) (by decide +kernel)
theorem wi_709 : (Jvm.Cond.instantiable "RunKeeperModel" (22 : Nat) : Cond) ∈ wd_all := wd_m 709 (by decide +kernel) (by decide +kernel)
theorem wi_710 : (Jvm.Cond.methodLink "RunKeeperLaw" (61 : Nat) ({ cls := "RunKeeperModel", name := "<init>", desc := "()V" } : Jvm.MethodName) : Cond) ∈ wd_all := wd_m 710 (by decide +kernel) (by decide +kernel)
theorem wi_711 : (Jvm.Cond.instanceMethod ({ cls := "RunKeeperModel", name := "<init>", desc := "()V" } : Jvm.MethodName) : Cond) ∈ wd_all := wd_m 711 (by decide +kernel) (by decide +kernel)
theorem wi_712 : (Jvm.Cond.code ({ cls := "RunKeeperModel", name := "<init>", desc := "()V" } : Jvm.MethodName) prog_8_method_1_code (1 : Nat) (Option.none : Option Jvm.ClassFile.FieldType) : Cond) ∈ wd_all := wd_m 712 (by decide +kernel) (by decide +kernel)
theorem wi_713 : (Jvm.Cond.methodLink "RunKeeperModel" (1 : Nat) ({ cls := "java/lang/Object", name := "<init>", desc := "()V" } : Jvm.MethodName) : Cond) ∈ wd_all := wd_m 713 (by decide +kernel) (by decide +kernel)
theorem wi_714 : (Jvm.Cond.fieldLink "RunKeeperModel" (58 : Nat) "RunKeeperModel" "err" "I" : Cond) ∈ wd_all := wd_m 714 (by decide +kernel) (by decide +kernel)
theorem wi_715 : (Jvm.Cond.fieldLink "RunKeeperModel" (61 : Nat) "RunKeeperModel" "n" "I" : Cond) ∈ wd_all := wd_m 715 (by decide +kernel) (by decide +kernel)
theorem wi_716 : (Jvm.Cond.fieldLink "RunKeeperModel" (64 : Nat) "RunKeeperModel" "sequence" "I" : Cond) ∈ wd_all := wd_m 716 (by decide +kernel) (by decide +kernel)
theorem wi_717 : (Jvm.Cond.fieldLink "RunKeeperModel" (94 : Nat) "RunKeeperModel" "safe" "I" : Cond) ∈ wd_all := wd_m 717 (by decide +kernel) (by decide +kernel)
theorem wi_718 : (Jvm.Cond.fieldLink "RunKeeperModel" (91 : Nat) "RunKeeperModel" "runs" "I" : Cond) ∈ wd_all := wd_m 718 (by decide +kernel) (by decide +kernel)
theorem wi_719 : (Jvm.Cond.fieldLink "RunKeeperModel" (7 : Nat) "RunKeeperModel" "batch" "I" : Cond) ∈ wd_all := wd_m 719 (by decide +kernel) (by decide +kernel)
theorem wi_720 : (Jvm.Cond.fieldLink "RunKeeperModel" (132 : Nat) "RunKeeperModel" "probed" "I" : Cond) ∈ wd_all := wd_m 720 (by decide +kernel) (by decide +kernel)
theorem wi_721 : (Jvm.Cond.fieldLink "RunKeeperModel" (135 : Nat) "RunKeeperModel" "missed" "I" : Cond) ∈ wd_all := wd_m 721 (by decide +kernel) (by decide +kernel)
theorem wi_722 : (Jvm.Cond.fieldLink "RunKeeperModel" (13 : Nat) "RunKeeperModel" "key" "[I" : Cond) ∈ wd_all := wd_m 722 (by decide +kernel) (by decide +kernel)
theorem wi_723 : (Jvm.Cond.fieldLink "RunKeeperModel" (17 : Nat) "RunKeeperModel" "number" "[I" : Cond) ∈ wd_all := wd_m 723 (by decide +kernel) (by decide +kernel)
theorem wi_724 : (Jvm.Cond.fieldLink "RunKeeperModel" (20 : Nat) "RunKeeperModel" "run" "[I" : Cond) ∈ wd_all := wd_m 724 (by decide +kernel) (by decide +kernel)
theorem wi_725 : (Jvm.Cond.fieldLink "RunKeeperModel" (23 : Nat) "RunKeeperModel" "level" "[I" : Cond) ∈ wd_all := wd_m 725 (by decide +kernel) (by decide +kernel)
theorem wi_726 : (Jvm.Cond.fieldLink "RunKeeperModel" (26 : Nat) "RunKeeperModel" "snapshot" "[I" : Cond) ∈ wd_all := wd_m 726 (by decide +kernel) (by decide +kernel)
theorem wi_727 : (Jvm.Cond.fieldLink "RunKeeperModel" (29 : Nat) "RunKeeperModel" "batchKey" "[I" : Cond) ∈ wd_all := wd_m 727 (by decide +kernel) (by decide +kernel)
theorem wi_728 : (Jvm.Cond.fieldLink "RunKeeperModel" (32 : Nat) "RunKeeperModel" "order" "[I" : Cond) ∈ wd_all := wd_m 728 (by decide +kernel) (by decide +kernel)
theorem wi_729 : (Jvm.Cond.fieldLink "RunKeeperModel" (35 : Nat) "RunKeeperModel" "value" "[J" : Cond) ∈ wd_all := wd_m 729 (by decide +kernel) (by decide +kernel)
theorem wi_730 : (Jvm.Cond.fieldLink "RunKeeperModel" (39 : Nat) "RunKeeperModel" "batchValue" "[J" : Cond) ∈ wd_all := wd_m 730 (by decide +kernel) (by decide +kernel)
theorem wi_731 : (Jvm.Cond.fieldLink "RunKeeperModel" (42 : Nat) "RunKeeperModel" "deleted" "[Z" : Cond) ∈ wd_all := wd_m 731 (by decide +kernel) (by decide +kernel)
theorem wi_732 : (Jvm.Cond.fieldLink "RunKeeperModel" (46 : Nat) "RunKeeperModel" "isSnapshot" "[Z" : Cond) ∈ wd_all := wd_m 732 (by decide +kernel) (by decide +kernel)
theorem wi_733 : (Jvm.Cond.fieldLink "RunKeeperModel" (49 : Nat) "RunKeeperModel" "batchDeleted" "[Z" : Cond) ∈ wd_all := wd_m 733 (by decide +kernel) (by decide +kernel)
theorem wi_734 : (Jvm.Cond.fieldLink "RunKeeperModel" (52 : Nat) "RunKeeperModel" "keeps" "[Z" : Cond) ∈ wd_all := wd_m 734 (by decide +kernel) (by decide +kernel)
theorem wi_735 : (Jvm.Cond.fieldLink "RunKeeperModel" (55 : Nat) "RunKeeperModel" "bits" "[Z" : Cond) ∈ wd_all := wd_m 735 (by decide +kernel) (by decide +kernel)
theorem wi_781 : (Jvm.Cond.methodLink "RunKeeperLaw" (70 : Nat) ({ cls := "RunKeeperModel", name := "thrown", desc := "()I" } : Jvm.MethodName) : Cond) ∈ wd_all := wd_m 781 (by decide +kernel) (by decide +kernel)
theorem wi_782 : (Jvm.Cond.instanceMethod ({ cls := "RunKeeperModel", name := "thrown", desc := "()I" } : Jvm.MethodName) : Cond) ∈ wd_all := wd_m 782 (by decide +kernel) (by decide +kernel)
theorem wi_783 : (Jvm.Cond.selects "RunKeeperModel" ({ cls := "RunKeeperModel", name := "thrown", desc := "()I" } : Jvm.MethodName) ({ cls := "RunKeeperModel", name := "thrown", desc := "()I" } : Jvm.MethodName) : Cond) ∈ wd_all := wd_m 783 (by decide +kernel) (by decide +kernel)
theorem wi_784 : (Jvm.Cond.code ({ cls := "RunKeeperModel", name := "thrown", desc := "()I" } : Jvm.MethodName) prog_8_method_2_code (1 : Nat) (Option.some Jvm.ClassFile.FieldType.int) : Cond) ∈ wd_all := wd_m 784 (by decide +kernel) (by decide +kernel)
theorem wi_785 : (Jvm.Cond.methodLink "RunKeeperLaw" (69 : Nat) ({ cls := "RunKeeperModel", name := "put", desc := "(IJ)I" } : Jvm.MethodName) : Cond) ∈ wd_all := wd_m 785 (by decide +kernel) (by decide +kernel)
theorem wi_786 : (Jvm.Cond.instanceMethod ({ cls := "RunKeeperModel", name := "put", desc := "(IJ)I" } : Jvm.MethodName) : Cond) ∈ wd_all := wd_m 786 (by decide +kernel) (by decide +kernel)
theorem wi_787 : (Jvm.Cond.selects "RunKeeperModel" ({ cls := "RunKeeperModel", name := "put", desc := "(IJ)I" } : Jvm.MethodName) ({ cls := "RunKeeperModel", name := "put", desc := "(IJ)I" } : Jvm.MethodName) : Cond) ∈ wd_all := wd_m 787 (by decide +kernel) (by decide +kernel)
theorem wi_788 : (Jvm.Cond.code ({ cls := "RunKeeperModel", name := "put", desc := "(IJ)I" } : Jvm.MethodName) prog_8_method_8_code (4 : Nat) (Option.some Jvm.ClassFile.FieldType.int) : Cond) ∈ wd_all := wd_m 788 (by decide +kernel) (by decide +kernel)
theorem wi_789 : (Jvm.Cond.methodLink "RunKeeperModel" (87 : Nat) ({ cls := "RunKeeperModel", name := "written", desc := "(IJZ)I" } : Jvm.MethodName) : Cond) ∈ wd_all := wd_m 789 (by decide +kernel) (by decide +kernel)
theorem wi_791 : (Jvm.Cond.instanceMethod ({ cls := "RunKeeperModel", name := "written", desc := "(IJZ)I" } : Jvm.MethodName) : Cond) ∈ wd_all := wd_m 791 (by decide +kernel) (by decide +kernel)
theorem wi_792 : (Jvm.Cond.code ({ cls := "RunKeeperModel", name := "written", desc := "(IJZ)I" } : Jvm.MethodName) prog_8_method_7_code (5 : Nat) (Option.some Jvm.ClassFile.FieldType.int) : Cond) ∈ wd_all := wd_m 792 (by decide +kernel) (by decide +kernel)
theorem wi_793 : (Jvm.Cond.methodLink "RunKeeperModel" (67 : Nat) ({ cls := "RunKeeperModel", name := "in", desc := "(III)Z" } : Jvm.MethodName) : Cond) ∈ wd_all := wd_m 793 (by decide +kernel) (by decide +kernel)
theorem wi_794 : (Jvm.Cond.static ({ cls := "RunKeeperModel", name := "in", desc := "(III)Z" } : Jvm.MethodName) : Cond) ∈ wd_all := wd_m 794 (by decide +kernel) (by decide +kernel)
theorem wi_795 : (Jvm.Cond.code ({ cls := "RunKeeperModel", name := "in", desc := "(III)Z" } : Jvm.MethodName) prog_8_method_3_code (3 : Nat) (Option.some Jvm.ClassFile.FieldType.boolean) : Cond) ∈ wd_all := wd_m 795 (by decide +kernel) (by decide +kernel)
theorem wi_796 : (Jvm.Cond.methodLink "RunKeeperModel" (71 : Nat) ({ cls := "RunKeeperModel", name := "fails", desc := "(ZI)Z" } : Jvm.MethodName) : Cond) ∈ wd_all := wd_m 796 (by decide +kernel) (by decide +kernel)
theorem wi_798 : (Jvm.Cond.instanceMethod ({ cls := "RunKeeperModel", name := "fails", desc := "(ZI)Z" } : Jvm.MethodName) : Cond) ∈ wd_all := wd_m 798 (by decide +kernel) (by decide +kernel)
theorem wi_799 : (Jvm.Cond.code ({ cls := "RunKeeperModel", name := "fails", desc := "(ZI)Z" } : Jvm.MethodName) prog_8_method_4_code (3 : Nat) (Option.some Jvm.ClassFile.FieldType.boolean) : Cond) ∈ wd_all := wd_m 799 (by decide +kernel) (by decide +kernel)
theorem wi_800 : (Jvm.Cond.methodLink "RunKeeperModel" (75 : Nat) ({ cls := "RunKeeperModel", name := "write", desc := "(IJZ)V" } : Jvm.MethodName) : Cond) ∈ wd_all := wd_m 800 (by decide +kernel) (by decide +kernel)
theorem wi_802 : (Jvm.Cond.instanceMethod ({ cls := "RunKeeperModel", name := "write", desc := "(IJZ)V" } : Jvm.MethodName) : Cond) ∈ wd_all := wd_m 802 (by decide +kernel) (by decide +kernel)
theorem wi_803 : (Jvm.Cond.code ({ cls := "RunKeeperModel", name := "write", desc := "(IJZ)V" } : Jvm.MethodName) prog_8_method_6_code (5 : Nat) (Option.none : Option Jvm.ClassFile.FieldType) : Cond) ∈ wd_all := wd_m 803 (by decide +kernel) (by decide +kernel)
theorem wi_804 : (Jvm.Cond.methodLink "RunKeeperModel" (79 : Nat) ({ cls := "RunKeeperModel", name := "inRun", desc := "(I)I" } : Jvm.MethodName) : Cond) ∈ wd_all := wd_m 804 (by decide +kernel) (by decide +kernel)
theorem wi_806 : (Jvm.Cond.instanceMethod ({ cls := "RunKeeperModel", name := "inRun", desc := "(I)I" } : Jvm.MethodName) : Cond) ∈ wd_all := wd_m 806 (by decide +kernel) (by decide +kernel)
theorem wi_807 : (Jvm.Cond.code ({ cls := "RunKeeperModel", name := "inRun", desc := "(I)I" } : Jvm.MethodName) prog_8_method_5_code (4 : Nat) (Option.some Jvm.ClassFile.FieldType.int) : Cond) ∈ wd_all := wd_m 807 (by decide +kernel) (by decide +kernel)
theorem wi_808 : (Jvm.Cond.methodLink "RunKeeperModel" (83 : Nat) ({ cls := "RunKeeperModel", name := "flushed", desc := "()I" } : Jvm.MethodName) : Cond) ∈ wd_all := wd_m 808 (by decide +kernel) (by decide +kernel)
theorem wi_810 : (Jvm.Cond.instanceMethod ({ cls := "RunKeeperModel", name := "flushed", desc := "()I" } : Jvm.MethodName) : Cond) ∈ wd_all := wd_m 810 (by decide +kernel) (by decide +kernel)
theorem wi_811 : (Jvm.Cond.code ({ cls := "RunKeeperModel", name := "flushed", desc := "()I" } : Jvm.MethodName) prog_8_method_10_code (3 : Nat) (Option.some Jvm.ClassFile.FieldType.int) : Cond) ∈ wd_all := wd_m 811 (by decide +kernel) (by decide +kernel)
theorem wi_812 : (Jvm.Cond.methodLink "RunKeeperLaw" (76 : Nat) ({ cls := "RunKeeperModel", name := "delete", desc := "(I)I" } : Jvm.MethodName) : Cond) ∈ wd_all := wd_m 812 (by decide +kernel) (by decide +kernel)
theorem wi_813 : (Jvm.Cond.instanceMethod ({ cls := "RunKeeperModel", name := "delete", desc := "(I)I" } : Jvm.MethodName) : Cond) ∈ wd_all := wd_m 813 (by decide +kernel) (by decide +kernel)
theorem wi_814 : (Jvm.Cond.selects "RunKeeperModel" ({ cls := "RunKeeperModel", name := "delete", desc := "(I)I" } : Jvm.MethodName) ({ cls := "RunKeeperModel", name := "delete", desc := "(I)I" } : Jvm.MethodName) : Cond) ∈ wd_all := wd_m 814 (by decide +kernel) (by decide +kernel)
theorem wi_815 : (Jvm.Cond.code ({ cls := "RunKeeperModel", name := "delete", desc := "(I)I" } : Jvm.MethodName) prog_8_method_9_code (2 : Nat) (Option.some Jvm.ClassFile.FieldType.int) : Cond) ∈ wd_all := wd_m 815 (by decide +kernel) (by decide +kernel)
theorem wi_816 : (Jvm.Cond.methodLink "RunKeeperLaw" (80 : Nat) ({ cls := "RunKeeperModel", name := "batch", desc := "()V" } : Jvm.MethodName) : Cond) ∈ wd_all := wd_m 816 (by decide +kernel) (by decide +kernel)
theorem wi_817 : (Jvm.Cond.instanceMethod ({ cls := "RunKeeperModel", name := "batch", desc := "()V" } : Jvm.MethodName) : Cond) ∈ wd_all := wd_m 817 (by decide +kernel) (by decide +kernel)
theorem wi_818 : (Jvm.Cond.selects "RunKeeperModel" ({ cls := "RunKeeperModel", name := "batch", desc := "()V" } : Jvm.MethodName) ({ cls := "RunKeeperModel", name := "batch", desc := "()V" } : Jvm.MethodName) : Cond) ∈ wd_all := wd_m 818 (by decide +kernel) (by decide +kernel)
theorem wi_819 : (Jvm.Cond.code ({ cls := "RunKeeperModel", name := "batch", desc := "()V" } : Jvm.MethodName) prog_8_method_11_code (1 : Nat) (Option.none : Option Jvm.ClassFile.FieldType) : Cond) ∈ wd_all := wd_m 819 (by decide +kernel) (by decide +kernel)
theorem wi_820 : (Jvm.Cond.methodLink "RunKeeperLaw" (84 : Nat) ({ cls := "RunKeeperModel", name := "end", desc := "(Z)I" } : Jvm.MethodName) : Cond) ∈ wd_all := wd_m 820 (by decide +kernel) (by decide +kernel)
theorem wi_821 : (Jvm.Cond.instanceMethod ({ cls := "RunKeeperModel", name := "end", desc := "(Z)I" } : Jvm.MethodName) : Cond) ∈ wd_all := wd_m 821 (by decide +kernel) (by decide +kernel)
theorem wi_822 : (Jvm.Cond.selects "RunKeeperModel" ({ cls := "RunKeeperModel", name := "end", desc := "(Z)I" } : Jvm.MethodName) ({ cls := "RunKeeperModel", name := "end", desc := "(Z)I" } : Jvm.MethodName) : Cond) ∈ wd_all := wd_m 822 (by decide +kernel) (by decide +kernel)
theorem wi_823 : (Jvm.Cond.code ({ cls := "RunKeeperModel", name := "end", desc := "(Z)I" } : Jvm.MethodName) prog_8_method_12_code (4 : Nat) (Option.some Jvm.ClassFile.FieldType.int) : Cond) ∈ wd_all := wd_m 823 (by decide +kernel) (by decide +kernel)
theorem wi_824 : (Jvm.Cond.methodLink "RunKeeperLaw" (88 : Nat) ({ cls := "RunKeeperModel", name := "sync", desc := "()I" } : Jvm.MethodName) : Cond) ∈ wd_all := wd_m 824 (by decide +kernel) (by decide +kernel)
theorem wi_825 : (Jvm.Cond.instanceMethod ({ cls := "RunKeeperModel", name := "sync", desc := "()I" } : Jvm.MethodName) : Cond) ∈ wd_all := wd_m 825 (by decide +kernel) (by decide +kernel)
theorem wi_826 : (Jvm.Cond.selects "RunKeeperModel" ({ cls := "RunKeeperModel", name := "sync", desc := "()I" } : Jvm.MethodName) ({ cls := "RunKeeperModel", name := "sync", desc := "()I" } : Jvm.MethodName) : Cond) ∈ wd_all := wd_m 826 (by decide +kernel) (by decide +kernel)
theorem wi_827 : (Jvm.Cond.code ({ cls := "RunKeeperModel", name := "sync", desc := "()I" } : Jvm.MethodName) prog_8_method_13_code (1 : Nat) (Option.some Jvm.ClassFile.FieldType.int) : Cond) ∈ wd_all := wd_m 827 (by decide +kernel) (by decide +kernel)
theorem wi_828 : (Jvm.Cond.methodLink "RunKeeperLaw" (92 : Nat) ({ cls := "RunKeeperModel", name := "flush", desc := "()I" } : Jvm.MethodName) : Cond) ∈ wd_all := wd_m 828 (by decide +kernel) (by decide +kernel)
theorem wi_829 : (Jvm.Cond.instanceMethod ({ cls := "RunKeeperModel", name := "flush", desc := "()I" } : Jvm.MethodName) : Cond) ∈ wd_all := wd_m 829 (by decide +kernel) (by decide +kernel)
theorem wi_830 : (Jvm.Cond.selects "RunKeeperModel" ({ cls := "RunKeeperModel", name := "flush", desc := "()I" } : Jvm.MethodName) ({ cls := "RunKeeperModel", name := "flush", desc := "()I" } : Jvm.MethodName) : Cond) ∈ wd_all := wd_m 830 (by decide +kernel) (by decide +kernel)
theorem wi_831 : (Jvm.Cond.code ({ cls := "RunKeeperModel", name := "flush", desc := "()I" } : Jvm.MethodName) prog_8_method_14_code (1 : Nat) (Option.some Jvm.ClassFile.FieldType.int) : Cond) ∈ wd_all := wd_m 831 (by decide +kernel) (by decide +kernel)
theorem wi_832 : (Jvm.Cond.methodLink "RunKeeperLaw" (95 : Nat) ({ cls := "RunKeeperModel", name := "merge", desc := "(I)I" } : Jvm.MethodName) : Cond) ∈ wd_all := wd_m 832 (by decide +kernel) (by decide +kernel)
theorem wi_833 : (Jvm.Cond.instanceMethod ({ cls := "RunKeeperModel", name := "merge", desc := "(I)I" } : Jvm.MethodName) : Cond) ∈ wd_all := wd_m 833 (by decide +kernel) (by decide +kernel)
theorem wi_834 : (Jvm.Cond.selects "RunKeeperModel" ({ cls := "RunKeeperModel", name := "merge", desc := "(I)I" } : Jvm.MethodName) ({ cls := "RunKeeperModel", name := "merge", desc := "(I)I" } : Jvm.MethodName) : Cond) ∈ wd_all := wd_m 834 (by decide +kernel) (by decide +kernel)
theorem wi_835 : (Jvm.Cond.code ({ cls := "RunKeeperModel", name := "merge", desc := "(I)I" } : Jvm.MethodName) prog_8_method_20_code (3 : Nat) (Option.some Jvm.ClassFile.FieldType.int) : Cond) ∈ wd_all := wd_m 835 (by decide +kernel) (by decide +kernel)
theorem wi_836 : (Jvm.Cond.methodLink "RunKeeperModel" (114 : Nat) ({ cls := "RunKeeperModel", name := "step", desc := "()Z" } : Jvm.MethodName) : Cond) ∈ wd_all := wd_m 836 (by decide +kernel) (by decide +kernel)
theorem wi_838 : (Jvm.Cond.instanceMethod ({ cls := "RunKeeperModel", name := "step", desc := "()Z" } : Jvm.MethodName) : Cond) ∈ wd_all := wd_m 838 (by decide +kernel) (by decide +kernel)
theorem wi_839 : (Jvm.Cond.code ({ cls := "RunKeeperModel", name := "step", desc := "()Z" } : Jvm.MethodName) prog_8_method_16_code (8 : Nat) (Option.some Jvm.ClassFile.FieldType.boolean) : Cond) ∈ wd_all := wd_m 839 (by decide +kernel) (by decide +kernel)
theorem wi_840 : (Jvm.Cond.methodLink "RunKeeperModel" (97 : Nat) ({ cls := "RunKeeperModel", name := "runsOf", desc := "(I)I" } : Jvm.MethodName) : Cond) ∈ wd_all := wd_m 840 (by decide +kernel) (by decide +kernel)
theorem wi_842 : (Jvm.Cond.instanceMethod ({ cls := "RunKeeperModel", name := "runsOf", desc := "(I)I" } : Jvm.MethodName) : Cond) ∈ wd_all := wd_m 842 (by decide +kernel) (by decide +kernel)
theorem wi_843 : (Jvm.Cond.code ({ cls := "RunKeeperModel", name := "runsOf", desc := "(I)I" } : Jvm.MethodName) prog_8_method_15_code (4 : Nat) (Option.some Jvm.ClassFile.FieldType.int) : Cond) ∈ wd_all := wd_m 843 (by decide +kernel) (by decide +kernel)
theorem wi_844 : (Jvm.Cond.methodLink "RunKeeperModel" (100 : Nat) ({ cls := "RunKeeperModel", name := "isKept", desc := "(II)Z" } : Jvm.MethodName) : Cond) ∈ wd_all := wd_m 844 (by decide +kernel) (by decide +kernel)
theorem wi_846 : (Jvm.Cond.instanceMethod ({ cls := "RunKeeperModel", name := "isKept", desc := "(II)Z" } : Jvm.MethodName) : Cond) ∈ wd_all := wd_m 846 (by decide +kernel) (by decide +kernel)
theorem wi_847 : (Jvm.Cond.code ({ cls := "RunKeeperModel", name := "isKept", desc := "(II)Z" } : Jvm.MethodName) prog_8_method_17_code (4 : Nat) (Option.some Jvm.ClassFile.FieldType.boolean) : Cond) ∈ wd_all := wd_m 847 (by decide +kernel) (by decide +kernel)
theorem wi_848 : (Jvm.Cond.constant "RunKeeperModel" (110 : Nat) (2147483647 : Int32) : Cond) ∈ wd_all := wd_m 848 (by decide +kernel) (by decide +kernel)
theorem wi_849 : (Jvm.Cond.methodLink "RunKeeperModel" (111 : Nat) ({ cls := "RunKeeperModel", name := "isTop", desc := "(III)Z" } : Jvm.MethodName) : Cond) ∈ wd_all := wd_m 849 (by decide +kernel) (by decide +kernel)
theorem wi_851 : (Jvm.Cond.instanceMethod ({ cls := "RunKeeperModel", name := "isTop", desc := "(III)Z" } : Jvm.MethodName) : Cond) ∈ wd_all := wd_m 851 (by decide +kernel) (by decide +kernel)
theorem wi_852 : (Jvm.Cond.code ({ cls := "RunKeeperModel", name := "isTop", desc := "(III)Z" } : Jvm.MethodName) prog_8_method_18_code (5 : Nat) (Option.some Jvm.ClassFile.FieldType.boolean) : Cond) ∈ wd_all := wd_m 852 (by decide +kernel) (by decide +kernel)
theorem wi_853 : (Jvm.Cond.methodLink "RunKeeperModel" (104 : Nat) ({ cls := "RunKeeperModel", name := "isLast", desc := "(I)Z" } : Jvm.MethodName) : Cond) ∈ wd_all := wd_m 853 (by decide +kernel) (by decide +kernel)
theorem wi_855 : (Jvm.Cond.instanceMethod ({ cls := "RunKeeperModel", name := "isLast", desc := "(I)Z" } : Jvm.MethodName) : Cond) ∈ wd_all := wd_m 855 (by decide +kernel) (by decide +kernel)
theorem wi_856 : (Jvm.Cond.code ({ cls := "RunKeeperModel", name := "isLast", desc := "(I)Z" } : Jvm.MethodName) prog_8_method_19_code (3 : Nat) (Option.some Jvm.ClassFile.FieldType.boolean) : Cond) ∈ wd_all := wd_m 856 (by decide +kernel) (by decide +kernel)
theorem wi_857 : (Jvm.Cond.methodLink "RunKeeperLaw" (99 : Nat) ({ cls := "RunKeeperModel", name := "crash", desc := "()I" } : Jvm.MethodName) : Cond) ∈ wd_all := wd_m 857 (by decide +kernel) (by decide +kernel)
theorem wi_858 : (Jvm.Cond.instanceMethod ({ cls := "RunKeeperModel", name := "crash", desc := "()I" } : Jvm.MethodName) : Cond) ∈ wd_all := wd_m 858 (by decide +kernel) (by decide +kernel)
theorem wi_859 : (Jvm.Cond.selects "RunKeeperModel" ({ cls := "RunKeeperModel", name := "crash", desc := "()I" } : Jvm.MethodName) ({ cls := "RunKeeperModel", name := "crash", desc := "()I" } : Jvm.MethodName) : Cond) ∈ wd_all := wd_m 859 (by decide +kernel) (by decide +kernel)
theorem wi_860 : (Jvm.Cond.code ({ cls := "RunKeeperModel", name := "crash", desc := "()I" } : Jvm.MethodName) prog_8_method_21_code (5 : Nat) (Option.some Jvm.ClassFile.FieldType.int) : Cond) ∈ wd_all := wd_m 860 (by decide +kernel) (by decide +kernel)
theorem wi_861 : (Jvm.Cond.methodLink "RunKeeperLaw" (103 : Nat) ({ cls := "RunKeeperModel", name := "snapshot", desc := "()I" } : Jvm.MethodName) : Cond) ∈ wd_all := wd_m 861 (by decide +kernel) (by decide +kernel)
theorem wi_862 : (Jvm.Cond.instanceMethod ({ cls := "RunKeeperModel", name := "snapshot", desc := "()I" } : Jvm.MethodName) : Cond) ∈ wd_all := wd_m 862 (by decide +kernel) (by decide +kernel)
theorem wi_863 : (Jvm.Cond.selects "RunKeeperModel" ({ cls := "RunKeeperModel", name := "snapshot", desc := "()I" } : Jvm.MethodName) ({ cls := "RunKeeperModel", name := "snapshot", desc := "()I" } : Jvm.MethodName) : Cond) ∈ wd_all := wd_m 863 (by decide +kernel) (by decide +kernel)
theorem wi_864 : (Jvm.Cond.code ({ cls := "RunKeeperModel", name := "snapshot", desc := "()I" } : Jvm.MethodName) prog_8_method_22_code (2 : Nat) (Option.some Jvm.ClassFile.FieldType.int) : Cond) ∈ wd_all := wd_m 864 (by decide +kernel) (by decide +kernel)
theorem wi_865 : (Jvm.Cond.methodLink "RunKeeperLaw" (107 : Nat) ({ cls := "RunKeeperModel", name := "release", desc := "(I)V" } : Jvm.MethodName) : Cond) ∈ wd_all := wd_m 865 (by decide +kernel) (by decide +kernel)
theorem wi_866 : (Jvm.Cond.instanceMethod ({ cls := "RunKeeperModel", name := "release", desc := "(I)V" } : Jvm.MethodName) : Cond) ∈ wd_all := wd_m 866 (by decide +kernel) (by decide +kernel)
theorem wi_867 : (Jvm.Cond.selects "RunKeeperModel" ({ cls := "RunKeeperModel", name := "release", desc := "(I)V" } : Jvm.MethodName) ({ cls := "RunKeeperModel", name := "release", desc := "(I)V" } : Jvm.MethodName) : Cond) ∈ wd_all := wd_m 867 (by decide +kernel) (by decide +kernel)
theorem wi_868 : (Jvm.Cond.code ({ cls := "RunKeeperModel", name := "release", desc := "(I)V" } : Jvm.MethodName) prog_8_method_24_code (2 : Nat) (Option.none : Option Jvm.ClassFile.FieldType) : Cond) ∈ wd_all := wd_m 868 (by decide +kernel) (by decide +kernel)
theorem wi_869 : (Jvm.Cond.methodLink "RunKeeperModel" (118 : Nat) ({ cls := "RunKeeperModel", name := "isNone", desc := "(I)Z" } : Jvm.MethodName) : Cond) ∈ wd_all := wd_m 869 (by decide +kernel) (by decide +kernel)
theorem wi_871 : (Jvm.Cond.instanceMethod ({ cls := "RunKeeperModel", name := "isNone", desc := "(I)Z" } : Jvm.MethodName) : Cond) ∈ wd_all := wd_m 871 (by decide +kernel) (by decide +kernel)
theorem wi_872 : (Jvm.Cond.code ({ cls := "RunKeeperModel", name := "isNone", desc := "(I)Z" } : Jvm.MethodName) prog_8_method_23_code (2 : Nat) (Option.some Jvm.ClassFile.FieldType.boolean) : Cond) ∈ wd_all := wd_m 872 (by decide +kernel) (by decide +kernel)
theorem wi_873 : (Jvm.Cond.methodLink "RunKeeperLaw" (111 : Nat) ({ cls := "RunKeeperModel", name := "get", desc := "(II)J" } : Jvm.MethodName) : Cond) ∈ wd_all := wd_m 873 (by decide +kernel) (by decide +kernel)
theorem wi_874 : (Jvm.Cond.instanceMethod ({ cls := "RunKeeperModel", name := "get", desc := "(II)J" } : Jvm.MethodName) : Cond) ∈ wd_all := wd_m 874 (by decide +kernel) (by decide +kernel)
theorem wi_875 : (Jvm.Cond.selects "RunKeeperModel" ({ cls := "RunKeeperModel", name := "get", desc := "(II)J" } : Jvm.MethodName) ({ cls := "RunKeeperModel", name := "get", desc := "(II)J" } : Jvm.MethodName) : Cond) ∈ wd_all := wd_m 875 (by decide +kernel) (by decide +kernel)
theorem wi_876 : (Jvm.Cond.code ({ cls := "RunKeeperModel", name := "get", desc := "(II)J" } : Jvm.MethodName) prog_8_method_27_code (4 : Nat) (Option.some Jvm.ClassFile.FieldType.long) : Cond) ∈ wd_all := wd_m 876 (by decide +kernel) (by decide +kernel)
theorem wi_877 : (Jvm.Cond.methodLink "RunKeeperModel" (121 : Nat) ({ cls := "RunKeeperModel", name := "upTo", desc := "(I)I" } : Jvm.MethodName) : Cond) ∈ wd_all := wd_m 877 (by decide +kernel) (by decide +kernel)
theorem wi_879 : (Jvm.Cond.instanceMethod ({ cls := "RunKeeperModel", name := "upTo", desc := "(I)I" } : Jvm.MethodName) : Cond) ∈ wd_all := wd_m 879 (by decide +kernel) (by decide +kernel)
theorem wi_880 : (Jvm.Cond.code ({ cls := "RunKeeperModel", name := "upTo", desc := "(I)I" } : Jvm.MethodName) prog_8_method_26_code (2 : Nat) (Option.some Jvm.ClassFile.FieldType.int) : Cond) ∈ wd_all := wd_m 880 (by decide +kernel) (by decide +kernel)
theorem wi_881 : (Jvm.Cond.methodLink "RunKeeperModel" (124 : Nat) ({ cls := "RunKeeperModel", name := "best", desc := "(II)I" } : Jvm.MethodName) : Cond) ∈ wd_all := wd_m 881 (by decide +kernel) (by decide +kernel)
theorem wi_883 : (Jvm.Cond.instanceMethod ({ cls := "RunKeeperModel", name := "best", desc := "(II)I" } : Jvm.MethodName) : Cond) ∈ wd_all := wd_m 883 (by decide +kernel) (by decide +kernel)
theorem wi_884 : (Jvm.Cond.code ({ cls := "RunKeeperModel", name := "best", desc := "(II)I" } : Jvm.MethodName) prog_8_method_25_code (5 : Nat) (Option.some Jvm.ClassFile.FieldType.int) : Cond) ∈ wd_all := wd_m 884 (by decide +kernel) (by decide +kernel)
theorem wi_885 : (Jvm.Cond.methodLink "RunKeeperModel" (128 : Nat) ({ cls := "RunKeeperModel", name := "probe", desc := "(II)V" } : Jvm.MethodName) : Cond) ∈ wd_all := wd_m 885 (by decide +kernel) (by decide +kernel)
theorem wi_887 : (Jvm.Cond.instanceMethod ({ cls := "RunKeeperModel", name := "probe", desc := "(II)V" } : Jvm.MethodName) : Cond) ∈ wd_all := wd_m 887 (by decide +kernel) (by decide +kernel)
theorem wi_888 : (Jvm.Cond.code ({ cls := "RunKeeperModel", name := "probe", desc := "(II)V" } : Jvm.MethodName) prog_8_method_28_code (7 : Nat) (Option.none : Option Jvm.ClassFile.FieldType) : Cond) ∈ wd_all := wd_m 888 (by decide +kernel) (by decide +kernel)
theorem wi_889 : (Jvm.Cond.methodLink "RunKeeperModel" (138 : Nat) ({ cls := "RunKeeperModel", name := "isAsked", desc := "(II)Z" } : Jvm.MethodName) : Cond) ∈ wd_all := wd_m 889 (by decide +kernel) (by decide +kernel)
theorem wi_891 : (Jvm.Cond.instanceMethod ({ cls := "RunKeeperModel", name := "isAsked", desc := "(II)Z" } : Jvm.MethodName) : Cond) ∈ wd_all := wd_m 891 (by decide +kernel) (by decide +kernel)
theorem wi_892 : (Jvm.Cond.code ({ cls := "RunKeeperModel", name := "isAsked", desc := "(II)Z" } : Jvm.MethodName) prog_8_method_30_code (7 : Nat) (Option.some Jvm.ClassFile.FieldType.boolean) : Cond) ∈ wd_all := wd_m 892 (by decide +kernel) (by decide +kernel)
theorem wi_893 : (Jvm.Cond.constantLong "RunKeeperModel" (141 : Nat) (2654435761 : Int64) : Cond) ∈ wd_all := wd_m 893 (by decide +kernel) (by decide +kernel)
theorem wi_894 : (Jvm.Cond.methodLink "RunKeeperModel" (143 : Nat) ({ cls := "RunKeeperModel", name := "bit", desc := "(IJI)I" } : Jvm.MethodName) : Cond) ∈ wd_all := wd_m 894 (by decide +kernel) (by decide +kernel)
theorem wi_895 : (Jvm.Cond.static ({ cls := "RunKeeperModel", name := "bit", desc := "(IJI)I" } : Jvm.MethodName) : Cond) ∈ wd_all := wd_m 895 (by decide +kernel) (by decide +kernel)
theorem wi_896 : (Jvm.Cond.code ({ cls := "RunKeeperModel", name := "bit", desc := "(IJI)I" } : Jvm.MethodName) prog_8_method_29_code (4 : Nat) (Option.some Jvm.ClassFile.FieldType.int) : Cond) ∈ wd_all := wd_m 896 (by decide +kernel) (by decide +kernel)
theorem wi_897 : (Jvm.Cond.constantLong "RunKeeperModel" (147 : Nat) (2246822519 : Int64) : Cond) ∈ wd_all := wd_m 897 (by decide +kernel) (by decide +kernel)
theorem wi_898 : (Jvm.Cond.constantLong "RunKeeperModel" (149 : Nat) (3266489917 : Int64) : Cond) ∈ wd_all := wd_m 898 (by decide +kernel) (by decide +kernel)
theorem wi_899 : (Jvm.Cond.methodLink "RunKeeperLaw" (114 : Nat) ({ cls := "RunKeeperModel", name := "next", desc := "(II)I" } : Jvm.MethodName) : Cond) ∈ wd_all := wd_m 899 (by decide +kernel) (by decide +kernel)
theorem wi_900 : (Jvm.Cond.instanceMethod ({ cls := "RunKeeperModel", name := "next", desc := "(II)I" } : Jvm.MethodName) : Cond) ∈ wd_all := wd_m 900 (by decide +kernel) (by decide +kernel)
theorem wi_901 : (Jvm.Cond.selects "RunKeeperModel" ({ cls := "RunKeeperModel", name := "next", desc := "(II)I" } : Jvm.MethodName) ({ cls := "RunKeeperModel", name := "next", desc := "(II)I" } : Jvm.MethodName) : Cond) ∈ wd_all := wd_m 901 (by decide +kernel) (by decide +kernel)
theorem wi_902 : (Jvm.Cond.code ({ cls := "RunKeeperModel", name := "next", desc := "(II)I" } : Jvm.MethodName) prog_8_method_31_code (5 : Nat) (Option.some Jvm.ClassFile.FieldType.int) : Cond) ∈ wd_all := wd_m 902 (by decide +kernel) (by decide +kernel)
theorem wi_903 : (Jvm.Cond.methodLink "RunKeeperLaw" (118 : Nat) ({ cls := "RunKeeperModel", name := "entry", desc := "(IIII)I" } : Jvm.MethodName) : Cond) ∈ wd_all := wd_m 903 (by decide +kernel) (by decide +kernel)
theorem wi_904 : (Jvm.Cond.instanceMethod ({ cls := "RunKeeperModel", name := "entry", desc := "(IIII)I" } : Jvm.MethodName) : Cond) ∈ wd_all := wd_m 904 (by decide +kernel) (by decide +kernel)
theorem wi_905 : (Jvm.Cond.selects "RunKeeperModel" ({ cls := "RunKeeperModel", name := "entry", desc := "(IIII)I" } : Jvm.MethodName) ({ cls := "RunKeeperModel", name := "entry", desc := "(IIII)I" } : Jvm.MethodName) : Cond) ∈ wd_all := wd_m 905 (by decide +kernel) (by decide +kernel)
theorem wi_906 : (Jvm.Cond.code ({ cls := "RunKeeperModel", name := "entry", desc := "(IIII)I" } : Jvm.MethodName) prog_8_method_32_code (9 : Nat) (Option.some Jvm.ClassFile.FieldType.int) : Cond) ∈ wd_all := wd_m 906 (by decide +kernel) (by decide +kernel)
theorem wi_907 : (Jvm.Cond.methodLink "RunKeeperModel" (151 : Nat) ({ cls := "RunKeeperModel", name := "comesBefore", desc := "(II)Z" } : Jvm.MethodName) : Cond) ∈ wd_all := wd_m 907 (by decide +kernel) (by decide +kernel)
theorem wi_909 : (Jvm.Cond.instanceMethod ({ cls := "RunKeeperModel", name := "comesBefore", desc := "(II)Z" } : Jvm.MethodName) : Cond) ∈ wd_all := wd_m 909 (by decide +kernel) (by decide +kernel)
theorem wi_910 : (Jvm.Cond.code ({ cls := "RunKeeperModel", name := "comesBefore", desc := "(II)Z" } : Jvm.MethodName) prog_8_method_33_code (3 : Nat) (Option.some Jvm.ClassFile.FieldType.boolean) : Cond) ∈ wd_all := wd_m 910 (by decide +kernel) (by decide +kernel)
theorem wi_911 : (Jvm.Cond.methodLink "RunKeeperLaw" (121 : Nat) ({ cls := "RunKeeperModel", name := "count", desc := "(II)I" } : Jvm.MethodName) : Cond) ∈ wd_all := wd_m 911 (by decide +kernel) (by decide +kernel)
theorem wi_912 : (Jvm.Cond.instanceMethod ({ cls := "RunKeeperModel", name := "count", desc := "(II)I" } : Jvm.MethodName) : Cond) ∈ wd_all := wd_m 912 (by decide +kernel) (by decide +kernel)
theorem wi_913 : (Jvm.Cond.selects "RunKeeperModel" ({ cls := "RunKeeperModel", name := "count", desc := "(II)I" } : Jvm.MethodName) ({ cls := "RunKeeperModel", name := "count", desc := "(II)I" } : Jvm.MethodName) : Cond) ∈ wd_all := wd_m 913 (by decide +kernel) (by decide +kernel)
theorem wi_914 : (Jvm.Cond.code ({ cls := "RunKeeperModel", name := "count", desc := "(II)I" } : Jvm.MethodName) prog_8_method_34_code (5 : Nat) (Option.some Jvm.ClassFile.FieldType.int) : Cond) ∈ wd_all := wd_m 914 (by decide +kernel) (by decide +kernel)
theorem wi_915 : (Jvm.Cond.constantLong "RunKeeperLaw" (62 : Nat) (4294967295 : Int64) : Cond) ∈ wd_all := wd_m 915 (by decide +kernel) (by decide +kernel)
theorem wi_916 : (Jvm.Cond.sameMethod "java/lang/Throwable" "java/lang/Throwable" "fillInStackTrace" "(I)Ljava/lang/Throwable;" : Cond) ∈ wd_all := wd_m 916 (by decide +kernel) (by decide +kernel)
theorem wi_918 : (Jvm.Cond.sameMethod "[Ljava/lang/Object;" "java/lang/Object" "getClass" "()Ljava/lang/Class;" : Cond) ∈ wd_all := wd_m 918 (by decide +kernel) (by decide +kernel)
theorem wi_919 : (Jvm.Cond.selects "[Ljava/lang/Object;" ({ cls := "java/lang/Object", name := "getClass", desc := "()Ljava/lang/Class;" } : Jvm.MethodName) ({ cls := "java/lang/Object", name := "getClass", desc := "()Ljava/lang/Class;" } : Jvm.MethodName) : Cond) ∈ wd_all := wd_m 919 (by decide +kernel) (by decide +kernel)
end
section
/-! decode rows (printed by gen/mk_names.py) -/
theorem de_R_init_0 : decode mb_R_init 0 = .ok (.aload_n 0, 1) := by decide +kernel
theorem de_R_init_1 : decode mb_R_init 1 = .ok (.invokespecial 1, 3) := by decide +kernel
theorem de_R_init_4 : decode mb_R_init 4 = .ok (.aload_n 0, 1) := by decide +kernel
theorem de_R_init_5 : decode mb_R_init 5 = .ok (.iconst 0, 1) := by decide +kernel
theorem de_R_init_6 : decode mb_R_init 6 = .ok (.putfield 7, 3) := by decide +kernel
theorem de_R_init_9 : decode mb_R_init 9 = .ok (.aload_n 0, 1) := by decide +kernel
theorem de_R_init_10 : decode mb_R_init 10 = .ok (.iload_n 1, 1) := by decide +kernel
theorem de_R_init_11 : decode mb_R_init 11 = .ok (.anewarray 13, 3) := by decide +kernel
theorem de_R_init_14 : decode mb_R_init 14 = .ok (.putfield 15, 3) := by decide +kernel
theorem de_R_init_17 : decode mb_R_init 17 = .ok (.return_, 1) := by decide +kernel
theorem de_S_init_0 : decode mb_S_init 0 = .ok (.aload_n 0, 1) := by decide +kernel
theorem de_S_init_1 : decode mb_S_init 1 = .ok (.invokespecial 3, 3) := by decide +kernel
theorem de_S_init_4 : decode mb_S_init 4 = .ok (.aload_n 0, 1) := by decide +kernel
theorem de_S_init_5 : decode mb_S_init 5 = .ok (.bipush 6, 2) := by decide +kernel
theorem de_S_init_7 : decode mb_S_init 7 = .ok (.newarray .int, 2) := by decide +kernel
theorem de_S_init_9 : decode mb_S_init 9 = .ok (.putfield 9, 3) := by decide +kernel
theorem de_S_init_12 : decode mb_S_init 12 = .ok (.aload_n 0, 1) := by decide +kernel
theorem de_S_init_13 : decode mb_S_init 13 = .ok (.bipush 6, 2) := by decide +kernel
theorem de_S_init_15 : decode mb_S_init 15 = .ok (.newarray .boolean, 2) := by decide +kernel
theorem de_S_init_17 : decode mb_S_init 17 = .ok (.putfield 15, 3) := by decide +kernel
theorem de_S_init_20 : decode mb_S_init 20 = .ok (.return_, 1) := by decide +kernel
theorem de_V_init_0 : decode mb_V_init 0 = .ok (.aload_n 0, 1) := by decide +kernel
theorem de_V_init_1 : decode mb_V_init 1 = .ok (.invokespecial 1, 3) := by decide +kernel
theorem de_V_init_4 : decode mb_V_init 4 = .ok (.aload_n 0, 1) := by decide +kernel
theorem de_V_init_5 : decode mb_V_init 5 = .ok (.new 7, 3) := by decide +kernel
theorem de_V_init_8 : decode mb_V_init 8 = .ok (.dup, 1) := by decide +kernel
theorem de_V_init_9 : decode mb_V_init 9 = .ok (.invokespecial 9, 3) := by decide +kernel
theorem de_V_init_12 : decode mb_V_init 12 = .ok (.putfield 10, 3) := by decide +kernel
theorem de_V_init_15 : decode mb_V_init 15 = .ok (.aload_n 0, 1) := by decide +kernel
theorem de_V_init_16 : decode mb_V_init 16 = .ok (.iconst 0, 1) := by decide +kernel
theorem de_V_init_17 : decode mb_V_init 17 = .ok (.putfield 16, 3) := by decide +kernel
theorem de_V_init_20 : decode mb_V_init 20 = .ok (.return_, 1) := by decide +kernel
theorem de_R_size_0 : decode mb_R_size 0 = .ok (.aload_n 0, 1) := by decide +kernel
theorem de_R_size_1 : decode mb_R_size 1 = .ok (.getfield 7, 3) := by decide +kernel
theorem de_R_size_4 : decode mb_R_size 4 = .ok (.ireturn, 1) := by decide +kernel
theorem de_R_sortAsRun_0 : decode mb_R_sortAsRun 0 = .ok (.iconst 1, 1) := by decide +kernel
theorem de_R_sortAsRun_1 : decode mb_R_sortAsRun 1 = .ok (.istore_n 1, 1) := by decide +kernel
theorem de_R_sortAsRun_2 : decode mb_R_sortAsRun 2 = .ok (.iload_n 1, 1) := by decide +kernel
theorem de_R_sortAsRun_3 : decode mb_R_sortAsRun 3 = .ok (.aload_n 0, 1) := by decide +kernel
theorem de_R_sortAsRun_4 : decode mb_R_sortAsRun 4 = .ok (.getfield 7, 3) := by decide +kernel
theorem de_R_sortAsRun_7 : decode mb_R_sortAsRun 7 = .ok (.if_icmp .ge 64, 3) := by decide +kernel
theorem de_R_sortAsRun_10 : decode mb_R_sortAsRun 10 = .ok (.aload_n 0, 1) := by decide +kernel
theorem de_R_sortAsRun_11 : decode mb_R_sortAsRun 11 = .ok (.getfield 15, 3) := by decide +kernel
theorem de_R_sortAsRun_14 : decode mb_R_sortAsRun 14 = .ok (.iload_n 1, 1) := by decide +kernel
theorem de_R_sortAsRun_15 : decode mb_R_sortAsRun 15 = .ok (.aaload, 1) := by decide +kernel
theorem de_R_sortAsRun_16 : decode mb_R_sortAsRun 16 = .ok (.astore_n 2, 1) := by decide +kernel
theorem de_R_sortAsRun_17 : decode mb_R_sortAsRun 17 = .ok (.iload_n 1, 1) := by decide +kernel
theorem de_R_sortAsRun_18 : decode mb_R_sortAsRun 18 = .ok (.istore_n 3, 1) := by decide +kernel
theorem de_R_sortAsRun_19 : decode mb_R_sortAsRun 19 = .ok (.iload_n 3, 1) := by decide +kernel
theorem de_R_sortAsRun_20 : decode mb_R_sortAsRun 20 = .ok (.ifCond .le 38, 3) := by decide +kernel
theorem de_R_sortAsRun_23 : decode mb_R_sortAsRun 23 = .ok (.aload_n 2, 1) := by decide +kernel
theorem de_R_sortAsRun_24 : decode mb_R_sortAsRun 24 = .ok (.aload_n 0, 1) := by decide +kernel
theorem de_R_sortAsRun_25 : decode mb_R_sortAsRun 25 = .ok (.getfield 15, 3) := by decide +kernel
theorem de_R_sortAsRun_28 : decode mb_R_sortAsRun 28 = .ok (.iload_n 3, 1) := by decide +kernel
theorem de_R_sortAsRun_29 : decode mb_R_sortAsRun 29 = .ok (.iconst 1, 1) := by decide +kernel
theorem de_R_sortAsRun_30 : decode mb_R_sortAsRun 30 = .ok (.isub, 1) := by decide +kernel
theorem de_R_sortAsRun_31 : decode mb_R_sortAsRun 31 = .ok (.aaload, 1) := by decide +kernel
theorem de_R_sortAsRun_32 : decode mb_R_sortAsRun 32 = .ok (.invokevirtual 27, 3) := by decide +kernel
theorem de_R_sortAsRun_35 : decode mb_R_sortAsRun 35 = .ok (.ifCond .eq 23, 3) := by decide +kernel
theorem de_R_sortAsRun_38 : decode mb_R_sortAsRun 38 = .ok (.aload_n 0, 1) := by decide +kernel
theorem de_R_sortAsRun_39 : decode mb_R_sortAsRun 39 = .ok (.getfield 15, 3) := by decide +kernel
theorem de_R_sortAsRun_42 : decode mb_R_sortAsRun 42 = .ok (.iload_n 3, 1) := by decide +kernel
theorem de_R_sortAsRun_43 : decode mb_R_sortAsRun 43 = .ok (.aload_n 0, 1) := by decide +kernel
theorem de_R_sortAsRun_44 : decode mb_R_sortAsRun 44 = .ok (.getfield 15, 3) := by decide +kernel
theorem de_R_sortAsRun_47 : decode mb_R_sortAsRun 47 = .ok (.iload_n 3, 1) := by decide +kernel
theorem de_R_sortAsRun_48 : decode mb_R_sortAsRun 48 = .ok (.iconst 1, 1) := by decide +kernel
theorem de_R_sortAsRun_49 : decode mb_R_sortAsRun 49 = .ok (.isub, 1) := by decide +kernel
theorem de_R_sortAsRun_50 : decode mb_R_sortAsRun 50 = .ok (.aaload, 1) := by decide +kernel
theorem de_R_sortAsRun_51 : decode mb_R_sortAsRun 51 = .ok (.aastore, 1) := by decide +kernel
theorem de_R_sortAsRun_52 : decode mb_R_sortAsRun 52 = .ok (.iinc 3 (-1), 3) := by decide +kernel
theorem de_R_sortAsRun_55 : decode mb_R_sortAsRun 55 = .ok (.goto (-36), 3) := by decide +kernel
theorem de_R_sortAsRun_58 : decode mb_R_sortAsRun 58 = .ok (.aload_n 0, 1) := by decide +kernel
theorem de_R_sortAsRun_59 : decode mb_R_sortAsRun 59 = .ok (.getfield 15, 3) := by decide +kernel
theorem de_R_sortAsRun_62 : decode mb_R_sortAsRun 62 = .ok (.iload_n 3, 1) := by decide +kernel
theorem de_R_sortAsRun_63 : decode mb_R_sortAsRun 63 = .ok (.aload_n 2, 1) := by decide +kernel
theorem de_R_sortAsRun_64 : decode mb_R_sortAsRun 64 = .ok (.aastore, 1) := by decide +kernel
theorem de_R_sortAsRun_65 : decode mb_R_sortAsRun 65 = .ok (.iinc 1 1, 3) := by decide +kernel
theorem de_R_sortAsRun_68 : decode mb_R_sortAsRun 68 = .ok (.goto (-66), 3) := by decide +kernel
theorem de_R_sortAsRun_71 : decode mb_R_sortAsRun 71 = .ok (.return_, 1) := by decide +kernel
theorem de_E_standsBefore_0 : decode mb_E_standsBefore 0 = .ok (.aload_n 1, 1) := by decide +kernel
theorem de_E_standsBefore_1 : decode mb_E_standsBefore 1 = .ok (.ifnull 43, 3) := by decide +kernel
theorem de_E_standsBefore_4 : decode mb_E_standsBefore 4 = .ok (.aload_n 0, 1) := by decide +kernel
theorem de_E_standsBefore_5 : decode mb_E_standsBefore 5 = .ok (.getfield 7, 3) := by decide +kernel
theorem de_E_standsBefore_8 : decode mb_E_standsBefore 8 = .ok (.aload_n 1, 1) := by decide +kernel
theorem de_E_standsBefore_9 : decode mb_E_standsBefore 9 = .ok (.getfield 7, 3) := by decide +kernel
theorem de_E_standsBefore_12 : decode mb_E_standsBefore 12 = .ok (.if_icmp .eq 17, 3) := by decide +kernel
theorem de_E_standsBefore_15 : decode mb_E_standsBefore 15 = .ok (.aload_n 0, 1) := by decide +kernel
theorem de_E_standsBefore_16 : decode mb_E_standsBefore 16 = .ok (.getfield 7, 3) := by decide +kernel
theorem de_E_standsBefore_19 : decode mb_E_standsBefore 19 = .ok (.aload_n 1, 1) := by decide +kernel
theorem de_E_standsBefore_20 : decode mb_E_standsBefore 20 = .ok (.getfield 7, 3) := by decide +kernel
theorem de_E_standsBefore_23 : decode mb_E_standsBefore 23 = .ok (.if_icmp .ge 21, 3) := by decide +kernel
theorem de_E_standsBefore_26 : decode mb_E_standsBefore 26 = .ok (.goto 14, 3) := by decide +kernel
theorem de_E_standsBefore_29 : decode mb_E_standsBefore 29 = .ok (.aload_n 0, 1) := by decide +kernel
theorem de_E_standsBefore_30 : decode mb_E_standsBefore 30 = .ok (.getfield 13, 3) := by decide +kernel
theorem de_E_standsBefore_33 : decode mb_E_standsBefore 33 = .ok (.aload_n 1, 1) := by decide +kernel
theorem de_E_standsBefore_34 : decode mb_E_standsBefore 34 = .ok (.getfield 13, 3) := by decide +kernel
theorem de_E_standsBefore_37 : decode mb_E_standsBefore 37 = .ok (.if_icmp .le 7, 3) := by decide +kernel
theorem de_E_standsBefore_40 : decode mb_E_standsBefore 40 = .ok (.iconst 1, 1) := by decide +kernel
theorem de_E_standsBefore_41 : decode mb_E_standsBefore 41 = .ok (.goto 4, 3) := by decide +kernel
theorem de_E_standsBefore_44 : decode mb_E_standsBefore 44 = .ok (.iconst 0, 1) := by decide +kernel
theorem de_E_standsBefore_45 : decode mb_E_standsBefore 45 = .ok (.ireturn, 1) := by decide +kernel
theorem de_U_init_0 : decode mb_U_init 0 = .ok (.aload_n 0, 1) := by decide +kernel
theorem de_U_init_1 : decode mb_U_init 1 = .ok (.invokespecial 1, 3) := by decide +kernel
theorem de_U_init_4 : decode mb_U_init 4 = .ok (.aload_n 0, 1) := by decide +kernel
theorem de_U_init_5 : decode mb_U_init 5 = .ok (.new 7, 3) := by decide +kernel
theorem de_U_init_8 : decode mb_U_init 8 = .ok (.dup, 1) := by decide +kernel
theorem de_U_init_9 : decode mb_U_init 9 = .ok (.aload_n 1, 1) := by decide +kernel
theorem de_U_init_10 : decode mb_U_init 10 = .ok (.invokevirtual 9, 3) := by decide +kernel
theorem de_U_init_13 : decode mb_U_init 13 = .ok (.invokespecial 13, 3) := by decide +kernel
theorem de_U_init_16 : decode mb_U_init 16 = .ok (.putfield 16, 3) := by decide +kernel
theorem de_U_init_19 : decode mb_U_init 19 = .ok (.aload_n 0, 1) := by decide +kernel
theorem de_U_init_20 : decode mb_U_init 20 = .ok (.getfield 16, 3) := by decide +kernel
theorem de_U_init_23 : decode mb_U_init 23 = .ok (.aload_n 1, 1) := by decide +kernel
theorem de_U_init_24 : decode mb_U_init 24 = .ok (.invokevirtual 22, 3) := by decide +kernel
theorem de_U_init_27 : decode mb_U_init 27 = .ok (.aload_n 0, 1) := by decide +kernel
theorem de_U_init_28 : decode mb_U_init 28 = .ok (.aload_n 1, 1) := by decide +kernel
theorem de_U_init_29 : decode mb_U_init 29 = .ok (.invokevirtual 9, 3) := by decide +kernel
theorem de_U_init_32 : decode mb_U_init 32 = .ok (.bipush 8, 2) := by decide +kernel
theorem de_U_init_34 : decode mb_U_init 34 = .ok (.iadd, 1) := by decide +kernel
theorem de_U_init_35 : decode mb_U_init 35 = .ok (.iconst 1, 1) := by decide +kernel
theorem de_U_init_36 : decode mb_U_init 36 = .ok (.isub, 1) := by decide +kernel
theorem de_U_init_37 : decode mb_U_init 37 = .ok (.bipush 8, 2) := by decide +kernel
theorem de_U_init_39 : decode mb_U_init 39 = .ok (.idiv, 1) := by decide +kernel
theorem de_U_init_40 : decode mb_U_init 40 = .ok (.newarray .long, 2) := by decide +kernel
theorem de_U_init_42 : decode mb_U_init 42 = .ok (.putfield 26, 3) := by decide +kernel
theorem de_U_init_45 : decode mb_U_init 45 = .ok (.iconst 0, 1) := by decide +kernel
theorem de_U_init_46 : decode mb_U_init 46 = .ok (.istore_n 2, 1) := by decide +kernel
theorem de_U_init_47 : decode mb_U_init 47 = .ok (.iload_n 2, 1) := by decide +kernel
theorem de_U_init_48 : decode mb_U_init 48 = .ok (.aload_n 1, 1) := by decide +kernel
theorem de_U_init_49 : decode mb_U_init 49 = .ok (.invokevirtual 9, 3) := by decide +kernel
theorem de_U_init_52 : decode mb_U_init 52 = .ok (.if_icmp .ge 21, 3) := by decide +kernel
theorem de_U_init_55 : decode mb_U_init 55 = .ok (.aload_n 0, 1) := by decide +kernel
theorem de_U_init_56 : decode mb_U_init 56 = .ok (.getfield 26, 3) := by decide +kernel
theorem de_U_init_59 : decode mb_U_init 59 = .ok (.aload_n 1, 1) := by decide +kernel
theorem de_U_init_60 : decode mb_U_init 60 = .ok (.iload_n 2, 1) := by decide +kernel
theorem de_U_init_61 : decode mb_U_init 61 = .ok (.invokevirtual 30, 3) := by decide +kernel
theorem de_U_init_64 : decode mb_U_init 64 = .ok (.invokestatic 34, 3) := by decide +kernel
theorem de_U_init_67 : decode mb_U_init 67 = .ok (.iinc 2 1, 3) := by decide +kernel
theorem de_U_init_70 : decode mb_U_init 70 = .ok (.goto (-23), 3) := by decide +kernel
theorem de_U_init_73 : decode mb_U_init 73 = .ok (.return_, 1) := by decide +kernel
theorem de_R_addAll_0 : decode mb_R_addAll 0 = .ok (.iconst 0, 1) := by decide +kernel
theorem de_R_addAll_1 : decode mb_R_addAll 1 = .ok (.istore_n 2, 1) := by decide +kernel
theorem de_R_addAll_2 : decode mb_R_addAll 2 = .ok (.iload_n 2, 1) := by decide +kernel
theorem de_R_addAll_3 : decode mb_R_addAll 3 = .ok (.aload_n 1, 1) := by decide +kernel
theorem de_R_addAll_4 : decode mb_R_addAll 4 = .ok (.getfield 7, 3) := by decide +kernel
theorem de_R_addAll_7 : decode mb_R_addAll 7 = .ok (.if_icmp .ge 19, 3) := by decide +kernel
theorem de_R_addAll_10 : decode mb_R_addAll 10 = .ok (.aload_n 0, 1) := by decide +kernel
theorem de_R_addAll_11 : decode mb_R_addAll 11 = .ok (.aload_n 1, 1) := by decide +kernel
theorem de_R_addAll_12 : decode mb_R_addAll 12 = .ok (.getfield 15, 3) := by decide +kernel
theorem de_R_addAll_15 : decode mb_R_addAll 15 = .ok (.iload_n 2, 1) := by decide +kernel
theorem de_R_addAll_16 : decode mb_R_addAll 16 = .ok (.aaload, 1) := by decide +kernel
theorem de_R_addAll_17 : decode mb_R_addAll 17 = .ok (.invokevirtual 19, 3) := by decide +kernel
theorem de_R_addAll_20 : decode mb_R_addAll 20 = .ok (.iinc 2 1, 3) := by decide +kernel
theorem de_R_addAll_23 : decode mb_R_addAll 23 = .ok (.goto (-21), 3) := by decide +kernel
theorem de_R_addAll_26 : decode mb_R_addAll 26 = .ok (.return_, 1) := by decide +kernel
theorem de_R_add_0 : decode mb_R_add 0 = .ok (.aload_n 1, 1) := by decide +kernel
theorem de_R_add_1 : decode mb_R_add 1 = .ok (.ifnull 35, 3) := by decide +kernel
theorem de_R_add_4 : decode mb_R_add 4 = .ok (.aload_n 0, 1) := by decide +kernel
theorem de_R_add_5 : decode mb_R_add 5 = .ok (.getfield 7, 3) := by decide +kernel
theorem de_R_add_8 : decode mb_R_add 8 = .ok (.aload_n 0, 1) := by decide +kernel
theorem de_R_add_9 : decode mb_R_add 9 = .ok (.getfield 15, 3) := by decide +kernel
theorem de_R_add_12 : decode mb_R_add 12 = .ok (.arraylength, 1) := by decide +kernel
theorem de_R_add_13 : decode mb_R_add 13 = .ok (.if_icmp .ge 23, 3) := by decide +kernel
theorem de_R_add_16 : decode mb_R_add 16 = .ok (.aload_n 0, 1) := by decide +kernel
theorem de_R_add_17 : decode mb_R_add 17 = .ok (.getfield 15, 3) := by decide +kernel
theorem de_R_add_20 : decode mb_R_add 20 = .ok (.aload_n 0, 1) := by decide +kernel
theorem de_R_add_21 : decode mb_R_add 21 = .ok (.getfield 7, 3) := by decide +kernel
theorem de_R_add_24 : decode mb_R_add 24 = .ok (.aload_n 1, 1) := by decide +kernel
theorem de_R_add_25 : decode mb_R_add 25 = .ok (.aastore, 1) := by decide +kernel
theorem de_R_add_26 : decode mb_R_add 26 = .ok (.aload_n 0, 1) := by decide +kernel
theorem de_R_add_27 : decode mb_R_add 27 = .ok (.dup, 1) := by decide +kernel
theorem de_R_add_28 : decode mb_R_add 28 = .ok (.getfield 7, 3) := by decide +kernel
theorem de_R_add_31 : decode mb_R_add 31 = .ok (.iconst 1, 1) := by decide +kernel
theorem de_R_add_32 : decode mb_R_add 32 = .ok (.iadd, 1) := by decide +kernel
theorem de_R_add_33 : decode mb_R_add 33 = .ok (.putfield 7, 3) := by decide +kernel
theorem de_R_add_36 : decode mb_R_add 36 = .ok (.return_, 1) := by decide +kernel
theorem de_R_at_0 : decode mb_R_at 0 = .ok (.iload_n 1, 1) := by decide +kernel
theorem de_R_at_1 : decode mb_R_at 1 = .ok (.ifCond .lt 20, 3) := by decide +kernel
theorem de_R_at_4 : decode mb_R_at 4 = .ok (.iload_n 1, 1) := by decide +kernel
theorem de_R_at_5 : decode mb_R_at 5 = .ok (.aload_n 0, 1) := by decide +kernel
theorem de_R_at_6 : decode mb_R_at 6 = .ok (.getfield 7, 3) := by decide +kernel
theorem de_R_at_9 : decode mb_R_at 9 = .ok (.if_icmp .ge 12, 3) := by decide +kernel
theorem de_R_at_12 : decode mb_R_at 12 = .ok (.aload_n 0, 1) := by decide +kernel
theorem de_R_at_13 : decode mb_R_at 13 = .ok (.getfield 15, 3) := by decide +kernel
theorem de_R_at_16 : decode mb_R_at 16 = .ok (.iload_n 1, 1) := by decide +kernel
theorem de_R_at_17 : decode mb_R_at 17 = .ok (.aaload, 1) := by decide +kernel
theorem de_R_at_18 : decode mb_R_at 18 = .ok (.goto 4, 3) := by decide +kernel
theorem de_R_at_21 : decode mb_R_at 21 = .ok (.aconst_null, 1) := by decide +kernel
theorem de_R_at_22 : decode mb_R_at 22 = .ok (.areturn, 1) := by decide +kernel
theorem de_U_setBits_0 : decode mb_U_setBits 0 = .ok (.iconst 0, 1) := by decide +kernel
theorem de_U_setBits_1 : decode mb_U_setBits 1 = .ok (.istore_n 2, 1) := by decide +kernel
theorem de_U_setBits_2 : decode mb_U_setBits 2 = .ok (.aload_n 1, 1) := by decide +kernel
theorem de_U_setBits_3 : decode mb_U_setBits 3 = .ok (.ifnull 46, 3) := by decide +kernel
theorem de_U_setBits_6 : decode mb_U_setBits 6 = .ok (.iload_n 2, 1) := by decide +kernel
theorem de_U_setBits_7 : decode mb_U_setBits 7 = .ok (.getstatic 38, 3) := by decide +kernel
theorem de_U_setBits_10 : decode mb_U_setBits 10 = .ok (.arraylength, 1) := by decide +kernel
theorem de_U_setBits_11 : decode mb_U_setBits 11 = .ok (.if_icmp .ge 38, 3) := by decide +kernel
theorem de_U_setBits_14 : decode mb_U_setBits 14 = .ok (.aload_n 1, 1) := by decide +kernel
theorem de_U_setBits_15 : decode mb_U_setBits 15 = .ok (.getfield 42, 3) := by decide +kernel
theorem de_U_setBits_18 : decode mb_U_setBits 18 = .ok (.getstatic 38, 3) := by decide +kernel
theorem de_U_setBits_21 : decode mb_U_setBits 21 = .ok (.iload_n 2, 1) := by decide +kernel
theorem de_U_setBits_22 : decode mb_U_setBits 22 = .ok (.iaload, 1) := by decide +kernel
theorem de_U_setBits_23 : decode mb_U_setBits 23 = .ok (.aload_n 0, 1) := by decide +kernel
theorem de_U_setBits_24 : decode mb_U_setBits 24 = .ok (.invokestatic 48, 3) := by decide +kernel
theorem de_U_setBits_27 : decode mb_U_setBits 27 = .ok (.istore_n 3, 1) := by decide +kernel
theorem de_U_setBits_28 : decode mb_U_setBits 28 = .ok (.aload_n 0, 1) := by decide +kernel
theorem de_U_setBits_29 : decode mb_U_setBits 29 = .ok (.iload_n 3, 1) := by decide +kernel
theorem de_U_setBits_30 : decode mb_U_setBits 30 = .ok (.bipush 64, 2) := by decide +kernel
theorem de_U_setBits_32 : decode mb_U_setBits 32 = .ok (.idiv, 1) := by decide +kernel
theorem de_U_setBits_33 : decode mb_U_setBits 33 = .ok (.dup2, 1) := by decide +kernel
theorem de_U_setBits_34 : decode mb_U_setBits 34 = .ok (.laload, 1) := by decide +kernel
theorem de_U_setBits_35 : decode mb_U_setBits 35 = .ok (.lconst 1, 1) := by decide +kernel
theorem de_U_setBits_36 : decode mb_U_setBits 36 = .ok (.iload_n 3, 1) := by decide +kernel
theorem de_U_setBits_37 : decode mb_U_setBits 37 = .ok (.bipush 64, 2) := by decide +kernel
theorem de_U_setBits_39 : decode mb_U_setBits 39 = .ok (.irem, 1) := by decide +kernel
theorem de_U_setBits_40 : decode mb_U_setBits 40 = .ok (.lshl, 1) := by decide +kernel
theorem de_U_setBits_41 : decode mb_U_setBits 41 = .ok (.lor, 1) := by decide +kernel
theorem de_U_setBits_42 : decode mb_U_setBits 42 = .ok (.lastore, 1) := by decide +kernel
theorem de_U_setBits_43 : decode mb_U_setBits 43 = .ok (.iinc 2 1, 3) := by decide +kernel
theorem de_U_setBits_46 : decode mb_U_setBits 46 = .ok (.goto (-44), 3) := by decide +kernel
theorem de_U_setBits_49 : decode mb_U_setBits 49 = .ok (.return_, 1) := by decide +kernel
theorem de_U_bitOf_0 : decode mb_U_bitOf 0 = .ok (.aload_n 2, 1) := by decide +kernel
theorem de_U_bitOf_1 : decode mb_U_bitOf 1 = .ok (.arraylength, 1) := by decide +kernel
theorem de_U_bitOf_2 : decode mb_U_bitOf 2 = .ok (.bipush 64, 2) := by decide +kernel
theorem de_U_bitOf_4 : decode mb_U_bitOf 4 = .ok (.imul, 1) := by decide +kernel
theorem de_U_bitOf_5 : decode mb_U_bitOf 5 = .ok (.istore_n 3, 1) := by decide +kernel
theorem de_U_bitOf_6 : decode mb_U_bitOf 6 = .ok (.iload_n 3, 1) := by decide +kernel
theorem de_U_bitOf_7 : decode mb_U_bitOf 7 = .ok (.ifCond .ne 7, 3) := by decide +kernel
theorem de_U_bitOf_10 : decode mb_U_bitOf 10 = .ok (.iconst 0, 1) := by decide +kernel
theorem de_U_bitOf_11 : decode mb_U_bitOf 11 = .ok (.goto 11, 3) := by decide +kernel
theorem de_U_bitOf_14 : decode mb_U_bitOf 14 = .ok (.iload_n 0, 1) := by decide +kernel
theorem de_U_bitOf_15 : decode mb_U_bitOf 15 = .ok (.iload_n 1, 1) := by decide +kernel
theorem de_U_bitOf_16 : decode mb_U_bitOf 16 = .ok (.imul, 1) := by decide +kernel
theorem de_U_bitOf_17 : decode mb_U_bitOf 17 = .ok (.bipush 12, 2) := by decide +kernel
theorem de_U_bitOf_19 : decode mb_U_bitOf 19 = .ok (.iushr, 1) := by decide +kernel
theorem de_U_bitOf_20 : decode mb_U_bitOf 20 = .ok (.iload_n 3, 1) := by decide +kernel
theorem de_U_bitOf_21 : decode mb_U_bitOf 21 = .ok (.irem, 1) := by decide +kernel
theorem de_U_bitOf_22 : decode mb_U_bitOf 22 = .ok (.ireturn, 1) := by decide +kernel
theorem de_V_add_0 : decode mb_V_add 0 = .ok (.aload_n 0, 1) := by decide +kernel
theorem de_V_add_1 : decode mb_V_add 1 = .ok (.getfield 10, 3) := by decide +kernel
theorem de_V_add_4 : decode mb_V_add 4 = .ok (.aload_n 1, 1) := by decide +kernel
theorem de_V_add_5 : decode mb_V_add 5 = .ok (.invokevirtual 30, 3) := by decide +kernel
theorem de_V_add_8 : decode mb_V_add 8 = .ok (.pop, 1) := by decide +kernel
theorem de_V_add_9 : decode mb_V_add 9 = .ok (.aload_n 0, 1) := by decide +kernel
theorem de_V_add_10 : decode mb_V_add 10 = .ok (.dup, 1) := by decide +kernel
theorem de_V_add_11 : decode mb_V_add 11 = .ok (.getfield 16, 3) := by decide +kernel
theorem de_V_add_14 : decode mb_V_add 14 = .ok (.aload_n 1, 1) := by decide +kernel
theorem de_V_add_15 : decode mb_V_add 15 = .ok (.invokevirtual 34, 3) := by decide +kernel
theorem de_V_add_18 : decode mb_V_add 18 = .ok (.invokevirtual 38, 3) := by decide +kernel
theorem de_V_add_21 : decode mb_V_add 21 = .ok (.iadd, 1) := by decide +kernel
theorem de_V_add_22 : decode mb_V_add 22 = .ok (.putfield 16, 3) := by decide +kernel
theorem de_V_add_25 : decode mb_V_add 25 = .ok (.return_, 1) := by decide +kernel
theorem de_U_entries_0 : decode mb_U_entries 0 = .ok (.aload_n 0, 1) := by decide +kernel
theorem de_U_entries_1 : decode mb_U_entries 1 = .ok (.getfield 16, 3) := by decide +kernel
theorem de_U_entries_4 : decode mb_U_entries 4 = .ok (.areturn, 1) := by decide +kernel
theorem de_R_cutTo_0 : decode mb_R_cutTo 0 = .ok (.iload_n 1, 1) := by decide +kernel
theorem de_R_cutTo_1 : decode mb_R_cutTo 1 = .ok (.ifCond .lt 16, 3) := by decide +kernel
theorem de_R_cutTo_4 : decode mb_R_cutTo 4 = .ok (.iload_n 1, 1) := by decide +kernel
theorem de_R_cutTo_5 : decode mb_R_cutTo 5 = .ok (.aload_n 0, 1) := by decide +kernel
theorem de_R_cutTo_6 : decode mb_R_cutTo 6 = .ok (.getfield 7, 3) := by decide +kernel
theorem de_R_cutTo_9 : decode mb_R_cutTo 9 = .ok (.if_icmp .ge 8, 3) := by decide +kernel
theorem de_R_cutTo_12 : decode mb_R_cutTo 12 = .ok (.aload_n 0, 1) := by decide +kernel
theorem de_R_cutTo_13 : decode mb_R_cutTo 13 = .ok (.iload_n 1, 1) := by decide +kernel
theorem de_R_cutTo_14 : decode mb_R_cutTo 14 = .ok (.putfield 7, 3) := by decide +kernel
theorem de_R_cutTo_17 : decode mb_R_cutTo 17 = .ok (.return_, 1) := by decide +kernel
theorem de_S_forgetAll_0 : decode mb_S_forgetAll 0 = .ok (.iconst 0, 1) := by decide +kernel
theorem de_S_forgetAll_1 : decode mb_S_forgetAll 1 = .ok (.istore_n 1, 1) := by decide +kernel
theorem de_S_forgetAll_2 : decode mb_S_forgetAll 2 = .ok (.iload_n 1, 1) := by decide +kernel
theorem de_S_forgetAll_3 : decode mb_S_forgetAll 3 = .ok (.bipush 6, 2) := by decide +kernel
theorem de_S_forgetAll_5 : decode mb_S_forgetAll 5 = .ok (.if_icmp .ge 16, 3) := by decide +kernel
theorem de_S_forgetAll_8 : decode mb_S_forgetAll 8 = .ok (.aload_n 0, 1) := by decide +kernel
theorem de_S_forgetAll_9 : decode mb_S_forgetAll 9 = .ok (.getfield 15, 3) := by decide +kernel
theorem de_S_forgetAll_12 : decode mb_S_forgetAll 12 = .ok (.iload_n 1, 1) := by decide +kernel
theorem de_S_forgetAll_13 : decode mb_S_forgetAll 13 = .ok (.iconst 0, 1) := by decide +kernel
theorem de_S_forgetAll_14 : decode mb_S_forgetAll 14 = .ok (.bastore, 1) := by decide +kernel
theorem de_S_forgetAll_15 : decode mb_S_forgetAll 15 = .ok (.iinc 1 1, 3) := by decide +kernel
theorem de_S_forgetAll_18 : decode mb_S_forgetAll 18 = .ok (.goto (-16), 3) := by decide +kernel
theorem de_S_forgetAll_21 : decode mb_S_forgetAll 21 = .ok (.return_, 1) := by decide +kernel
theorem de_V_copyTo_0 : decode mb_V_copyTo 0 = .ok (.iconst 0, 1) := by decide +kernel
theorem de_V_copyTo_1 : decode mb_V_copyTo 1 = .ok (.istore_n 2, 1) := by decide +kernel
theorem de_V_copyTo_2 : decode mb_V_copyTo 2 = .ok (.iload_n 2, 1) := by decide +kernel
theorem de_V_copyTo_3 : decode mb_V_copyTo 3 = .ok (.aload_n 0, 1) := by decide +kernel
theorem de_V_copyTo_4 : decode mb_V_copyTo 4 = .ok (.getfield 10, 3) := by decide +kernel
theorem de_V_copyTo_7 : decode mb_V_copyTo 7 = .ok (.invokevirtual 20, 3) := by decide +kernel
theorem de_V_copyTo_10 : decode mb_V_copyTo 10 = .ok (.if_icmp .ge 27, 3) := by decide +kernel
theorem de_V_copyTo_13 : decode mb_V_copyTo 13 = .ok (.aload_n 1, 1) := by decide +kernel
theorem de_V_copyTo_14 : decode mb_V_copyTo 14 = .ok (.aload_n 0, 1) := by decide +kernel
theorem de_V_copyTo_15 : decode mb_V_copyTo 15 = .ok (.getfield 10, 3) := by decide +kernel
theorem de_V_copyTo_18 : decode mb_V_copyTo 18 = .ok (.iload_n 2, 1) := by decide +kernel
theorem de_V_copyTo_19 : decode mb_V_copyTo 19 = .ok (.invokevirtual 24, 3) := by decide +kernel
theorem de_V_copyTo_22 : decode mb_V_copyTo 22 = .ok (.checkcast 28, 3) := by decide +kernel
theorem de_V_copyTo_25 : decode mb_V_copyTo 25 = .ok (.invokevirtual 34, 3) := by decide +kernel
theorem de_V_copyTo_28 : decode mb_V_copyTo 28 = .ok (.invokevirtual 41, 3) := by decide +kernel
theorem de_V_copyTo_31 : decode mb_V_copyTo 31 = .ok (.iinc 2 1, 3) := by decide +kernel
theorem de_V_copyTo_34 : decode mb_V_copyTo 34 = .ok (.goto (-32), 3) := by decide +kernel
theorem de_V_copyTo_37 : decode mb_V_copyTo 37 = .ok (.return_, 1) := by decide +kernel
theorem de_R_greatestSequence_0 : decode mb_R_greatestSequence 0 = .ok (.iconst 0, 1) := by decide +kernel
theorem de_R_greatestSequence_1 : decode mb_R_greatestSequence 1 = .ok (.istore_n 1, 1) := by decide +kernel
theorem de_R_greatestSequence_2 : decode mb_R_greatestSequence 2 = .ok (.iconst 0, 1) := by decide +kernel
theorem de_R_greatestSequence_3 : decode mb_R_greatestSequence 3 = .ok (.istore_n 2, 1) := by decide +kernel
theorem de_R_greatestSequence_4 : decode mb_R_greatestSequence 4 = .ok (.iload_n 2, 1) := by decide +kernel
theorem de_R_greatestSequence_5 : decode mb_R_greatestSequence 5 = .ok (.aload_n 0, 1) := by decide +kernel
theorem de_R_greatestSequence_6 : decode mb_R_greatestSequence 6 = .ok (.getfield 7, 3) := by decide +kernel
theorem de_R_greatestSequence_9 : decode mb_R_greatestSequence 9 = .ok (.if_icmp .ge 23, 3) := by decide +kernel
theorem de_R_greatestSequence_12 : decode mb_R_greatestSequence 12 = .ok (.iload_n 1, 1) := by decide +kernel
theorem de_R_greatestSequence_13 : decode mb_R_greatestSequence 13 = .ok (.aload_n 0, 1) := by decide +kernel
theorem de_R_greatestSequence_14 : decode mb_R_greatestSequence 14 = .ok (.getfield 15, 3) := by decide +kernel
theorem de_R_greatestSequence_17 : decode mb_R_greatestSequence 17 = .ok (.iload_n 2, 1) := by decide +kernel
theorem de_R_greatestSequence_18 : decode mb_R_greatestSequence 18 = .ok (.aaload, 1) := by decide +kernel
theorem de_R_greatestSequence_19 : decode mb_R_greatestSequence 19 = .ok (.getfield 34, 3) := by decide +kernel
theorem de_R_greatestSequence_22 : decode mb_R_greatestSequence 22 = .ok (.invokestatic 37, 3) := by decide +kernel
theorem de_R_greatestSequence_25 : decode mb_R_greatestSequence 25 = .ok (.istore_n 1, 1) := by decide +kernel
theorem de_R_greatestSequence_26 : decode mb_R_greatestSequence 26 = .ok (.iinc 2 1, 3) := by decide +kernel
theorem de_R_greatestSequence_29 : decode mb_R_greatestSequence 29 = .ok (.goto (-25), 3) := by decide +kernel
theorem de_R_greatestSequence_32 : decode mb_R_greatestSequence 32 = .ok (.iload_n 1, 1) := by decide +kernel
theorem de_R_greatestSequence_33 : decode mb_R_greatestSequence 33 = .ok (.ireturn, 1) := by decide +kernel
theorem de_R_isFull_0 : decode mb_R_isFull 0 = .ok (.aload_n 0, 1) := by decide +kernel
theorem de_R_isFull_1 : decode mb_R_isFull 1 = .ok (.getfield 7, 3) := by decide +kernel
theorem de_R_isFull_4 : decode mb_R_isFull 4 = .ok (.aload_n 0, 1) := by decide +kernel
theorem de_R_isFull_5 : decode mb_R_isFull 5 = .ok (.getfield 15, 3) := by decide +kernel
theorem de_R_isFull_8 : decode mb_R_isFull 8 = .ok (.arraylength, 1) := by decide +kernel
theorem de_R_isFull_9 : decode mb_R_isFull 9 = .ok (.if_icmp .lt 7, 3) := by decide +kernel
theorem de_R_isFull_12 : decode mb_R_isFull 12 = .ok (.iconst 1, 1) := by decide +kernel
theorem de_R_isFull_13 : decode mb_R_isFull 13 = .ok (.goto 4, 3) := by decide +kernel
theorem de_R_isFull_16 : decode mb_R_isFull 16 = .ok (.iconst 0, 1) := by decide +kernel
theorem de_R_isFull_17 : decode mb_R_isFull 17 = .ok (.ireturn, 1) := by decide +kernel
theorem de_V_entryCount_0 : decode mb_V_entryCount 0 = .ok (.aload_n 0, 1) := by decide +kernel
theorem de_V_entryCount_1 : decode mb_V_entryCount 1 = .ok (.getfield 16, 3) := by decide +kernel
theorem de_V_entryCount_4 : decode mb_V_entryCount 4 = .ok (.ireturn, 1) := by decide +kernel
theorem de_E_init_0 : decode mb_E_init 0 = .ok (.aload_n 0, 1) := by decide +kernel
theorem de_E_init_1 : decode mb_E_init 1 = .ok (.invokespecial 1, 3) := by decide +kernel
theorem de_E_init_4 : decode mb_E_init 4 = .ok (.aload_n 0, 1) := by decide +kernel
theorem de_E_init_5 : decode mb_E_init 5 = .ok (.iload_n 1, 1) := by decide +kernel
theorem de_E_init_6 : decode mb_E_init 6 = .ok (.putfield 7, 3) := by decide +kernel
theorem de_E_init_9 : decode mb_E_init 9 = .ok (.aload_n 0, 1) := by decide +kernel
theorem de_E_init_10 : decode mb_E_init 10 = .ok (.iload_n 2, 1) := by decide +kernel
theorem de_E_init_11 : decode mb_E_init 11 = .ok (.putfield 13, 3) := by decide +kernel
theorem de_E_init_14 : decode mb_E_init 14 = .ok (.aload_n 0, 1) := by decide +kernel
theorem de_E_init_15 : decode mb_E_init 15 = .ok (.lload_n 3, 1) := by decide +kernel
theorem de_E_init_16 : decode mb_E_init 16 = .ok (.putfield 16, 3) := by decide +kernel
theorem de_E_init_19 : decode mb_E_init 19 = .ok (.aload_n 0, 1) := by decide +kernel
theorem de_E_init_20 : decode mb_E_init 20 = .ok (.iload 5, 2) := by decide +kernel
theorem de_E_init_22 : decode mb_E_init 22 = .ok (.putfield 20, 3) := by decide +kernel
theorem de_E_init_25 : decode mb_E_init 25 = .ok (.return_, 1) := by decide +kernel
theorem de_E_numbered_0 : decode mb_E_numbered 0 = .ok (.new 8, 3) := by decide +kernel
theorem de_E_numbered_3 : decode mb_E_numbered 3 = .ok (.dup, 1) := by decide +kernel
theorem de_E_numbered_4 : decode mb_E_numbered 4 = .ok (.aload_n 0, 1) := by decide +kernel
theorem de_E_numbered_5 : decode mb_E_numbered 5 = .ok (.getfield 7, 3) := by decide +kernel
theorem de_E_numbered_8 : decode mb_E_numbered 8 = .ok (.iload_n 1, 1) := by decide +kernel
theorem de_E_numbered_9 : decode mb_E_numbered 9 = .ok (.aload_n 0, 1) := by decide +kernel
theorem de_E_numbered_10 : decode mb_E_numbered 10 = .ok (.getfield 16, 3) := by decide +kernel
theorem de_E_numbered_13 : decode mb_E_numbered 13 = .ok (.aload_n 0, 1) := by decide +kernel
theorem de_E_numbered_14 : decode mb_E_numbered 14 = .ok (.getfield 20, 3) := by decide +kernel
theorem de_E_numbered_17 : decode mb_E_numbered 17 = .ok (.invokespecial 24, 3) := by decide +kernel
theorem de_E_numbered_20 : decode mb_E_numbered 20 = .ok (.areturn, 1) := by decide +kernel
theorem de_V_runCount_0 : decode mb_V_runCount 0 = .ok (.aload_n 0, 1) := by decide +kernel
theorem de_V_runCount_1 : decode mb_V_runCount 1 = .ok (.getfield 10, 3) := by decide +kernel
theorem de_V_runCount_4 : decode mb_V_runCount 4 = .ok (.invokevirtual 20, 3) := by decide +kernel
theorem de_V_runCount_7 : decode mb_V_runCount 7 = .ok (.ireturn, 1) := by decide +kernel
theorem de_E_hasKeyOf_0 : decode mb_E_hasKeyOf 0 = .ok (.aload_n 1, 1) := by decide +kernel
theorem de_E_hasKeyOf_1 : decode mb_E_hasKeyOf 1 = .ok (.ifnull 18, 3) := by decide +kernel
theorem de_E_hasKeyOf_4 : decode mb_E_hasKeyOf 4 = .ok (.aload_n 0, 1) := by decide +kernel
theorem de_E_hasKeyOf_5 : decode mb_E_hasKeyOf 5 = .ok (.getfield 7, 3) := by decide +kernel
theorem de_E_hasKeyOf_8 : decode mb_E_hasKeyOf 8 = .ok (.aload_n 1, 1) := by decide +kernel
theorem de_E_hasKeyOf_9 : decode mb_E_hasKeyOf 9 = .ok (.getfield 7, 3) := by decide +kernel
theorem de_E_hasKeyOf_12 : decode mb_E_hasKeyOf 12 = .ok (.if_icmp .ne 7, 3) := by decide +kernel
theorem de_E_hasKeyOf_15 : decode mb_E_hasKeyOf 15 = .ok (.iconst 1, 1) := by decide +kernel
theorem de_E_hasKeyOf_16 : decode mb_E_hasKeyOf 16 = .ok (.goto 4, 3) := by decide +kernel
theorem de_E_hasKeyOf_19 : decode mb_E_hasKeyOf 19 = .ok (.iconst 0, 1) := by decide +kernel
theorem de_E_hasKeyOf_20 : decode mb_E_hasKeyOf 20 = .ok (.ireturn, 1) := by decide +kernel
theorem de_S_anyFromBelow_0 : decode mb_S_anyFromBelow 0 = .ok (.iconst 0, 1) := by decide +kernel
theorem de_S_anyFromBelow_1 : decode mb_S_anyFromBelow 1 = .ok (.istore_n 3, 1) := by decide +kernel
theorem de_S_anyFromBelow_2 : decode mb_S_anyFromBelow 2 = .ok (.iload_n 3, 1) := by decide +kernel
theorem de_S_anyFromBelow_3 : decode mb_S_anyFromBelow 3 = .ok (.bipush 6, 2) := by decide +kernel
theorem de_S_anyFromBelow_5 : decode mb_S_anyFromBelow 5 = .ok (.if_icmp .ge 40, 3) := by decide +kernel
theorem de_S_anyFromBelow_8 : decode mb_S_anyFromBelow 8 = .ok (.aload_n 0, 1) := by decide +kernel
theorem de_S_anyFromBelow_9 : decode mb_S_anyFromBelow 9 = .ok (.getfield 15, 3) := by decide +kernel
theorem de_S_anyFromBelow_12 : decode mb_S_anyFromBelow 12 = .ok (.iload_n 3, 1) := by decide +kernel
theorem de_S_anyFromBelow_13 : decode mb_S_anyFromBelow 13 = .ok (.baload, 1) := by decide +kernel
theorem de_S_anyFromBelow_14 : decode mb_S_anyFromBelow 14 = .ok (.ifCond .eq 25, 3) := by decide +kernel
theorem de_S_anyFromBelow_17 : decode mb_S_anyFromBelow 17 = .ok (.iload_n 1, 1) := by decide +kernel
theorem de_S_anyFromBelow_18 : decode mb_S_anyFromBelow 18 = .ok (.aload_n 0, 1) := by decide +kernel
theorem de_S_anyFromBelow_19 : decode mb_S_anyFromBelow 19 = .ok (.getfield 9, 3) := by decide +kernel
theorem de_S_anyFromBelow_22 : decode mb_S_anyFromBelow 22 = .ok (.iload_n 3, 1) := by decide +kernel
theorem de_S_anyFromBelow_23 : decode mb_S_anyFromBelow 23 = .ok (.iaload, 1) := by decide +kernel
theorem de_S_anyFromBelow_24 : decode mb_S_anyFromBelow 24 = .ok (.if_icmp .gt 15, 3) := by decide +kernel
theorem de_S_anyFromBelow_27 : decode mb_S_anyFromBelow 27 = .ok (.aload_n 0, 1) := by decide +kernel
theorem de_S_anyFromBelow_28 : decode mb_S_anyFromBelow 28 = .ok (.getfield 9, 3) := by decide +kernel
theorem de_S_anyFromBelow_31 : decode mb_S_anyFromBelow 31 = .ok (.iload_n 3, 1) := by decide +kernel
theorem de_S_anyFromBelow_32 : decode mb_S_anyFromBelow 32 = .ok (.iaload, 1) := by decide +kernel
theorem de_S_anyFromBelow_33 : decode mb_S_anyFromBelow 33 = .ok (.iload_n 2, 1) := by decide +kernel
theorem de_S_anyFromBelow_34 : decode mb_S_anyFromBelow 34 = .ok (.if_icmp .ge 5, 3) := by decide +kernel
theorem de_S_anyFromBelow_37 : decode mb_S_anyFromBelow 37 = .ok (.iconst 1, 1) := by decide +kernel
theorem de_S_anyFromBelow_38 : decode mb_S_anyFromBelow 38 = .ok (.ireturn, 1) := by decide +kernel
theorem de_S_anyFromBelow_39 : decode mb_S_anyFromBelow 39 = .ok (.iinc 3 1, 3) := by decide +kernel
theorem de_S_anyFromBelow_42 : decode mb_S_anyFromBelow 42 = .ok (.goto (-40), 3) := by decide +kernel
theorem de_S_anyFromBelow_45 : decode mb_S_anyFromBelow 45 = .ok (.iconst 0, 1) := by decide +kernel
theorem de_S_anyFromBelow_46 : decode mb_S_anyFromBelow 46 = .ok (.ireturn, 1) := by decide +kernel
theorem de_R_cutDeletedTail_0 : decode mb_R_cutDeletedTail 0 = .ok (.aload_n 0, 1) := by decide +kernel
theorem de_R_cutDeletedTail_1 : decode mb_R_cutDeletedTail 1 = .ok (.getfield 7, 3) := by decide +kernel
theorem de_R_cutDeletedTail_4 : decode mb_R_cutDeletedTail 4 = .ok (.ifCond .le 33, 3) := by decide +kernel
theorem de_R_cutDeletedTail_7 : decode mb_R_cutDeletedTail 7 = .ok (.aload_n 0, 1) := by decide +kernel
theorem de_R_cutDeletedTail_8 : decode mb_R_cutDeletedTail 8 = .ok (.getfield 15, 3) := by decide +kernel
theorem de_R_cutDeletedTail_11 : decode mb_R_cutDeletedTail 11 = .ok (.aload_n 0, 1) := by decide +kernel
theorem de_R_cutDeletedTail_12 : decode mb_R_cutDeletedTail 12 = .ok (.getfield 7, 3) := by decide +kernel
theorem de_R_cutDeletedTail_15 : decode mb_R_cutDeletedTail 15 = .ok (.iconst 1, 1) := by decide +kernel
theorem de_R_cutDeletedTail_16 : decode mb_R_cutDeletedTail 16 = .ok (.isub, 1) := by decide +kernel
theorem de_R_cutDeletedTail_17 : decode mb_R_cutDeletedTail 17 = .ok (.aaload, 1) := by decide +kernel
theorem de_R_cutDeletedTail_18 : decode mb_R_cutDeletedTail 18 = .ok (.getfield 23, 3) := by decide +kernel
theorem de_R_cutDeletedTail_21 : decode mb_R_cutDeletedTail 21 = .ok (.ifCond .eq 16, 3) := by decide +kernel
theorem de_R_cutDeletedTail_24 : decode mb_R_cutDeletedTail 24 = .ok (.aload_n 0, 1) := by decide +kernel
theorem de_R_cutDeletedTail_25 : decode mb_R_cutDeletedTail 25 = .ok (.dup, 1) := by decide +kernel
theorem de_R_cutDeletedTail_26 : decode mb_R_cutDeletedTail 26 = .ok (.getfield 7, 3) := by decide +kernel
theorem de_R_cutDeletedTail_29 : decode mb_R_cutDeletedTail 29 = .ok (.iconst 1, 1) := by decide +kernel
theorem de_R_cutDeletedTail_30 : decode mb_R_cutDeletedTail 30 = .ok (.isub, 1) := by decide +kernel
theorem de_R_cutDeletedTail_31 : decode mb_R_cutDeletedTail 31 = .ok (.putfield 7, 3) := by decide +kernel
theorem de_R_cutDeletedTail_34 : decode mb_R_cutDeletedTail 34 = .ok (.goto (-34), 3) := by decide +kernel
theorem de_R_cutDeletedTail_37 : decode mb_R_cutDeletedTail 37 = .ok (.return_, 1) := by decide +kernel
theorem de_V_clear_0 : decode mb_V_clear 0 = .ok (.aload_n 0, 1) := by decide +kernel
theorem de_V_clear_1 : decode mb_V_clear 1 = .ok (.getfield 10, 3) := by decide +kernel
theorem de_V_clear_4 : decode mb_V_clear 4 = .ok (.invokevirtual 45, 3) := by decide +kernel
theorem de_V_clear_7 : decode mb_V_clear 7 = .ok (.aload_n 0, 1) := by decide +kernel
theorem de_V_clear_8 : decode mb_V_clear 8 = .ok (.iconst 0, 1) := by decide +kernel
theorem de_V_clear_9 : decode mb_V_clear 9 = .ok (.putfield 16, 3) := by decide +kernel
theorem de_V_clear_12 : decode mb_V_clear 12 = .ok (.return_, 1) := by decide +kernel
theorem de_S_leastFree_0 : decode mb_S_leastFree 0 = .ok (.iconst 0, 1) := by decide +kernel
theorem de_S_leastFree_1 : decode mb_S_leastFree 1 = .ok (.istore_n 1, 1) := by decide +kernel
theorem de_S_leastFree_2 : decode mb_S_leastFree 2 = .ok (.iload_n 1, 1) := by decide +kernel
theorem de_S_leastFree_3 : decode mb_S_leastFree 3 = .ok (.bipush 6, 2) := by decide +kernel
theorem de_S_leastFree_5 : decode mb_S_leastFree 5 = .ok (.if_icmp .ge 20, 3) := by decide +kernel
theorem de_S_leastFree_8 : decode mb_S_leastFree 8 = .ok (.aload_n 0, 1) := by decide +kernel
theorem de_S_leastFree_9 : decode mb_S_leastFree 9 = .ok (.getfield 15, 3) := by decide +kernel
theorem de_S_leastFree_12 : decode mb_S_leastFree 12 = .ok (.iload_n 1, 1) := by decide +kernel
theorem de_S_leastFree_13 : decode mb_S_leastFree 13 = .ok (.baload, 1) := by decide +kernel
theorem de_S_leastFree_14 : decode mb_S_leastFree 14 = .ok (.ifCond .ne 5, 3) := by decide +kernel
theorem de_S_leastFree_17 : decode mb_S_leastFree 17 = .ok (.iload_n 1, 1) := by decide +kernel
theorem de_S_leastFree_18 : decode mb_S_leastFree 18 = .ok (.ireturn, 1) := by decide +kernel
theorem de_S_leastFree_19 : decode mb_S_leastFree 19 = .ok (.iinc 1 1, 3) := by decide +kernel
theorem de_S_leastFree_22 : decode mb_S_leastFree 22 = .ok (.goto (-20), 3) := by decide +kernel
theorem de_S_leastFree_25 : decode mb_S_leastFree 25 = .ok (.iconst (-1), 1) := by decide +kernel
theorem de_S_leastFree_26 : decode mb_S_leastFree 26 = .ok (.ireturn, 1) := by decide +kernel
theorem de_S_keep_0 : decode mb_S_keep 0 = .ok (.iload_n 1, 1) := by decide +kernel
theorem de_S_keep_1 : decode mb_S_keep 1 = .ok (.ifCond .lt 23, 3) := by decide +kernel
theorem de_S_keep_4 : decode mb_S_keep 4 = .ok (.iload_n 1, 1) := by decide +kernel
theorem de_S_keep_5 : decode mb_S_keep 5 = .ok (.bipush 6, 2) := by decide +kernel
theorem de_S_keep_7 : decode mb_S_keep 7 = .ok (.if_icmp .ge 17, 3) := by decide +kernel
theorem de_S_keep_10 : decode mb_S_keep 10 = .ok (.aload_n 0, 1) := by decide +kernel
theorem de_S_keep_11 : decode mb_S_keep 11 = .ok (.getfield 9, 3) := by decide +kernel
theorem de_S_keep_14 : decode mb_S_keep 14 = .ok (.iload_n 1, 1) := by decide +kernel
theorem de_S_keep_15 : decode mb_S_keep 15 = .ok (.iload_n 2, 1) := by decide +kernel
theorem de_S_keep_16 : decode mb_S_keep 16 = .ok (.iastore, 1) := by decide +kernel
theorem de_S_keep_17 : decode mb_S_keep 17 = .ok (.aload_n 0, 1) := by decide +kernel
theorem de_S_keep_18 : decode mb_S_keep 18 = .ok (.getfield 15, 3) := by decide +kernel
theorem de_S_keep_21 : decode mb_S_keep 21 = .ok (.iload_n 1, 1) := by decide +kernel
theorem de_S_keep_22 : decode mb_S_keep 22 = .ok (.iconst 1, 1) := by decide +kernel
theorem de_S_keep_23 : decode mb_S_keep 23 = .ok (.bastore, 1) := by decide +kernel
theorem de_S_keep_24 : decode mb_S_keep 24 = .ok (.return_, 1) := by decide +kernel
theorem de_S_has_0 : decode mb_S_has 0 = .ok (.iload_n 1, 1) := by decide +kernel
theorem de_S_has_1 : decode mb_S_has 1 = .ok (.ifCond .lt 22, 3) := by decide +kernel
theorem de_S_has_4 : decode mb_S_has 4 = .ok (.iload_n 1, 1) := by decide +kernel
theorem de_S_has_5 : decode mb_S_has 5 = .ok (.bipush 6, 2) := by decide +kernel
theorem de_S_has_7 : decode mb_S_has 7 = .ok (.if_icmp .ge 16, 3) := by decide +kernel
theorem de_S_has_10 : decode mb_S_has 10 = .ok (.aload_n 0, 1) := by decide +kernel
theorem de_S_has_11 : decode mb_S_has 11 = .ok (.getfield 15, 3) := by decide +kernel
theorem de_S_has_14 : decode mb_S_has 14 = .ok (.iload_n 1, 1) := by decide +kernel
theorem de_S_has_15 : decode mb_S_has 15 = .ok (.baload, 1) := by decide +kernel
theorem de_S_has_16 : decode mb_S_has 16 = .ok (.ifCond .eq 7, 3) := by decide +kernel
theorem de_S_has_19 : decode mb_S_has 19 = .ok (.iconst 1, 1) := by decide +kernel
theorem de_S_has_20 : decode mb_S_has 20 = .ok (.goto 4, 3) := by decide +kernel
theorem de_S_has_23 : decode mb_S_has 23 = .ok (.iconst 0, 1) := by decide +kernel
theorem de_S_has_24 : decode mb_S_has 24 = .ok (.ireturn, 1) := by decide +kernel
theorem de_S_forget_0 : decode mb_S_forget 0 = .ok (.aload_n 0, 1) := by decide +kernel
theorem de_S_forget_1 : decode mb_S_forget 1 = .ok (.iload_n 1, 1) := by decide +kernel
theorem de_S_forget_2 : decode mb_S_forget 2 = .ok (.invokevirtual 19, 3) := by decide +kernel
theorem de_S_forget_5 : decode mb_S_forget 5 = .ok (.ifCond .eq 10, 3) := by decide +kernel
theorem de_S_forget_8 : decode mb_S_forget 8 = .ok (.aload_n 0, 1) := by decide +kernel
theorem de_S_forget_9 : decode mb_S_forget 9 = .ok (.getfield 15, 3) := by decide +kernel
theorem de_S_forget_12 : decode mb_S_forget 12 = .ok (.iload_n 1, 1) := by decide +kernel
theorem de_S_forget_13 : decode mb_S_forget 13 = .ok (.iconst 0, 1) := by decide +kernel
theorem de_S_forget_14 : decode mb_S_forget 14 = .ok (.bastore, 1) := by decide +kernel
theorem de_S_forget_15 : decode mb_S_forget 15 = .ok (.return_, 1) := by decide +kernel
theorem de_S_sequenceAt_0 : decode mb_S_sequenceAt 0 = .ok (.aload_n 0, 1) := by decide +kernel
theorem de_S_sequenceAt_1 : decode mb_S_sequenceAt 1 = .ok (.iload_n 1, 1) := by decide +kernel
theorem de_S_sequenceAt_2 : decode mb_S_sequenceAt 2 = .ok (.invokevirtual 19, 3) := by decide +kernel
theorem de_S_sequenceAt_5 : decode mb_S_sequenceAt 5 = .ok (.ifCond .eq 12, 3) := by decide +kernel
theorem de_S_sequenceAt_8 : decode mb_S_sequenceAt 8 = .ok (.aload_n 0, 1) := by decide +kernel
theorem de_S_sequenceAt_9 : decode mb_S_sequenceAt 9 = .ok (.getfield 9, 3) := by decide +kernel
theorem de_S_sequenceAt_12 : decode mb_S_sequenceAt 12 = .ok (.iload_n 1, 1) := by decide +kernel
theorem de_S_sequenceAt_13 : decode mb_S_sequenceAt 13 = .ok (.iaload, 1) := by decide +kernel
theorem de_S_sequenceAt_14 : decode mb_S_sequenceAt 14 = .ok (.goto 4, 3) := by decide +kernel
theorem de_S_sequenceAt_17 : decode mb_S_sequenceAt 17 = .ok (.iconst 0, 1) := by decide +kernel
theorem de_S_sequenceAt_18 : decode mb_S_sequenceAt 18 = .ok (.ireturn, 1) := by decide +kernel
theorem de_R_latestOf_0 : decode mb_R_latestOf 0 = .ok (.aconst_null, 1) := by decide +kernel
theorem de_R_latestOf_1 : decode mb_R_latestOf 1 = .ok (.astore_n 3, 1) := by decide +kernel
theorem de_R_latestOf_2 : decode mb_R_latestOf 2 = .ok (.iconst 0, 1) := by decide +kernel
theorem de_R_latestOf_3 : decode mb_R_latestOf 3 = .ok (.istore 4, 2) := by decide +kernel
theorem de_R_latestOf_5 : decode mb_R_latestOf 5 = .ok (.iload 4, 2) := by decide +kernel
theorem de_R_latestOf_7 : decode mb_R_latestOf 7 = .ok (.aload_n 0, 1) := by decide +kernel
theorem de_R_latestOf_8 : decode mb_R_latestOf 8 = .ok (.getfield 7, 3) := by decide +kernel
theorem de_R_latestOf_11 : decode mb_R_latestOf 11 = .ok (.if_icmp .ge 55, 3) := by decide +kernel
theorem de_R_latestOf_14 : decode mb_R_latestOf 14 = .ok (.aload_n 0, 1) := by decide +kernel
theorem de_R_latestOf_15 : decode mb_R_latestOf 15 = .ok (.getfield 15, 3) := by decide +kernel
theorem de_R_latestOf_18 : decode mb_R_latestOf 18 = .ok (.iload 4, 2) := by decide +kernel
theorem de_R_latestOf_20 : decode mb_R_latestOf 20 = .ok (.aaload, 1) := by decide +kernel
theorem de_R_latestOf_21 : decode mb_R_latestOf 21 = .ok (.astore 5, 2) := by decide +kernel
theorem de_R_latestOf_23 : decode mb_R_latestOf 23 = .ok (.aload 5, 2) := by decide +kernel
theorem de_R_latestOf_25 : decode mb_R_latestOf 25 = .ok (.getfield 31, 3) := by decide +kernel
theorem de_R_latestOf_28 : decode mb_R_latestOf 28 = .ok (.iload_n 1, 1) := by decide +kernel
theorem de_R_latestOf_29 : decode mb_R_latestOf 29 = .ok (.if_icmp .ne 31, 3) := by decide +kernel
theorem de_R_latestOf_32 : decode mb_R_latestOf 32 = .ok (.aload 5, 2) := by decide +kernel
theorem de_R_latestOf_34 : decode mb_R_latestOf 34 = .ok (.getfield 34, 3) := by decide +kernel
theorem de_R_latestOf_37 : decode mb_R_latestOf 37 = .ok (.iload_n 2, 1) := by decide +kernel
theorem de_R_latestOf_38 : decode mb_R_latestOf 38 = .ok (.if_icmp .gt 22, 3) := by decide +kernel
theorem de_R_latestOf_41 : decode mb_R_latestOf 41 = .ok (.aload_n 3, 1) := by decide +kernel
theorem de_R_latestOf_42 : decode mb_R_latestOf 42 = .ok (.ifnull 15, 3) := by decide +kernel
theorem de_R_latestOf_45 : decode mb_R_latestOf 45 = .ok (.aload_n 3, 1) := by decide +kernel
theorem de_R_latestOf_46 : decode mb_R_latestOf 46 = .ok (.getfield 34, 3) := by decide +kernel
theorem de_R_latestOf_49 : decode mb_R_latestOf 49 = .ok (.aload 5, 2) := by decide +kernel
theorem de_R_latestOf_51 : decode mb_R_latestOf 51 = .ok (.getfield 34, 3) := by decide +kernel
theorem de_R_latestOf_54 : decode mb_R_latestOf 54 = .ok (.if_icmp .ge 6, 3) := by decide +kernel
theorem de_R_latestOf_57 : decode mb_R_latestOf 57 = .ok (.aload 5, 2) := by decide +kernel
theorem de_R_latestOf_59 : decode mb_R_latestOf 59 = .ok (.astore_n 3, 1) := by decide +kernel
theorem de_R_latestOf_60 : decode mb_R_latestOf 60 = .ok (.iinc 4 1, 3) := by decide +kernel
theorem de_R_latestOf_63 : decode mb_R_latestOf 63 = .ok (.goto (-58), 3) := by decide +kernel
theorem de_R_latestOf_66 : decode mb_R_latestOf 66 = .ok (.aload_n 3, 1) := by decide +kernel
theorem de_R_latestOf_67 : decode mb_R_latestOf 67 = .ok (.areturn, 1) := by decide +kernel
theorem de_V_runAt_0 : decode mb_V_runAt 0 = .ok (.iload_n 1, 1) := by decide +kernel
theorem de_V_runAt_1 : decode mb_V_runAt 1 = .ok (.ifCond .lt 28, 3) := by decide +kernel
theorem de_V_runAt_4 : decode mb_V_runAt 4 = .ok (.iload_n 1, 1) := by decide +kernel
theorem de_V_runAt_5 : decode mb_V_runAt 5 = .ok (.aload_n 0, 1) := by decide +kernel
theorem de_V_runAt_6 : decode mb_V_runAt 6 = .ok (.getfield 10, 3) := by decide +kernel
theorem de_V_runAt_9 : decode mb_V_runAt 9 = .ok (.invokevirtual 20, 3) := by decide +kernel
theorem de_V_runAt_12 : decode mb_V_runAt 12 = .ok (.if_icmp .ge 17, 3) := by decide +kernel
theorem de_V_runAt_15 : decode mb_V_runAt 15 = .ok (.aload_n 0, 1) := by decide +kernel
theorem de_V_runAt_16 : decode mb_V_runAt 16 = .ok (.getfield 10, 3) := by decide +kernel
theorem de_V_runAt_19 : decode mb_V_runAt 19 = .ok (.iload_n 1, 1) := by decide +kernel
theorem de_V_runAt_20 : decode mb_V_runAt 20 = .ok (.invokevirtual 24, 3) := by decide +kernel
theorem de_V_runAt_23 : decode mb_V_runAt 23 = .ok (.checkcast 28, 3) := by decide +kernel
theorem de_V_runAt_26 : decode mb_V_runAt 26 = .ok (.goto 4, 3) := by decide +kernel
theorem de_V_runAt_29 : decode mb_V_runAt 29 = .ok (.aconst_null, 1) := by decide +kernel
theorem de_V_runAt_30 : decode mb_V_runAt 30 = .ok (.areturn, 1) := by decide +kernel
theorem de_U_mayHave_0 : decode mb_U_mayHave 0 = .ok (.aload_n 0, 1) := by decide +kernel
theorem de_U_mayHave_1 : decode mb_U_mayHave 1 = .ok (.getfield 16, 3) := by decide +kernel
theorem de_U_mayHave_4 : decode mb_U_mayHave 4 = .ok (.iconst 0, 1) := by decide +kernel
theorem de_U_mayHave_5 : decode mb_U_mayHave 5 = .ok (.invokevirtual 30, 3) := by decide +kernel
theorem de_U_mayHave_8 : decode mb_U_mayHave 8 = .ok (.astore_n 2, 1) := by decide +kernel
theorem de_U_mayHave_9 : decode mb_U_mayHave 9 = .ok (.aload_n 0, 1) := by decide +kernel
theorem de_U_mayHave_10 : decode mb_U_mayHave 10 = .ok (.getfield 16, 3) := by decide +kernel
theorem de_U_mayHave_13 : decode mb_U_mayHave 13 = .ok (.aload_n 0, 1) := by decide +kernel
theorem de_U_mayHave_14 : decode mb_U_mayHave 14 = .ok (.getfield 16, 3) := by decide +kernel
theorem de_U_mayHave_17 : decode mb_U_mayHave 17 = .ok (.invokevirtual 9, 3) := by decide +kernel
theorem de_U_mayHave_20 : decode mb_U_mayHave 20 = .ok (.iconst 1, 1) := by decide +kernel
theorem de_U_mayHave_21 : decode mb_U_mayHave 21 = .ok (.isub, 1) := by decide +kernel
theorem de_U_mayHave_22 : decode mb_U_mayHave 22 = .ok (.invokevirtual 30, 3) := by decide +kernel
theorem de_U_mayHave_25 : decode mb_U_mayHave 25 = .ok (.astore_n 3, 1) := by decide +kernel
theorem de_U_mayHave_26 : decode mb_U_mayHave 26 = .ok (.aload_n 2, 1) := by decide +kernel
theorem de_U_mayHave_27 : decode mb_U_mayHave 27 = .ok (.ifnull 35, 3) := by decide +kernel
theorem de_U_mayHave_30 : decode mb_U_mayHave 30 = .ok (.aload_n 3, 1) := by decide +kernel
theorem de_U_mayHave_31 : decode mb_U_mayHave 31 = .ok (.ifnull 31, 3) := by decide +kernel
theorem de_U_mayHave_34 : decode mb_U_mayHave 34 = .ok (.aload_n 2, 1) := by decide +kernel
theorem de_U_mayHave_35 : decode mb_U_mayHave 35 = .ok (.getfield 42, 3) := by decide +kernel
theorem de_U_mayHave_38 : decode mb_U_mayHave 38 = .ok (.iload_n 1, 1) := by decide +kernel
theorem de_U_mayHave_39 : decode mb_U_mayHave 39 = .ok (.if_icmp .gt 23, 3) := by decide +kernel
theorem de_U_mayHave_42 : decode mb_U_mayHave 42 = .ok (.iload_n 1, 1) := by decide +kernel
theorem de_U_mayHave_43 : decode mb_U_mayHave 43 = .ok (.aload_n 3, 1) := by decide +kernel
theorem de_U_mayHave_44 : decode mb_U_mayHave 44 = .ok (.getfield 42, 3) := by decide +kernel
theorem de_U_mayHave_47 : decode mb_U_mayHave 47 = .ok (.if_icmp .gt 15, 3) := by decide +kernel
theorem de_U_mayHave_50 : decode mb_U_mayHave 50 = .ok (.aload_n 0, 1) := by decide +kernel
theorem de_U_mayHave_51 : decode mb_U_mayHave 51 = .ok (.iload_n 1, 1) := by decide +kernel
theorem de_U_mayHave_52 : decode mb_U_mayHave 52 = .ok (.invokevirtual 52, 3) := by decide +kernel
theorem de_U_mayHave_55 : decode mb_U_mayHave 55 = .ok (.ifCond .eq 7, 3) := by decide +kernel
theorem de_U_mayHave_58 : decode mb_U_mayHave 58 = .ok (.iconst 1, 1) := by decide +kernel
theorem de_U_mayHave_59 : decode mb_U_mayHave 59 = .ok (.goto 4, 3) := by decide +kernel
theorem de_U_mayHave_62 : decode mb_U_mayHave 62 = .ok (.iconst 0, 1) := by decide +kernel
theorem de_U_mayHave_63 : decode mb_U_mayHave 63 = .ok (.ireturn, 1) := by decide +kernel
theorem de_U_passesFilter_0 : decode mb_U_passesFilter 0 = .ok (.iconst 0, 1) := by decide +kernel
theorem de_U_passesFilter_1 : decode mb_U_passesFilter 1 = .ok (.istore_n 2, 1) := by decide +kernel
theorem de_U_passesFilter_2 : decode mb_U_passesFilter 2 = .ok (.iload_n 2, 1) := by decide +kernel
theorem de_U_passesFilter_3 : decode mb_U_passesFilter 3 = .ok (.getstatic 38, 3) := by decide +kernel
theorem de_U_passesFilter_6 : decode mb_U_passesFilter 6 = .ok (.arraylength, 1) := by decide +kernel
theorem de_U_passesFilter_7 : decode mb_U_passesFilter 7 = .ok (.if_icmp .ge 46, 3) := by decide +kernel
theorem de_U_passesFilter_10 : decode mb_U_passesFilter 10 = .ok (.iload_n 1, 1) := by decide +kernel
theorem de_U_passesFilter_11 : decode mb_U_passesFilter 11 = .ok (.getstatic 38, 3) := by decide +kernel
theorem de_U_passesFilter_14 : decode mb_U_passesFilter 14 = .ok (.iload_n 2, 1) := by decide +kernel
theorem de_U_passesFilter_15 : decode mb_U_passesFilter 15 = .ok (.iaload, 1) := by decide +kernel
theorem de_U_passesFilter_16 : decode mb_U_passesFilter 16 = .ok (.aload_n 0, 1) := by decide +kernel
theorem de_U_passesFilter_17 : decode mb_U_passesFilter 17 = .ok (.getfield 26, 3) := by decide +kernel
theorem de_U_passesFilter_20 : decode mb_U_passesFilter 20 = .ok (.invokestatic 48, 3) := by decide +kernel
theorem de_U_passesFilter_23 : decode mb_U_passesFilter 23 = .ok (.istore_n 3, 1) := by decide +kernel
theorem de_U_passesFilter_24 : decode mb_U_passesFilter 24 = .ok (.aload_n 0, 1) := by decide +kernel
theorem de_U_passesFilter_25 : decode mb_U_passesFilter 25 = .ok (.getfield 26, 3) := by decide +kernel
theorem de_U_passesFilter_28 : decode mb_U_passesFilter 28 = .ok (.iload_n 3, 1) := by decide +kernel
theorem de_U_passesFilter_29 : decode mb_U_passesFilter 29 = .ok (.bipush 64, 2) := by decide +kernel
theorem de_U_passesFilter_31 : decode mb_U_passesFilter 31 = .ok (.idiv, 1) := by decide +kernel
theorem de_U_passesFilter_32 : decode mb_U_passesFilter 32 = .ok (.laload, 1) := by decide +kernel
theorem de_U_passesFilter_33 : decode mb_U_passesFilter 33 = .ok (.iload_n 3, 1) := by decide +kernel
theorem de_U_passesFilter_34 : decode mb_U_passesFilter 34 = .ok (.bipush 64, 2) := by decide +kernel
theorem de_U_passesFilter_36 : decode mb_U_passesFilter 36 = .ok (.irem, 1) := by decide +kernel
theorem de_U_passesFilter_37 : decode mb_U_passesFilter 37 = .ok (.lushr, 1) := by decide +kernel
theorem de_U_passesFilter_38 : decode mb_U_passesFilter 38 = .ok (.lconst 1, 1) := by decide +kernel
theorem de_U_passesFilter_39 : decode mb_U_passesFilter 39 = .ok (.land, 1) := by decide +kernel
theorem de_U_passesFilter_40 : decode mb_U_passesFilter 40 = .ok (.lconst 0, 1) := by decide +kernel
theorem de_U_passesFilter_41 : decode mb_U_passesFilter 41 = .ok (.lcmp, 1) := by decide +kernel
theorem de_U_passesFilter_42 : decode mb_U_passesFilter 42 = .ok (.ifCond .ne 5, 3) := by decide +kernel
theorem de_U_passesFilter_45 : decode mb_U_passesFilter 45 = .ok (.iconst 0, 1) := by decide +kernel
theorem de_U_passesFilter_46 : decode mb_U_passesFilter 46 = .ok (.ireturn, 1) := by decide +kernel
theorem de_U_passesFilter_47 : decode mb_U_passesFilter 47 = .ok (.iinc 2 1, 3) := by decide +kernel
theorem de_U_passesFilter_50 : decode mb_U_passesFilter 50 = .ok (.goto (-48), 3) := by decide +kernel
theorem de_U_passesFilter_53 : decode mb_U_passesFilter 53 = .ok (.iconst 1, 1) := by decide +kernel
theorem de_U_passesFilter_54 : decode mb_U_passesFilter 54 = .ok (.ireturn, 1) := by decide +kernel
theorem de_R_hasKey_0 : decode mb_R_hasKey 0 = .ok (.iconst 0, 1) := by decide +kernel
theorem de_R_hasKey_1 : decode mb_R_hasKey 1 = .ok (.istore_n 2, 1) := by decide +kernel
theorem de_R_hasKey_2 : decode mb_R_hasKey 2 = .ok (.iload_n 2, 1) := by decide +kernel
theorem de_R_hasKey_3 : decode mb_R_hasKey 3 = .ok (.aload_n 0, 1) := by decide +kernel
theorem de_R_hasKey_4 : decode mb_R_hasKey 4 = .ok (.getfield 7, 3) := by decide +kernel
theorem de_R_hasKey_7 : decode mb_R_hasKey 7 = .ok (.if_icmp .ge 24, 3) := by decide +kernel
theorem de_R_hasKey_10 : decode mb_R_hasKey 10 = .ok (.aload_n 0, 1) := by decide +kernel
theorem de_R_hasKey_11 : decode mb_R_hasKey 11 = .ok (.getfield 15, 3) := by decide +kernel
theorem de_R_hasKey_14 : decode mb_R_hasKey 14 = .ok (.iload_n 2, 1) := by decide +kernel
theorem de_R_hasKey_15 : decode mb_R_hasKey 15 = .ok (.aaload, 1) := by decide +kernel
theorem de_R_hasKey_16 : decode mb_R_hasKey 16 = .ok (.getfield 31, 3) := by decide +kernel
theorem de_R_hasKey_19 : decode mb_R_hasKey 19 = .ok (.iload_n 1, 1) := by decide +kernel
theorem de_R_hasKey_20 : decode mb_R_hasKey 20 = .ok (.if_icmp .ne 5, 3) := by decide +kernel
theorem de_R_hasKey_23 : decode mb_R_hasKey 23 = .ok (.iconst 1, 1) := by decide +kernel
theorem de_R_hasKey_24 : decode mb_R_hasKey 24 = .ok (.ireturn, 1) := by decide +kernel
theorem de_R_hasKey_25 : decode mb_R_hasKey 25 = .ok (.iinc 2 1, 3) := by decide +kernel
theorem de_R_hasKey_28 : decode mb_R_hasKey 28 = .ok (.goto (-26), 3) := by decide +kernel
theorem de_R_hasKey_31 : decode mb_R_hasKey 31 = .ok (.iconst 0, 1) := by decide +kernel
theorem de_R_hasKey_32 : decode mb_R_hasKey 32 = .ok (.ireturn, 1) := by decide +kernel
theorem de_S_taken_0 : decode mb_S_taken 0 = .ok (.iconst 0, 1) := by decide +kernel
theorem de_S_taken_1 : decode mb_S_taken 1 = .ok (.istore_n 1, 1) := by decide +kernel
theorem de_S_taken_2 : decode mb_S_taken 2 = .ok (.iconst 0, 1) := by decide +kernel
theorem de_S_taken_3 : decode mb_S_taken 3 = .ok (.istore_n 2, 1) := by decide +kernel
theorem de_S_taken_4 : decode mb_S_taken 4 = .ok (.iload_n 2, 1) := by decide +kernel
theorem de_S_taken_5 : decode mb_S_taken 5 = .ok (.bipush 6, 2) := by decide +kernel
theorem de_S_taken_7 : decode mb_S_taken 7 = .ok (.if_icmp .ge 26, 3) := by decide +kernel
theorem de_S_taken_10 : decode mb_S_taken 10 = .ok (.iload_n 1, 1) := by decide +kernel
theorem de_S_taken_11 : decode mb_S_taken 11 = .ok (.aload_n 0, 1) := by decide +kernel
theorem de_S_taken_12 : decode mb_S_taken 12 = .ok (.getfield 15, 3) := by decide +kernel
theorem de_S_taken_15 : decode mb_S_taken 15 = .ok (.iload_n 2, 1) := by decide +kernel
theorem de_S_taken_16 : decode mb_S_taken 16 = .ok (.baload, 1) := by decide +kernel
theorem de_S_taken_17 : decode mb_S_taken 17 = .ok (.ifCond .eq 7, 3) := by decide +kernel
theorem de_S_taken_20 : decode mb_S_taken 20 = .ok (.iconst 1, 1) := by decide +kernel
theorem de_S_taken_21 : decode mb_S_taken 21 = .ok (.goto 4, 3) := by decide +kernel
theorem de_S_taken_24 : decode mb_S_taken 24 = .ok (.iconst 0, 1) := by decide +kernel
theorem de_S_taken_25 : decode mb_S_taken 25 = .ok (.iadd, 1) := by decide +kernel
theorem de_S_taken_26 : decode mb_S_taken 26 = .ok (.istore_n 1, 1) := by decide +kernel
theorem de_S_taken_27 : decode mb_S_taken 27 = .ok (.iinc 2 1, 3) := by decide +kernel
theorem de_S_taken_30 : decode mb_S_taken 30 = .ok (.goto (-26), 3) := by decide +kernel
theorem de_S_taken_33 : decode mb_S_taken 33 = .ok (.iload_n 1, 1) := by decide +kernel
theorem de_S_taken_34 : decode mb_S_taken 34 = .ok (.ireturn, 1) := by decide +kernel
end
section
/-! what the world is made of beside our cells: names of the array classes, words that are carried (nest mates, casts), statics, strings -/
abbrev dk_nE : String := "RunKeeper$Entry"
abbrev dk_nL : String := "RunKeeper$Level"
abbrev dk_nO : String := "java/lang/Object"
def dk_nk : Cond → Bool
  | .fieldLinkNest .. => true
  | .methodLinkNest .. => true
  | .castable .. => true
  | .declares .. => true
  | _ => false
def dk_nw : List Cond := tables_1.filter dk_nk
def dk_N (U : State) : Prop := ∀ w ∈ dk_nw, va_Nw w U
theorem dk_nwarm {w : Cond} {s U : State} (hk : dk_nk w = true) (hW : s.WarmedH U.vm) (h : va_Nw w s) : va_Nw w U := by
  cases w <;> first | exact va_Nw.warmF hW h | exact va_Nw.warmM hW h | exact va_Nw.warmC hW h | exact va_Nw.warmD hW h | (simp [dk_nk] at hk)
theorem dk_non {w : Cond} (hk : dk_nk w = true) : w.onTables = true := by
  cases w <;> first | rfl | (simp [dk_nk] at hk)
theorem dn_m {w : Cond} (i : Nat) (h : tables_1[i]? = some w) (hk : dk_nk w = true) : w ∈ dk_nw := List.mem_filter.mpr ⟨List.mem_of_getElem? h, hk⟩
theorem dk_N.use {w : Cond} {s : State} {args : Array Value} (h : dk_N s) (hw : w ∈ dk_nw) : w.before args s = true := va_Nw.use (dk_non (List.mem_filter.mp hw).2) (h w hw)
theorem dk_N.warm {s U : State} (h : dk_N s) (hW : s.WarmedH U.vm) : dk_N U := fun w hw => dk_nwarm (List.mem_filter.mp hw).2 hW (h w hw)
theorem dk_N.same {s U : State} (h : dk_N s) (hv : s.vm = U.vm) : dk_N U := fun w hw => va_Nw.same (dk_non (List.mem_filter.mp hw).2) hv (h w hw)
/-- the classes' numbers and slots, the array classes' numbers, the first cell that is ours, the statics' addresses -/
abbrev dk_G : Type := va_G × (Nat → ClassId) × Nat × (Nat → Nat)
def dk_A (G : dk_G) : Nat → Prop := fun q => G.2.2.1 ≤ q
def dk_fac (j : Nat) : Int32 := if j = 0 then -1640531535 else if j = 1 then -2048144777 else -1028477379
def dk_str : List (Nat × String) := [(203, "key"), (207, "there are as many entries as can be"), (70, "a batch is begun"), (75, "no batch is begun"), (86, "there would be too many entries"), (105, "n"), (127, "there are as many snapshots as can be"), (137, "snapshot"), (265, "key or snapshot"), (158, "the key has nothing"), (171, "level or what"), (183, "there is no such entry"), (189, "what or k")]
/-- a static of Throwable's that holds a reference or null, laid as the tables say -/
def dk_LS (n d : String) (A : Nat → Prop) (U : State) (H : Heap) : Prop := ∃ (c : ClassId) (k : Class) (i : Nat) (f : Field) (a : Nat) (cell : Cell) (v : Value), U.vm.findClass "java/lang/Throwable" = some c ∧ U.fieldFound? "java/lang/Throwable" n d = some (c, k, i, f) ∧ f.isStatic = true ∧ k.statics = some a ∧ H[a]? = some cell ∧ cell.vm.isStatics = true ∧ cell.cls = c ∧ f.slot < cell.slots.size ∧ k.staticTypes[f.slot]? = some f.type ∧ cell.slots[f.slot]? = some v ∧ v.isRef = true ∧ ¬ A a
theorem dk_LS.moved {n d : String} {A : Nat → Prop} {u U : State} {H : Heap} (hvm : u.vm.Alike U.vm) (h : dk_LS n d A u H) : dk_LS n d A U H := by
  obtain ⟨c, k, i, f, a, cell, v, h0, h1, h2, h3, h4, h5, h6, h7, h8, h9⟩ := h
  obtain ⟨k', hi', he⟩ := State.fieldFound?_setVm hvm h1
  exact ⟨c, k', i, f, a, cell, v, by rw [hvm.findClass]; exact h0, hi', h2, by rw [he]; exact h3, h4, h5, h6, h7, by rw [he]; exact h8, h9⟩
theorem dk_LS.kept {n d : String} {A : Nat → Prop} {U : State} {H H1 : Heap} (h : dk_LS n d A U H) (hq : ∀ a : Nat, a < H.size → ¬ A a → H1[a]? = H[a]?) : dk_LS n d A U H1 := by
  obtain ⟨c, k, i, f, a, cell, v, h0, h1, h2, h3, h4, h5, h6, h7, h8, h9, h10, h11⟩ := h
  exact ⟨c, k, i, f, a, cell, v, h0, h1, h2, h3, by rw [hq a (Array.getElem?_eq_some_iff.mp h4).1 h11]; exact h4, h5, h6, h7, h8, h9, h10, h11⟩
def dk_Z (G : dk_G) (U : State) (H : Heap) : Prop :=
  (va_Z "RunKeeper$Run" "FACTORS" "[I" (.ref (G.2.2.2 0)) (dk_A G) U H ∧ va_T .int (G.2.2.2 0) 3 (fun j => .int (dk_fac j)) (dk_A G) U H) ∧
  (va_Z "java/util/ArrayList" "DEFAULTCAPACITY_EMPTY_ELEMENTDATA" "[Ljava/lang/Object;" (.ref (G.2.2.2 1)) (dk_A G) U H ∧ va_T (.object "java/lang/Object") (G.2.2.2 1) 0 (fun _ => .null) (dk_A G) U H) ∧
  dk_LS "UNASSIGNED_STACK" "[Ljava/lang/StackTraceElement;" (dk_A G) U H ∧ dk_LS "SUPPRESSED_SENTINEL" "Ljava/util/List;" (dk_A G) U H ∧
  (∀ q ∈ dk_str, ∃ a, vk_R "RunKeeper" q.1 q.2 a U) ∧ (va_Nc "java/lang/IndexOutOfBoundsException" "java/lang/IllegalArgumentException" U ∧ va_Nc "java/lang/IndexOutOfBoundsException" "java/lang/IllegalStateException" U ∧ va_Nc "java/lang/UnsupportedOperationException" "java/lang/IllegalArgumentException" U) ∧ va_Mi "[Ljava/lang/Object;" (G.2.2.2 2) U ∧ va_AO dk_nE U ∧ va_AO dk_nL U ∧ va_AO dk_nO U
theorem dk_Z.moved {G : dk_G} {s U : State} {locs : List Loc} (hS : va_S (dk_A G) s.heap U.heap locs) (hW : s.WarmedH U.vm) (h : dk_Z G s s.heap) : dk_Z G U U.heap := by
  obtain ⟨⟨h1, h2⟩, ⟨h3, h4⟩, h5, h6, h7, ⟨h8, h9, h10⟩, h11, h12, h13, h14⟩ := h
  exact ⟨⟨(h1.kept hS.2.1).moved hW.alike, (h2.kept hS.2.1).moved hW.alike⟩, ⟨(h3.kept hS.2.1).moved hW.alike, (h4.kept hS.2.1).moved hW.alike⟩, (h5.kept hS.2.1).moved hW.alike, (h6.kept hS.2.1).moved hW.alike, fun q hq => (h7 q hq).imp fun a ha => ha.warm hW, ⟨h8.moved hW.alike, h9.moved hW.alike, h10.moved hW.alike⟩, h11.moved hW.alike, h12.moved hW.alike, h13.moved hW.alike, h14.moved hW.alike⟩
theorem dk_Z.same {G : dk_G} {s U : State} (hv : U.vm = s.vm) (hh : U.heap = s.heap) (h : dk_Z G s s.heap) : dk_Z G U U.heap := by
  have ha : s.vm.Alike U.vm := by rw [hv]; exact Vm.Alike.refl s.vm
  obtain ⟨⟨h1, h2⟩, ⟨h3, h4⟩, h5, h6, h7, ⟨h8, h9, h10⟩, h11, h12, h13, h14⟩ := h
  rw [hh]
  exact ⟨⟨h1.moved ha, h2.moved ha⟩, ⟨h3.moved ha, h4.moved ha⟩, h5.moved ha, h6.moved ha, fun q hq => (h7 q hq).imp fun a hq => hq.same hv, ⟨h8.moved ha, h9.moved ha, h10.moved ha⟩, h11.moved ha, h12.moved ha, h13.moved ha, h14.moved ha⟩
end
section
/-! A SIMPLE HEAP: all cells that are made since the law began, as a function from addresses to a tag (ours, to tell cells apart) and a cell of the kit's worlds. -/
abbrev dk_H : Type := Nat → Option (Nat × va_E)
def dk_P (G : dk_G) (w : dk_H) (H : Heap) : Prop := ∀ (a t : Nat) (e : va_E), w a = some (t, e) → G.2.2.1 ≤ a ∧ va_at G.1 vwCl (a, e) H
theorem dk_us {α : Type} {w : Nat → α} {a : Nat} {v : α} : va_up w a v a = v := by simp [va_up]
theorem dk_un {α : Type} {w : Nat → α} {a b : Nat} {v : α} (h : b ≠ a) : va_up w a v b = w b := by simp [va_up, h]
/-- cells of two tags are two cells -/
theorem dk_ne {w : dk_H} {a b t u : Nat} {e f : va_E} (ha : w a = some (t, e)) (hb : w b = some (u, f)) (h : t ≠ u) : a ≠ b := by
  intro z
  subst z
  rw [ha] at hb
  cases hb
  exact h rfl
theorem dk_nn {w : dk_H} {a b : Nat} {x : Nat × va_E} (ha : w a = some x) (hb : w b = none) : a ≠ b := by
  intro z
  subst z
  rw [ha] at hb
  cases hb
theorem dk_keep {w w1 : dk_H} {a b t u : Nat} {e f : va_E} {x : Option (Nat × va_E)} (hw : w1 = va_up w a x) (ha : w a = some (t, e)) (hb : w b = some (u, f)) (h : u ≠ t) : w1 b = some (u, f) := by
  rw [hw, dk_un (dk_ne hb ha h)]
  exact hb
theorem dk_keepN {w w1 : dk_H} {a b u : Nat} {f : va_E} {x : Option (Nat × va_E)} (hw : w1 = va_up w a x) (ha : w a = none) (hb : w b = some (u, f)) : w1 b = some (u, f) := by
  rw [hw, dk_un (dk_nn hb ha)]
  exact hb
theorem dk_here {w w1 : dk_H} {a : Nat} {x : Option (Nat × va_E)} (hw : w1 = va_up w a x) : w1 a = x := by rw [hw, dk_us]
theorem dk_P.one {G : dk_G} {w : dk_H} {H : Heap} (hP : dk_P G w H) {a t : Nat} {e : va_E} (h : w a = some (t, e)) : va_P G.1 vwCl [(a, e)] H := by
  intro k q hk
  cases k with
  | zero =>
    cases hk
    exact (hP a t e h).2
  | succ k => simp at hk
theorem dk_P.lt {G : dk_G} {w : dk_H} {H : Heap} (hP : dk_P G w H) {a : Nat} {x : Nat × va_E} (h : w a = some x) : a < H.size := by
  obtain ⟨t, e⟩ := x
  exact (hP a t e h).2.lt
theorem dk_P.fresh {G : dk_G} {w : dk_H} {H : Heap} (hP : dk_P G w H) {a : Nat} (h : H.size ≤ a) : w a = none := by
  cases hw : w a with
  | none => rfl
  | some x => exact absurd (hP.lt hw) (by omega)
theorem dk_P.set {G : dk_G} {w : dk_H} {H H1 : Heap} (hP : dk_P G w H) {a t : Nat} {e : va_E} (hge : G.2.2.1 ≤ a) (he : va_at G.1 vwCl (a, e) H1) (oq : ∀ q : Nat, q ≠ a → H1[q]? = H[q]?) : dk_P G (va_up w a (some (t, e))) H1 := by
  intro b u f hb
  by_cases hba : b = a
  · subst hba
    rw [dk_us] at hb
    cases hb
    exact ⟨hge, he⟩
  · rw [dk_un hba] at hb
    obtain ⟨h1, h2⟩ := hP b u f hb
    exact ⟨h1, h2.kept (oq b hba)⟩
theorem dk_P.put {G : dk_G} {w : dk_H} {H H1 : Heap} (hP : dk_P G w H) {a t : Nat} {e : va_E} (hz : a = H.size) (hge : G.2.2.1 ≤ a) (he : va_at G.1 vwCl (a, e) H1) (oq : ∀ q : Nat, q < H.size → H1[q]? = H[q]?) : dk_P G (va_up w a (some (t, e))) H1 := by
  intro b u f hb
  by_cases hba : b = a
  · subst hba
    rw [dk_us] at hb
    cases hb
    exact ⟨hge, he⟩
  · rw [dk_un hba] at hb
    obtain ⟨h1, h2⟩ := hP b u f hb
    exact ⟨h1, h2.kept (oq b h2.lt)⟩
/-- the tag of a cell changed (ours to choose) -/
theorem dk_P.tag {G : dk_G} {w : dk_H} {H : Heap} (hP : dk_P G w H) {a t u : Nat} {e : va_E} (h : w a = some (t, e)) : dk_P G (va_up w a (some (u, e))) H := hP.set (hP a t e h).1 (hP a t e h).2 (fun _ _ => rfl)
/-! cells -/
abbrev dk_ci (G : dk_G) (n : Nat) (f : Nat → Int32) : va_E := .inl (G.2.1 0, n, .inl f)
abbrev dk_cl (G : dk_G) (n : Nat) (f : Nat → Int64) : va_E := .inl (G.2.1 1, n, .inr (.inl f))
abbrev dk_cz (G : dk_G) (n : Nat) (f : Nat → Int32) : va_E := .inl (G.2.1 2, n, .inl f)
/-- an array of references: of the k-th array class -/
abbrev dk_ca (G : dk_G) (k n : Nat) (f : Nat → Option Nat) : va_E := .inl (G.2.1 k, n, .inr (.inr (.inr (.inr f))))
/-- the array classes that the system makes; which class is which number: see dk_K -/
def dk_tys (G : dk_G) : List (ClassId × FieldType) := [(G.2.1 0, .int), (G.2.1 1, .long), (G.2.1 2, .boolean), (G.2.1 3, .object dk_nE), (G.2.1 4, .object dk_nL), (G.2.1 5, .object dk_nO)]
abbrev dk_K (G : dk_G) (U : State) : Prop := va_K G.1 vwCl (dk_tys G) U
abbrev dk_S (G : dk_G) (H0 H : Heap) (locs : List Loc) : Prop := va_S (dk_A G) H0 H locs
section DKR
variable {p : Program} {l : Launch} {e : Env} {R : Room} {s : State} {m : MethodId} {args : Array Value} {below : List Frame} {meth : Method} {c : Code} {H : Heap} {locs : List Loc} {cells slots : Nat} {Q : State → Prop}
variable {cc : ByteArray} {pc : Nat} {ls : Array Slot} {rest : List Value} {G : dk_G} {w : dk_H} {a t : Nat} {H0 : Heap}
theorem dk_get (hexec : p.tables.exec = Jvm.exec) (hb : c.code = cc) {own ref C : String} {T : u_T} {N ci index : Nat} {Ts : List Cond} (hts : ∀ w ∈ Ts, w.before args s = true) (hin : ∀ w ∈ u_ws C T N, w ∈ Ts) (hown : s.vm.findClass own = some m.cls) (hK : dk_K G s) (hP : dk_P G w H) {fs : List Value} (he : w a = some (t, .inr (ci, fs))) (hc : vwCl[ci]? = some (C, T, N)) (k : Nat) (hk : k < N) (hlink : (Cond.fieldLink own index ref (T k).2.1 (T k).2.2.1).before args s = true) (hsame : ∀ x, s.fieldFound? (T k).1 (T k).2.1 (T k).2.2.1 = some x → s.fieldFound? ref (T k).2.1 (T k).2.2.1 = some x) {v : Value} (hv : fs[k]? = some v) (hdg : decode cc pc = .ok (.getfield index, 3))
    (kk : W p l e R s m args below meth c H locs cells slots Q (F0 m (pc + 3) ls (v :: rest))) : W p l e R s m args below meth c H locs cells slots Q (F0 m pc ls (.ref a :: rest)) :=
  va_get hexec hb hts hin hown hK (hP.one he) 0 rfl hc k hk hlink hsame hv hdg kk
theorem dk_getN (hexec : p.tables.exec = Jvm.exec) (hb : c.code = cc) {own ref C host : String} {T : u_T} {N ci index : Nat} {Ts : List Cond} (hts : ∀ w ∈ Ts, w.before args s = true) (hin : ∀ w ∈ u_ws C T N, w ∈ Ts) (hown : s.vm.findClass own = some m.cls) (hK : dk_K G s) (hP : dk_P G w H) {fs : List Value} (he : w a = some (t, .inr (ci, fs))) (hc : vwCl[ci]? = some (C, T, N)) (k : Nat) (hk : k < N) (hlink : (Cond.fieldLinkNest own index ref (T k).2.1 (T k).2.2.1 host).before args s = true) (hsame : ∀ x, s.fieldFound? (T k).1 (T k).2.1 (T k).2.2.1 = some x → s.fieldFound? ref (T k).2.1 (T k).2.2.1 = some x) {v : Value} (hv : fs[k]? = some v) (hdg : decode cc pc = .ok (.getfield index, 3))
    (kk : W p l e R s m args below meth c H locs cells slots Q (F0 m (pc + 3) ls (v :: rest))) : W p l e R s m args below meth c H locs cells slots Q (F0 m pc ls (.ref a :: rest)) :=
  va_getN hexec hb hts hin hown hK (hP.one he) 0 rfl hc k hk hlink hsame hv hdg kk
theorem dk_put (hexec : p.tables.exec = Jvm.exec) (hb : c.code = cc) {own ref C : String} {T : u_T} {N ci index : Nat} {Ts : List Cond} (hts : ∀ w ∈ Ts, w.before args s = true) (hin : ∀ w ∈ u_ws C T N, w ∈ Ts) (ty0 : Nat → FieldType) (hty : ∀ k, k < N → parseFieldDescriptor (T k).2.2.1 = some (ty0 k)) (hnm : ∀ a, a < N → ∀ b, b < N → a ≠ b → (T a).2.1 ≠ (T b).2.1) (hown : s.vm.findClass own = some m.cls) (hK : dk_K G s) (hP : dk_P G w H) (hS0 : dk_S G H0 H locs) {fs : List Value} (he : w a = some (t, .inr (ci, fs))) (hc : vwCl[ci]? = some (C, T, N)) (k : Nat) (hk : k < N) (hlink : (Cond.fieldLink own index ref (T k).2.1 (T k).2.2.1).before args s = true) (hsame : ∀ x, s.fieldFound? (T k).1 (T k).2.1 (T k).2.2.1 = some x → s.fieldFound? ref (T k).2.1 (T k).2.2.1 = some x) (hfin : (T k).2.2.2 = false) {ty : FieldType} {v : Value} (hd : parseFieldDescriptor (T k).2.2.1 = some ty) (hn : narrow ty v = v) (hfit : fits ty v = true) (hl : k < fs.length)
    (hdg : decode cc pc = .ok (.putfield index, 3)) (kk : ∀ (H1 : Heap) (locs1 : List Loc) (w1 : dk_H), w1 = va_up w a (some (t, .inr (ci, fs.set k v))) → dk_P G w1 H1 → dk_S G H0 H1 locs1 → W p l e R s m args below meth c H1 locs1 cells slots Q (F0 m (pc + 3) ls rest)) : W p l e R s m args below meth c H locs cells slots Q (F0 m pc ls (v :: .ref a :: rest)) := by
  have hap := va_apart (own := own) hts hin ty0 hty hnm hK hc
  obtain ⟨hge, r, h1, cell, q1, q2, q3, q4⟩ := hP a t _ he
  have hr : r = (C, T, N) := Option.some.inj (h1.symm.trans hc)
  subst hr
  obtain ⟨hS, hfc, kC, hkC, hkind⟩ := hK.1 ci _ hc
  obtain ⟨cf, kf, fi, f, hi, hsl⟩ := hS k hk
  have hlay := hts _ (hin _ (u_in_lay hk))
  unfold u_lay at hlay
  rw [if_neg (by rw [hfin]; decide)] at hlay
  have hst := (u_facts hfc hkC (u_lays hts hin hk) hi).1
  have h6 := u_store hfc hkC hkind hlay hi hd hn hfit
  refine W.putK hexec hb (f := f) ⟨hown, hlink, ⟨_, _, _, hsame _ hi⟩, hst⟩ (by rw [q2]; exact h6) q1 q3 (by rw [hsl]; exact k2_hasslot (q4 k hk)) rfl rfl hdg fun H' e1 e2 e3 => ?_
  rw [hsl] at e1 ⊢
  exact kk H' _ _ rfl (hP.set hge ⟨_, hc, t_OB.to (V := updV (vp_V fs) k v) ⟨_, e1, q2, q3, t_set q4 hap hk v⟩ (fun j _ => vp_updV_set hl v j)⟩ e3) (hS0.put e2 e3 hge)
theorem dk_putF (hexec : p.tables.exec = Jvm.exec) (hb : c.code = cc) {own ref C : String} {T : u_T} {N ci index : Nat} {Ts : List Cond} (hts : ∀ w ∈ Ts, w.before args s = true) (hin : ∀ w ∈ u_ws C T N, w ∈ Ts) (ty0 : Nat → FieldType) (hty : ∀ k, k < N → parseFieldDescriptor (T k).2.2.1 = some (ty0 k)) (hnm : ∀ a, a < N → ∀ b, b < N → a ≠ b → (T a).2.1 ≠ (T b).2.1) (hown : s.vm.findClass own = some m.cls) (hK : dk_K G s) (hP : dk_P G w H) (hS0 : dk_S G H0 H locs) {fs : List Value} (he : w a = some (t, .inr (ci, fs))) (hc : vwCl[ci]? = some (C, T, N)) (k : Nat) (hk : k < N) (hlink : (Cond.fieldLink own index ref (T k).2.1 (T k).2.2.1).before args s = true) (hsame : ∀ x, s.fieldFound? (T k).1 (T k).2.1 (T k).2.2.1 = some x → s.fieldFound? ref (T k).2.1 (T k).2.2.1 = some x) (hfin : (T k).2.2.2 = true) (hin2 : meth.name = "<init>") (hdecl : (T k).1 = own) {ty : FieldType} {v : Value} (hd : parseFieldDescriptor (T k).2.2.1 = some ty) (hn : narrow ty v = v) (hfit : fits ty v = true) (hl : k < fs.length)
    (hdg : decode cc pc = .ok (.putfield index, 3)) (kk : ∀ (H1 : Heap) (locs1 : List Loc) (w1 : dk_H), w1 = va_up w a (some (t, .inr (ci, fs.set k v))) → dk_P G w1 H1 → dk_S G H0 H1 locs1 → W p l e R s m args below meth c H1 locs1 cells slots Q (F0 m (pc + 3) ls rest)) : W p l e R s m args below meth c H locs cells slots Q (F0 m pc ls (v :: .ref a :: rest)) := by
  have hap := va_apart (own := own) hts hin ty0 hty hnm hK hc
  obtain ⟨hge, r, h1, cell, q1, q2, q3, q4⟩ := hP a t _ he
  have hr : r = (C, T, N) := Option.some.inj (h1.symm.trans hc)
  subst hr
  obtain ⟨hS, hfc, kC, hkC, hkind⟩ := hK.1 ci _ hc
  obtain ⟨cf, kf, fi, f, hi, hsl⟩ := hS k hk
  have hlay := hts _ (hin _ (u_in_lay hk))
  unfold u_lay at hlay
  rw [if_pos hfin] at hlay
  have hst := (u_facts hfc hkC (u_lays hts hin hk) hi).1
  have hcf : m.cls = cf := by
    obtain ⟨_, _, c', _, _, _, -, -, hf', -, -, -, hown2, -⟩ := Cond.laysFinal_spec hlay
    have e1 : c' = cf := by have := hi.symm.trans hf'; simp at this; exact this.1.symm
    rw [hdecl] at hown2
    rw [← e1]; exact Option.some.inj (hown.symm.trans hown2)
  have h6 := u_fits hfc hkC hkind (Or.inr hlay) hi hd hn hfit
  refine W.putFinK hexec hb hown hlink (hsame _ hi) hst hcf hin2 (by rw [q2]; exact h6) q1 q3 (by rw [hsl]; exact k2_hasslot (q4 k hk)) rfl rfl hdg fun H' e1 e2 e3 => ?_
  rw [hsl] at e1 ⊢
  exact kk H' _ _ rfl (hP.set hge ⟨_, hc, t_OB.to (V := updV (vp_V fs) k v) ⟨_, e1, q2, q3, t_set q4 hap hk v⟩ (fun j _ => vp_updV_set hl v j)⟩ e3) (hS0.put e2 e3 hge)
theorem dk_in {i : Int32} {j n : Nat} (hi : i = nI j) (hj : j < n) (hn : n < 2 ^ 31) : vp_in i n := by rw [hi]; exact vp_in_nI hj hn
theorem dk_iald (hexec : p.tables.exec = Jvm.exec) (hb : c.code = cc) (hK : dk_K G s) (hP : dk_P G w H) {n : Nat} {f : Nat → Int32} (ha : w a = some (t, dk_ci G n f)) {i : Int32} (j : Nat) (hi : i = nI j) (hj : j < n) (hn : n < 2 ^ 31) (hdg : decode cc pc = .ok (.iaload, 1))
    (kk : W p l e R s m args below meth c H locs cells slots Q (F0 m (pc + 1) ls (.int (f j) :: rest))) : W p l e R s m args below meth c H locs cells slots Q (F0 m pc ls (.int i :: .ref a :: rest)) := by
  have ec : i.toNatClampNeg = j := by rw [hi]; exact nI_clamp (by omega)
  exact va_iald hexec hb hK (hP.one ha) 0 0 rfl rfl (dk_in hi hj hn) hdg (by rw [ec]; exact kk)
theorem dk_zald (hexec : p.tables.exec = Jvm.exec) (hb : c.code = cc) (hK : dk_K G s) (hP : dk_P G w H) {n : Nat} {f : Nat → Int32} (ha : w a = some (t, dk_cz G n f)) {i : Int32} (j : Nat) (hi : i = nI j) (hj : j < n) (hn : n < 2 ^ 31) (hdg : decode cc pc = .ok (.baload, 1))
    (kk : W p l e R s m args below meth c H locs cells slots Q (F0 m (pc + 1) ls (.int (f j) :: rest))) : W p l e R s m args below meth c H locs cells slots Q (F0 m pc ls (.int i :: .ref a :: rest)) := by
  have ec : i.toNatClampNeg = j := by rw [hi]; exact nI_clamp (by omega)
  exact va_zald hexec hb hK (hP.one ha) 0 2 rfl rfl (dk_in hi hj hn) hdg (by rw [ec]; exact kk)
theorem dk_lald (hexec : p.tables.exec = Jvm.exec) (hb : c.code = cc) (hK : dk_K G s) (hP : dk_P G w H) {n : Nat} {f : Nat → Int64} (ha : w a = some (t, dk_cl G n f)) {i : Int32} (j : Nat) (hi : i = nI j) (hj : j < n) (hn : n < 2 ^ 31) (hdg : decode cc pc = .ok (.laload, 1))
    (kk : W p l e R s m args below meth c H locs cells slots Q (F0 m (pc + 1) ls (.long (f j) :: rest))) : W p l e R s m args below meth c H locs cells slots Q (F0 m pc ls (.int i :: .ref a :: rest)) := by
  have ec : i.toNatClampNeg = j := by rw [hi]; exact nI_clamp (by omega)
  exact va_lald hexec hb hK (hP.one ha) 0 1 rfl rfl (dk_in hi hj hn) hdg (by rw [ec]; exact kk)
theorem dk_aald (hexec : p.tables.exec = Jvm.exec) (hb : c.code = cc) (hK : dk_K G s) (hP : dk_P G w H) {ka n : Nat} {C : String} {f : Nat → Option Nat} (ha : w a = some (t, dk_ca G ka n f)) (ht : (dk_tys G)[ka]? = some (G.2.1 ka, .object C)) {i : Int32} (j : Nat) {r : Option Nat} (hi : i = nI j) (hj : j < n) (hn : n < 2 ^ 31) (hr : f j = r) (hdg : decode cc pc = .ok (.aaload, 1))
    (kk : W p l e R s m args below meth c H locs cells slots Q (F0 m (pc + 1) ls (va_rf r :: rest))) : W p l e R s m args below meth c H locs cells slots Q (F0 m pc ls (.int i :: .ref a :: rest)) := by
  have ec : i.toNatClampNeg = j := by rw [hi]; exact nI_clamp (by omega)
  subst hr
  exact va_aldq hexec hb hK (hP.one ha) 0 ka rfl ht (dk_in hi hj hn) hdg (by rw [ec]; exact kk)
theorem dk_alen (hexec : p.tables.exec = Jvm.exec) (hb : c.code = cc) (hK : dk_K G s) (hP : dk_P G w H) {cA : ClassId} {x : vp_A} (ha : w a = some (t, .inl (cA, x))) (t0 : Nat) {ty : FieldType} (ht : (dk_tys G)[t0]? = some (cA, ty)) (hdg : decode cc pc = .ok (.arraylength, 1))
    (kk : W p l e R s m args below meth c H locs cells slots Q (F0 m (pc + 1) ls (.int (nI x.1) :: rest))) : W p l e R s m args below meth c H locs cells slots Q (F0 m pc ls (.ref a :: rest)) :=
  va_alen hexec hb hK (hP.one ha) 0 t0 rfl ht rfl hdg kk
theorem dk_iast (hexec : p.tables.exec = Jvm.exec) (hb : c.code = cc) (hK : dk_K G s) (hP : dk_P G w H) (hS : dk_S G H0 H locs) {n : Nat} {f : Nat → Int32} (ha : w a = some (t, dk_ci G n f)) {i x : Int32} (j : Nat) (hi : i = nI j) (hj : j < n) (hn : n < 2 ^ 31) (hdg : decode cc pc = .ok (.iastore, 1))
    (kk : ∀ (H1 : Heap) (locs1 : List Loc) (w1 : dk_H), w1 = va_up w a (some (t, dk_ci G n (upd f j x))) → dk_P G w1 H1 → dk_S G H0 H1 locs1 → W p l e R s m args below meth c H1 locs1 cells slots Q (F0 m (pc + 1) ls rest)) : W p l e R s m args below meth c H locs cells slots Q (F0 m pc ls (.int x :: .int i :: .ref a :: rest)) := by
  have ec : i.toNatClampNeg = j := by rw [hi]; exact nI_clamp (by omega)
  have hge := (hP a t _ ha).1
  refine W.iast hexec hb (hP a t _ ha).2 ((hK.2 0 _ rfl).1 n (fun j => .int (f j))) (fun q => by cases q) (by show ¬ (i < 0 ∨ (arrV _ _ _).slots.size ≤ _); rw [arrV_size]; exact dk_in hi hj hn) rfl rfl hdg fun H1 e z oq => ?_
  refine kk H1 _ _ rfl (hP.set hge ?_ oq) (hS.put z oq hge)
  show H1[a]? = some (vp_cell _ _)
  rw [e]
  rw [vp_cell_i, vp_cell_i, arrV_store]
  congr 2
  funext q
  rw [ec]
  by_cases hq : q = j
  · subst hq
    simp [updV, upd]
  · simp [updV, upd, hq]
theorem dk_zast (hexec : p.tables.exec = Jvm.exec) (hb : c.code = cc) (hK : dk_K G s) (hP : dk_P G w H) (hS : dk_S G H0 H locs) {n : Nat} {f : Nat → Int32} (ha : w a = some (t, dk_cz G n f)) {i x : Int32} (j : Nat) (hi : i = nI j) (hj : j < n) (hn : n < 2 ^ 31) (hx : vp_nar .boolean x = x) (hdg : decode cc pc = .ok (.bastore, 1))
    (kk : ∀ (H1 : Heap) (locs1 : List Loc) (w1 : dk_H), w1 = va_up w a (some (t, dk_cz G n (upd f j x))) → dk_P G w1 H1 → dk_S G H0 H1 locs1 → W p l e R s m args below meth c H1 locs1 cells slots Q (F0 m (pc + 1) ls rest)) : W p l e R s m args below meth c H locs cells slots Q (F0 m pc ls (.int x :: .int i :: .ref a :: rest)) := by
  have ec : i.toNatClampNeg = j := by rw [hi]; exact nI_clamp (by omega)
  have hge := (hP a t _ ha).1
  refine W.zast hexec hb (hP a t _ ha).2 ((hK.2 2 _ rfl).1 n (fun j => .int (f j))) (fun q => by cases q) (by show ¬ (i < 0 ∨ (arrV _ _ _).slots.size ≤ _); rw [arrV_size]; exact dk_in hi hj hn) rfl rfl hdg fun H1 e z oq => ?_
  refine kk H1 _ _ rfl (hP.set hge ?_ oq) (hS.put z oq hge)
  show H1[a]? = some (vp_cell _ _)
  rw [e]
  rw [vp_cell_i, vp_cell_i, arrV_store]
  congr 2
  funext q
  rw [ec]
  by_cases hq : q = j
  · subst hq
    have e2 : narrow .boolean (.int x) = .int x := by
      have h := hx
      simp only [vp_nar, narrow] at h ⊢
      first | (rw [h]) | (simp at h ⊢; exact h) | (simpa using h)
    simp [updV, upd, e2]
    try (first | exact e2 | rfl)
  · simp [updV, upd, hq]
theorem dk_last (hexec : p.tables.exec = Jvm.exec) (hb : c.code = cc) (hK : dk_K G s) (hP : dk_P G w H) (hS : dk_S G H0 H locs) {n : Nat} {f : Nat → Int64} (ha : w a = some (t, dk_cl G n f)) {i : Int32} {x : Int64} (j : Nat) (hi : i = nI j) (hj : j < n) (hn : n < 2 ^ 31) (hdg : decode cc pc = .ok (.lastore, 1))
    (kk : ∀ (H1 : Heap) (locs1 : List Loc) (w1 : dk_H), w1 = va_up w a (some (t, dk_cl G n (vp_updL f j x))) → dk_P G w1 H1 → dk_S G H0 H1 locs1 → W p l e R s m args below meth c H1 locs1 cells slots Q (F0 m (pc + 1) ls rest)) : W p l e R s m args below meth c H locs cells slots Q (F0 m pc ls (.long x :: .int i :: .ref a :: rest)) := by
  have ec : i.toNatClampNeg = j := by rw [hi]; exact nI_clamp (by omega)
  have hge := (hP a t _ ha).1
  refine W.last hexec hb (hP a t _ ha).2 ((hK.2 1 _ rfl).1 n (fun j => .long (f j))) (fun q => by cases q) (by show ¬ (i < 0 ∨ (arrV _ _ _).slots.size ≤ _); rw [arrV_size]; exact dk_in hi hj hn) rfl rfl hdg fun H1 e z oq => ?_
  refine kk H1 _ _ rfl (hP.set hge ?_ oq) (hS.put z oq hge)
  show H1[a]? = some (vp_cell _ _)
  rw [e]
  rw [vp_cell_l, vp_cell_l, arrV_store]
  congr 2
  funext q
  rw [ec]
  by_cases hq : q = j
  · subst hq
    simp [updV, vp_updL]
  · simp [updV, vp_updL, hq]
/-- a reference into an array of its own class -/
theorem dk_aast (hexec : p.tables.exec = Jvm.exec) (hb : c.code = cc) (hK : dk_K G s) (hP : dk_P G w H) (hS : dk_S G H0 H locs) {ka n v ci tv : Nat} {r : vw_C} {vs : List Value} {f : Nat → Option Nat} (ha : w a = some (t, dk_ca G ka n f)) (ht : (dk_tys G)[ka]? = some (G.2.1 ka, .object r.1)) (hv : w v = some (tv, .inr (ci, vs))) (hc : vwCl[ci]? = some r) {i : Int32} (j : Nat) (hi : i = nI j) (hj : j < n) (hn : n < 2 ^ 31) (hdg : decode cc pc = .ok (.aastore, 1))
    (kk : ∀ (H1 : Heap) (locs1 : List Loc) (w1 : dk_H), w1 = va_up w a (some (t, dk_ca G ka n (va_up f j (some v)))) → dk_P G w1 H1 → dk_S G H0 H1 locs1 → W p l e R s m args below meth c H1 locs1 cells slots Q (F0 m (pc + 1) ls rest)) : W p l e R s m args below meth c H locs cells slots Q (F0 m pc ls (.ref v :: .int i :: .ref a :: rest)) := by
  have ec : i.toNatClampNeg = j := by rw [hi]; exact nI_clamp (by omega)
  have hge := (hP a t _ ha).1
  have hin := dk_in hi hj hn
  have hlt : i.toNatClampNeg < n := Nat.not_le.mp fun q => hin (Or.inr q)
  have h0 : ¬ i < 0 := fun q => hin (Or.inl q)
  obtain ⟨-, r', hr', cellV, g1, g2, g3, -⟩ := hP v tv _ hv
  have hcls := (hK.1 ci r hc).2
  obtain ⟨kA, comp, k1, k2, k3, -⟩ := (hK.2 ka _ ht).2
  have hcomp : comp = G.1.1 ci := Option.some.inj (k3.symm.trans hcls.1)
  subst hcomp
  obtain ⟨kC, hkC, -⟩ := hcls.2
  refine W.aast hexec hb (hP a t _ ha).2 (fun q h => by cases h) (fun h => by cases h) k1 k2 rfl hkC ⟨h0, by show _ < (arrV _ _ _).slots.size; rw [arrV_size]; exact hlt⟩ g1 (fun q h => by rw [g3] at h; cases h) (by rw [g2]; exact hkC) (by rw [g2]; exact va_assign hcls) rfl rfl hdg fun H1 e z oq => ?_
  refine kk H1 _ _ rfl (hP.set hge ?_ oq) (hS.put z oq hge)
  show H1[a]? = some (vp_cell _ _)
  rw [e]
  rw [vp_cell_q, vp_cell_q, arrV_store]
  congr 2
  funext q
  rw [ec]
  by_cases hq : q = j
  · subst hq
    simp [updV, va_up, va_rf]
  · simp [updV, va_up, hq]
theorem dk_aastN (hexec : p.tables.exec = Jvm.exec) (hb : c.code = cc) (hK : dk_K G s) (hP : dk_P G w H) (hS : dk_S G H0 H locs) {ka n : Nat} {C : String} {f : Nat → Option Nat} (ha : w a = some (t, dk_ca G ka n f)) (ht : (dk_tys G)[ka]? = some (G.2.1 ka, .object C)) {i : Int32} (j : Nat) (hi : i = nI j) (hj : j < n) (hn : n < 2 ^ 31) (hdg : decode cc pc = .ok (.aastore, 1))
    (kk : ∀ (H1 : Heap) (locs1 : List Loc) (w1 : dk_H), w1 = va_up w a (some (t, dk_ca G ka n (va_up f j none))) → dk_P G w1 H1 → dk_S G H0 H1 locs1 → W p l e R s m args below meth c H1 locs1 cells slots Q (F0 m (pc + 1) ls rest)) : W p l e R s m args below meth c H locs cells slots Q (F0 m pc ls (.null :: .int i :: .ref a :: rest)) := by
  have ec : i.toNatClampNeg = j := by rw [hi]; exact nI_clamp (by omega)
  have hge := (hP a t _ ha).1
  refine va_WaastN (C := C) hexec hb (hP a t _ ha).2 ((hK.2 ka _ ht).1 n (fun j => va_rf (f j))) (fun h => by cases h) (by show ¬ (i < 0 ∨ (arrV _ _ _).slots.size ≤ _); rw [arrV_size]; exact dk_in hi hj hn) rfl rfl hdg fun H1 e z oq => ?_
  refine kk H1 _ _ rfl (hP.set hge ?_ oq) (hS.put z oq hge)
  show H1[a]? = some (vp_cell _ _)
  rw [e]
  rw [vp_cell_q, vp_cell_q, arrV_store]
  congr 2
  funext q
  rw [ec]
  by_cases hq : q = j
  · subst hq
    simp [updV, va_up, va_rf]
  · simp [updV, va_up, hq]
theorem dk_S.push {G : dk_G} {H0 H H1 : Heap} {locs : List Loc} (hS : dk_S G H0 H locs) (z1 : H1.size = H.size + 1) (o1 : ∀ q : Nat, q < H.size → H1[q]? = H[q]?) : dk_S G H0 H1 locs :=
  ⟨Nat.le_trans hS.1 (by omega), fun x h1 h2 => (o1 x (Nat.lt_of_lt_of_le h1 hS.1)).trans (hS.2.1 x h1 h2), hS.2.2⟩
/-- a new object; its tag is ours to choose -/
theorem dk_new {c0 : Code} (t : Nat) (hexec : p.tables.exec = Jvm.exec) (hb : c0.code = cc) {own C : String} {T : u_T} {N ci index : Nat} {Ts : List Cond} (hts : ∀ w ∈ Ts, w.before args s = true) (hin : ∀ w ∈ u_ws C T N, w ∈ Ts) (ty : Nat → FieldType) (hty : ∀ k, k < N → parseFieldDescriptor (T k).2.2.1 = some (ty k)) (hown : s.vm.findClass own = some m.cls) (hcl : (Cond.classLink own index C).before args s = true) (hinst : (Cond.instantiable C N).before args s = true) (hini : (Cond.initialized C).before args s = true)
    (hK : dk_K G s) (hP : dk_P G w H) (hS : dk_S G H0 H locs) (hA : G.2.2.1 ≤ H0.size) (hc : vwCl[ci]? = some (C, T, N)) {fs : List Value} (hfs : ∀ j, j < N → defaultValue (ty j) = vp_V fs j) (hcells : cells + 1 ≤ R.cells) (hslots : slots + N ≤ R.slots) (hdg : decode cc pc = .ok (.new index, 3))
    (kk : ∀ (q : Nat) (H1 : Heap) (w1 : dk_H), w q = none → w1 = va_up w q (some (t, .inr (ci, fs))) → dk_P G w1 H1 → dk_S G H0 H1 locs →
      W p l e R s m args below meth c0 H1 locs (cells + 1) (slots + N) Q (F0 m (pc + 3) ls (.ref q :: rest))) : W p l e R s m args below meth c0 H locs cells slots Q (F0 m pc ls rest) := by
  have hKn := hK.1 ci _ hc
  refine W.newcK hexec hb hown hcl hinst hini rfl hdg hcells hslots hKn.2.1 rfl fun H1 kC hkC e1 z1 o1 => ?_
  exact kk H.size H1 _ (hP.fresh (Nat.le_refl _)) rfl (hP.put rfl (Nat.le_trans hA hS.1) ⟨_, hc, (u_born ty hts hin hKn hkC e1 hty).to hfs⟩ o1) (dk_S.push hS z1 o1)
theorem dk_newa (t t0 : Nat) (hexec : p.tables.exec = Jvm.exec) (hb : c.code = cc) {atype : ArrayType} (harr : (Cond.arrayClass (newarray.typeOf atype)).before args s = true) {ty : FieldType} (hty : newarray.typeOf atype = ty) (hK : dk_K G s) (hP : dk_P G w H) (hS : dk_S G H0 H locs) (hA : G.2.2.1 ≤ H0.size)
    (ht : (dk_tys G)[t0]? = some (G.2.1 t0, ty)) (hprim : ∀ U cA, va_RA U cA ty → U.vm.findClass ("[" ++ ty.toString) = some cA)
    {n : Int32} {N' : Nat} {a0 : vp_A} (ha : ∀ cA : ClassId, vp_cell cA a0 = arrV cA N' (fun _ => defaultValue ty)) (hn : n = nI N') (hN : N' < 2 ^ 31) (hbytes : N' * componentBytes ty ≤ 536870912) (hcells : cells + 1 ≤ R.cells) (hslots : slots + N' ≤ R.slots) (hdg : decode cc pc = .ok (.newarray atype, 2))
    (kk : ∀ (q : Nat) (H1 : Heap) (w1 : dk_H), w q = none → w1 = va_up w q (some (t, .inl (G.2.1 t0, a0))) → dk_P G w1 H1 → dk_S G H0 H1 locs →
      W p l e R s m args below meth c H1 locs (cells + 1) (slots + N') Q (F0 m (pc + 2) ls (.ref q :: rest))) : W p l e R s m args below meth c H locs cells slots Q (F0 m pc ls (.int n :: rest)) := by
  subst hty
  refine va_newaK hexec hb harr rfl hdg rfl (by rw [hn]; exact nI_pos hN) (by rw [hn]; exact nI_clamp hN) hbytes hcells hslots rfl fun H1 cA e1 z1 o1 hAr hNm => ?_
  have hcA : cA = G.2.1 t0 := Option.some.inj (hNm.symm.trans (hprim s _ (hK.2 t0 _ ht).2))
  subst hcA
  refine kk H.size H1 _ (hP.fresh (Nat.le_refl _)) rfl (hP.put rfl (Nat.le_trans hA hS.1) ?_ o1) (dk_S.push hS z1 o1)
  show H1[H.size]? = some (vp_cell _ _)
  rw [ha]
  exact e1
theorem dk_newq (t ka : Nat) (hexec : p.tables.exec = Jvm.exec) (hb : c.code = cc) {own C : String} {index : Nat} (hown : s.vm.findClass own = some m.cls) (hclink : (Cond.classLink own index C).before args s = true) (hover : (Cond.arrayOver (.object C)).before args s = true) (hK : dk_K G s) (hP : dk_P G w H) (hS : dk_S G H0 H locs) (hA : G.2.2.1 ≤ H0.size)
    (ht : (dk_tys G)[ka]? = some (G.2.1 ka, .object C))
    {n : Int32} {N' : Nat} (hn : n = nI N') (hN : N' < 2 ^ 31) (hbytes : N' * 4 ≤ 536870912) (hcells : cells + 1 ≤ R.cells) (hslots : slots + N' ≤ R.slots) (hdg : decode cc pc = .ok (.anewarray index, 3))
    (kk : ∀ (q : Nat) (H1 : Heap) (w1 : dk_H), w q = none → w1 = va_up w q (some (t, dk_ca G ka N' (fun _ => none))) → dk_P G w1 H1 → dk_S G H0 H1 locs →
      W p l e R s m args below meth c H1 locs (cells + 1) (slots + N') Q (F0 m (pc + 3) ls (.ref q :: rest))) : W p l e R s m args below meth c H locs cells slots Q (F0 m pc ls (.int n :: rest)) := by
  have hn0 : ¬ n < 0 := by rw [hn]; exact nI_pos hN
  have ec : n.toNatClampNeg = N' := by rw [hn]; exact nI_clamp hN
  subst ec
  refine W.anew hexec hb hown hclink hover rfl hdg rfl hn0 hbytes hcells hslots fun cA kA comp f1 f2 f3 f4 => ?_
  generalize hH1 : H.push ({ cls := cA, slots := Array.replicate n.toNatClampNeg .null, vm := .none } : Cell) = H1
  have z1 : H1.size = H.size + 1 := by rw [← hH1, Array.size_push]
  have e1 : H1[H.size]? = some (arrV cA n.toNatClampNeg (fun _ => .null)) := by rw [← hH1, Array.getElem?_push_size, ← arrV_new]
  have o1 : ∀ q : Nat, q < H.size → H1[q]? = H[q]? := fun q hq => by rw [← hH1, Array.getElem?_push, if_neg (Nat.ne_of_lt hq)]
  obtain ⟨_, _, _, _, _, g4⟩ := (hK.2 ka _ ht).2
  have hcA : cA = G.2.1 ka := Option.some.inj (f1.symm.trans g4)
  subst hcA
  refine kk H.size H1 _ (hP.fresh (Nat.le_refl _)) rfl (hP.put rfl (Nat.le_trans hA hS.1) ?_ o1) (dk_S.push hS z1 o1)
  show H1[H.size]? = some (vp_cell _ _)
  rw [vp_cell_q]
  exact e1
end DKR
end
section
/-! CONTRACTS over the simple heap. dk_N: the nest mates' links; dk_Z: what lies below our cells and is read (statics). -/
def dk_E (G : dk_G) (U : State) : Prop := dk_K G U ∧ dk_N U ∧ dk_Z G U U.heap ∧ G.2.2.1 ≤ U.heap.size
def dk_W (G : dk_G) (w : dk_H) (U : State) : Prop := dk_E G U ∧ dk_P G w U.heap
theorem dk_E.moved {G : dk_G} {s U : State} {locs : List Loc} (h : dk_E G s) (hS : dk_S G s.heap U.heap locs) (hW : s.WarmedH U.vm) : dk_E G U :=
  ⟨va_K.moved hW.alike h.1, h.2.1.warm hW, dk_Z.moved hS hW h.2.2.1, Nat.le_trans h.2.2.2 hS.1⟩
theorem dk_blind {G : dk_G} {w : dk_H} {av : List Value} : FrameBlind (va_Pc av (dk_W G w)) := by
  intro a U g mk q
  obtain ⟨q0, ⟨q1, q2, q3, q4⟩, q5⟩ := q
  exact ⟨q0, ⟨va_K.moved (u := U) (U := U.calling g mk a) (Vm.Alike.refl U.vm) q1, q2.same rfl, dk_Z.same rfl rfl q3, q4⟩, q5⟩
abbrev dk_Mi (l : Launch) (y : MethodName) (ws : List Cond) (rm : Room) (G : dk_G) (w : dk_H) (av : List Value) (post : Int32 → dk_H → Prop) (mc ms : Nat) : Prop := Met l y ws rm (va_Pc av (dk_W G w)) (va_Qi post (fun w t => dk_P G w t.heap) (dk_A G)) mc ms (dk_A G)
abbrev dk_Ml (l : Launch) (y : MethodName) (ws : List Cond) (rm : Room) (G : dk_G) (w : dk_H) (av : List Value) (post : Int64 → dk_H → Prop) (mc ms : Nat) : Prop := Met l y ws rm (va_Pc av (dk_W G w)) (va_Ql post (fun w t => dk_P G w t.heap) (dk_A G)) mc ms (dk_A G)
abbrev dk_Mv (l : Launch) (y : MethodName) (ws : List Cond) (rm : Room) (G : dk_G) (w : dk_H) (av : List Value) (post : dk_H → Prop) (mc ms : Nat) : Prop := Met l y ws rm (va_Pc av (dk_W G w)) (va_Qv post (fun w t => dk_P G w t.heap) (dk_A G)) mc ms (dk_A G)
abbrev dk_Mq (l : Launch) (y : MethodName) (ws : List Cond) (rm : Room) (G : dk_G) (w : dk_H) (av : List Value) (post : Option Nat → dk_H → Prop) (mc ms : Nat) : Prop := Met l y ws rm (va_Pc av (dk_W G w)) (va_Qq post (fun w t => dk_P G w t.heap) (dk_A G)) mc ms (dk_A G)
/-- what a walk has at hand -/
def dk_C (p : Program) (s : State) (m : MethodId) (args : Array Value) (meth : Method) (c : Code) (G : dk_G) (y : MethodName) (cc : ByteArray) (maxL : Nat) (ret : Option FieldType) : Prop :=
  p.tables.exec = Jvm.exec ∧ c.code = cc ∧ meth.sig.returnType = ret ∧ c.maxLocals = maxL ∧ meth.locks = false ∧ s.vm.findClass y.cls = some m.cls ∧ meth.name = y.name ∧ (∀ w ∈ wd_all, w.before args s = true) ∧ dk_E G s
/-- a contract by the walk of its body -/
theorem dk_enter {l : Launch} {y : MethodName} {rm : Room} {G : dk_G} {w : dk_H} {av : List Value} {Qc : Array Value → State → Outcome → State → Prop} {mc ms : Nat} {cc : ByteArray} {maxL : Nat} {ret : Option FieldType} {lv : List (Nat × Value)}
    (hy : plainName y.cls = true) (hlen : (lg_sl av).length ≤ maxL) (hlv : lv_args 0 av = lv)
    (body : ∀ (p : Program) (e : Env) (s : State) (m : MethodId) (args : Array Value) (below : List Frame) (meth : Method) (c : Code) (ls : Array Slot) (Q : State → Prop), Q = MQ below Qc args s mc ms (dk_A G) → dk_C p s m args meth c G y cc maxL ret → dk_P G w s.heap → dk_S G s.heap s.heap [] → lv_has ls maxL lv →
      W p l e rm s m args below meth c s.heap [] 0 0 Q (F0 m 0 ls [])) :
    Met l y (wd_c y cc maxL ret) rm (va_Pc av (dk_W G w)) Qc mc ms (dk_A G) := by
  refine Met.ofW (cc := cc) (maxL := maxL) (ret := ret) hy rfl ?_
  intro p e s m args below meth c s₁ B hml hv
  obtain ⟨rfl, hE, hP⟩ := hv
  have hts := fun w h => atoms_spec (ws := wd_c y cc maxL ret) B.pre w (List.mem_cons_of_mem _ h)
  have hl := lv_entry av (n := maxL) hlen
  rw [lg_entry_eq]
  rw [hlv] at hl
  exact body p e s m _ below meth c _ _ rfl ⟨B.exec, B.bytes, B.returns, hml, B.notSynchronized, findClass_of_methodNamed B.named, (name_of_methodNamed B.named B.method).1, hts, hE⟩ hP va_S.rf hl
theorem dk_recv {G : dk_G} {s : State} {H : Heap} {w : dk_H} {b t ci : Nat} {fs : List Value} (q : vw_C) (hK : dk_K G s) (hP : dk_P G w H) (he : w b = some (t, .inr (ci, fs))) (hc : vwCl[ci]? = some q) : ∃ cell : Cell, H[b]? = some cell ∧ cell.vm.isStatics = false ∧ s.vm.findClass q.1 = some cell.cls :=
  va_recv hK (hP.one he) hc (q0 := 0) rfl
theorem dk_preS {G : dk_G} {s : State} {H : Heap} {w : dk_H} {locs : List Loc} {av : List Value} (hE : dk_E G s) (hP : dk_P G w H) (hS : dk_S G s.heap H locs) : PreS s H (va_Pc av (dk_W G w)) av :=
  ⟨dk_blind, fun U hU hW => ⟨rfl, hE.moved (by rw [hU]; exact hS) hW, by rw [hU]; exact hP⟩⟩
theorem dk_preV {G : dk_G} {s : State} {H : Heap} {w : dk_H} {locs : List Loc} {b t ci : Nat} {fs : List Value} {As : List Value} (q : vw_C) (hE : dk_E G s) (hP : dk_P G w H) (hS : dk_S G s.heap H locs) (he : w b = some (t, .inr (ci, fs))) (hc : vwCl[ci]? = some q) : PreV s H q.1 b (va_Pc (.ref b :: As) (dk_W G w)) As :=
  ⟨dk_blind, dk_recv q hE.1 hP he hc, fun U hU hW => ⟨rfl, hE.moved (by rw [hU]; exact hS) hW, by rw [hU]; exact hP⟩⟩
section DKC
variable {p : Program} {l : Launch} {e : Env} {R : Room} {s : State} {m : MethodId} {args : Array Value} {below : List Frame} {meth : Method} {c : Code} {H : Heap} {locs : List Loc} {cells slots : Nat} {Q : State → Prop}
variable {cc : ByteArray} {pc : Nat} {ls : Array Slot} {rest st0 : List Value} {G : dk_G} {w : dk_H} {H0 : Heap} {mc ms : Nat} {a : Array Value}
theorem dk_calli {post : Int32 → dk_H → Prop} (hr : va_Run p l e R s m args below meth c H locs cells slots mc ms (F0 m pc ls st0) rest (va_Qi post (fun w t => dk_P G w t.heap) (dk_A G) a) (dk_A G)) (hS : dk_S G H0 H locs)
    (kk : ∀ (r : Int32) (w1 : dk_H) (H1 : Heap) (locs1 : List Loc), post r w1 → dk_P G w1 H1 → dk_S G H0 H1 locs1 → W p l e R s m args below meth c H1 locs1 (cells + mc) (slots + ms) Q (F0 m (pc + 3) ls (.int r :: rest))) : W p l e R s m args below meth c H locs cells slots Q (F0 m pc ls st0) :=
  va_calli hr hS (fun _ _ h => h) (fun _ h => h) (fun r u t H1 locs1 ht _ hp hB _ _ hS1 => kk r u H1 locs1 hp (by rw [← ht]; exact hB) hS1)
theorem dk_calll {post : Int64 → dk_H → Prop} (hr : va_Run p l e R s m args below meth c H locs cells slots mc ms (F0 m pc ls st0) rest (va_Ql post (fun w t => dk_P G w t.heap) (dk_A G) a) (dk_A G)) (hS : dk_S G H0 H locs)
    (kk : ∀ (r : Int64) (w1 : dk_H) (H1 : Heap) (locs1 : List Loc), post r w1 → dk_P G w1 H1 → dk_S G H0 H1 locs1 → W p l e R s m args below meth c H1 locs1 (cells + mc) (slots + ms) Q (F0 m (pc + 3) ls (.long r :: rest))) : W p l e R s m args below meth c H locs cells slots Q (F0 m pc ls st0) :=
  va_calll hr hS (fun _ _ h => h) (fun _ h => h) (fun r u t H1 locs1 ht _ hp hB _ _ hS1 => kk r u H1 locs1 hp (by rw [← ht]; exact hB) hS1)
theorem dk_callv {post : dk_H → Prop} (hr : va_Run p l e R s m args below meth c H locs cells slots mc ms (F0 m pc ls st0) rest (va_Qv post (fun w t => dk_P G w t.heap) (dk_A G) a) (dk_A G)) (hS : dk_S G H0 H locs)
    (kk : ∀ (w1 : dk_H) (H1 : Heap) (locs1 : List Loc), post w1 → dk_P G w1 H1 → dk_S G H0 H1 locs1 → W p l e R s m args below meth c H1 locs1 (cells + mc) (slots + ms) Q (F0 m (pc + 3) ls rest)) : W p l e R s m args below meth c H locs cells slots Q (F0 m pc ls st0) :=
  va_callv hr hS (fun _ _ h => h) (fun _ h => h) (fun u t H1 locs1 ht _ hp hB _ _ hS1 => kk u H1 locs1 hp (by rw [← ht]; exact hB) hS1)
theorem dk_callq {post : Option Nat → dk_H → Prop} (hr : va_Run p l e R s m args below meth c H locs cells slots mc ms (F0 m pc ls st0) rest (va_Qq post (fun w t => dk_P G w t.heap) (dk_A G) a) (dk_A G)) (hS : dk_S G H0 H locs)
    (kk : ∀ (r : Option Nat) (w1 : dk_H) (H1 : Heap) (locs1 : List Loc), post r w1 → dk_P G w1 H1 → dk_S G H0 H1 locs1 → W p l e R s m args below meth c H1 locs1 (cells + mc) (slots + ms) Q (F0 m (pc + 3) ls (va_rf r :: rest))) : W p l e R s m args below meth c H locs cells slots Q (F0 m pc ls st0) :=
  va_callq hr hS (fun _ _ h => h) (fun _ h => h) (fun r u t H1 locs1 ht _ hp hB _ _ hS1 => kk r u H1 locs1 hp (by rw [← ht]; exact hB) hS1)
/-! returns -/
theorem dk_iret {post : Int32 → dk_H → Prop} {v : Int32} (hQ : Q = MQ below (va_Qi post (fun w t => dk_P G w t.heap) (dk_A G)) args s mc ms (dk_A G)) (hx : p.tables.exec = Jvm.exec) (hb : c.code = cc) (hr : meth.sig.returnType = some .int) (hlocks : meth.locks = false) (hP : dk_P G w H) (hS : dk_S G s.heap H locs) (h1 : cells ≤ mc) (h2 : slots ≤ ms) (hpost : post v w) (hdg : decode cc pc = .ok (.ireturn, 1)) :
    W p l e R s m args below meth c H locs cells slots Q (F0 m pc ls [.int v]) := by
  subst hQ
  exact W.widen h1 h2 (W.iret (v := v) hx hb hr (fun t ht _ => ⟨⟨v, w, rfl, hpost, by show dk_P G w t.heap; rw [ht]; exact hP⟩, hS.F ht⟩) hS.2.2 hdg hlocks)
theorem dk_zret {post : Int32 → dk_H → Prop} {v : Int32} (hQ : Q = MQ below (va_Qi post (fun w t => dk_P G w t.heap) (dk_A G)) args s mc ms (dk_A G)) (hx : p.tables.exec = Jvm.exec) (hb : c.code = cc) (hr : meth.sig.returnType = some .boolean) (hlocks : meth.locks = false) (hP : dk_P G w H) (hS : dk_S G s.heap H locs) (h1 : cells ≤ mc) (h2 : slots ≤ ms) (hn : narrow .boolean (.int v) = .int v) (hpost : post v w) (hdg : decode cc pc = .ok (.ireturn, 1)) :
    W p l e R s m args below meth c H locs cells slots Q (F0 m pc ls [.int v]) := by
  subst hQ
  exact W.widen h1 h2 (W.zret (v := v) hx hb hr hn (fun t ht _ => ⟨⟨v, w, rfl, hpost, by show dk_P G w t.heap; rw [ht]; exact hP⟩, hS.F ht⟩) hS.2.2 hdg hlocks)
theorem dk_lret {post : Int64 → dk_H → Prop} {v : Int64} (hQ : Q = MQ below (va_Ql post (fun w t => dk_P G w t.heap) (dk_A G)) args s mc ms (dk_A G)) (hx : p.tables.exec = Jvm.exec) (hb : c.code = cc) (hr : meth.sig.returnType = some .long) (hlocks : meth.locks = false) (hP : dk_P G w H) (hS : dk_S G s.heap H locs) (h1 : cells ≤ mc) (h2 : slots ≤ ms) (hpost : post v w) (hdg : decode cc pc = .ok (.lreturn, 1)) :
    W p l e R s m args below meth c H locs cells slots Q (F0 m pc ls [.long v]) := by
  subst hQ
  exact W.widen h1 h2 (W.lret (v := v) hx hb hr (fun t ht _ => ⟨⟨v, w, rfl, hpost, by show dk_P G w t.heap; rw [ht]; exact hP⟩, hS.F ht⟩) hS.2.2 hdg hlocks)
theorem dk_vret {post : dk_H → Prop} (hQ : Q = MQ below (va_Qv post (fun w t => dk_P G w t.heap) (dk_A G)) args s mc ms (dk_A G)) (hx : p.tables.exec = Jvm.exec) (hb : c.code = cc) (hr : meth.sig.returnType = none) (hlocks : meth.locks = false) (hP : dk_P G w H) (hS : dk_S G s.heap H locs) (h1 : cells ≤ mc) (h2 : slots ≤ ms) (hpost : post w) (hdg : decode cc pc = .ok (.return_, 1)) :
    W p l e R s m args below meth c H locs cells slots Q (F0 m pc ls []) := by
  subst hQ
  exact W.widen h1 h2 (W.vret hx hb hr (fun t ht _ => ⟨⟨w, rfl, hpost, by show dk_P G w t.heap; rw [ht]; exact hP⟩, hS.F ht⟩) hS.2.2 hdg hlocks)
theorem dk_aret {post : Option Nat → dk_H → Prop} {r : Option Nat} {rt : FieldType} (hQ : Q = MQ below (va_Qq post (fun w t => dk_P G w t.heap) (dk_A G)) args s mc ms (dk_A G)) (hx : p.tables.exec = Jvm.exec) (hb : c.code = cc) (hr : meth.sig.returnType = some rt) (hrt : (∃ n, rt = .object n) ∨ ∃ t, rt = .array t) (hlocks : meth.locks = false) (hP : dk_P G w H) (hS : dk_S G s.heap H locs) (h1 : cells ≤ mc) (h2 : slots ≤ ms) (hpost : post r w) (hdg : decode cc pc = .ok (.areturn, 1)) :
    W p l e R s m args below meth c H locs cells slots Q (F0 m pc ls [va_rf r]) := by
  subst hQ
  exact W.widen h1 h2 (W.aret (v := va_rf r) hx hb hr hrt (va_rf_or r) (fun t ht _ => ⟨⟨r, w, rfl, hpost, by show dk_P G w t.heap; rw [ht]; exact hP⟩, hS.F ht⟩) hS.2.2 hdg hlocks)
end DKC
end
section
/-! Rows for ints that are natural numbers (nI n) and for booleans (bo_i b). -/
def bo_i (b : Bool) : Int32 := if b then 1 else 0
theorem bo_t : bo_i true = 1 := rfl
theorem bo_f : bo_i false = 0 := rfl
theorem bo_nar (b : Bool) : narrow .boolean (.int (bo_i b)) = .int (bo_i b) := by cases b <;> decide +kernel
theorem bo_vn (b : Bool) : vp_nar .boolean (bo_i b) = bo_i b := by cases b <;> decide +kernel
theorem bo_fit (b : Bool) : fits .boolean (.int (bo_i b)) = true := by cases b <;> decide +kernel
theorem bo_ne (b : Bool) : ¬ bo_i b = 0 ↔ b = true := by cases b <;> decide +kernel
theorem bo_eq (b : Bool) : bo_i b = 0 ↔ b = false := by cases b <;> decide +kernel
theorem bo_dec {c : Prop} [Decidable c] (h : c) : (1 : Int32) = bo_i (decide c) := by simp [bo_i, h]
theorem bo_ndec {c : Prop} [Decidable c] (h : ¬ c) : (0 : Int32) = bo_i (decide c) := by simp [bo_i, h]
theorem bo_of1 {b : Bool} (h : b = true) : (nI 1) = bo_i b := by subst h; decide
theorem bo_of0 {b : Bool} (h : b = false) : (nI 0) = bo_i b := by subst h; decide
theorem nx_inc (a : Nat) : nI a + Int32.ofInt 1 = nI (a + 1) := nI_1 a
theorem nx_dec {a : Nat} (h : 0 < a) : nI a + Int32.ofInt (-1) = nI (a - 1) := by
  obtain ⟨b, rfl⟩ : ∃ b, a = b + 1 := ⟨a - 1, by omega⟩
  exact pk_m1 b
theorem nx_eq {α : Type} {w : Nat → α} {a : Nat} {x : α} (h : w a = x) : va_up w a x = w := by
  funext j
  by_cases hj : j = a
  · subst hj; simp [va_up, h]
  · simp [va_up, hj]
section NX
variable {p : Program} {l : Launch} {e : Env} {R : Room} {s : State} {m : MethodId} {args : Array Value} {below : List Frame} {meth : Method} {c : Code} {H : Heap} {locs : List Loc} {cells slots : Nat} {Q : State → Prop}
variable {cc : ByteArray} {pc : Nat} {ls : Array Slot} {rest : List Value}
theorem nx_icmp_lt (hexec : p.tables.exec = Jvm.exec) (hb : c.code = cc) {a b : Nat} {off : Int} {tgt : Nat} (ha : a < 2 ^ 31) (h2 : b < 2 ^ 31) (hdg : decode cc pc = .ok (.if_icmp .lt off, 3)) (ht : (pc : Int) + off = (tgt : Int)) (kt : a < b → W p l e R s m args below meth c H locs cells slots Q (F0 m tgt ls rest)) (kf : b ≤ a → W p l e R s m args below meth c H locs cells slots Q (F0 m (pc + 3) ls rest)) : W p l e R s m args below meth c H locs cells slots Q (F0 m pc ls (.int (nI b) :: .int (nI a) :: rest)) :=
  lv_icmp_lt hexec hb hdg ht (fun h => kt ((nI_ltI ha h2).mp h)) (fun h => kf (Nat.not_lt.mp fun z => h ((nI_ltI ha h2).mpr z)))
theorem nx_icmp_ge (hexec : p.tables.exec = Jvm.exec) (hb : c.code = cc) {a b : Nat} {off : Int} {tgt : Nat} (ha : a < 2 ^ 31) (h2 : b < 2 ^ 31) (hdg : decode cc pc = .ok (.if_icmp .ge off, 3)) (ht : (pc : Int) + off = (tgt : Int)) (kt : b ≤ a → W p l e R s m args below meth c H locs cells slots Q (F0 m tgt ls rest)) (kf : a < b → W p l e R s m args below meth c H locs cells slots Q (F0 m (pc + 3) ls rest)) : W p l e R s m args below meth c H locs cells slots Q (F0 m pc ls (.int (nI b) :: .int (nI a) :: rest)) :=
  lv_icmp_ge hexec hb hdg ht (fun h => kt ((nI_leI h2 ha).mp h)) (fun h => kf (Nat.not_le.mp fun z => h ((nI_leI h2 ha).mpr z)))
theorem nx_icmp_gt (hexec : p.tables.exec = Jvm.exec) (hb : c.code = cc) {a b : Nat} {off : Int} {tgt : Nat} (ha : a < 2 ^ 31) (h2 : b < 2 ^ 31) (hdg : decode cc pc = .ok (.if_icmp .gt off, 3)) (ht : (pc : Int) + off = (tgt : Int)) (kt : b < a → W p l e R s m args below meth c H locs cells slots Q (F0 m tgt ls rest)) (kf : a ≤ b → W p l e R s m args below meth c H locs cells slots Q (F0 m (pc + 3) ls rest)) : W p l e R s m args below meth c H locs cells slots Q (F0 m pc ls (.int (nI b) :: .int (nI a) :: rest)) :=
  lv_icmp_gt hexec hb hdg ht (fun h => kt ((nI_ltI h2 ha).mp h)) (fun h => kf (Nat.not_lt.mp fun z => h ((nI_ltI h2 ha).mpr z)))
theorem nx_icmp_le (hexec : p.tables.exec = Jvm.exec) (hb : c.code = cc) {a b : Nat} {off : Int} {tgt : Nat} (ha : a < 2 ^ 31) (h2 : b < 2 ^ 31) (hdg : decode cc pc = .ok (.if_icmp .le off, 3)) (ht : (pc : Int) + off = (tgt : Int)) (kt : a ≤ b → W p l e R s m args below meth c H locs cells slots Q (F0 m tgt ls rest)) (kf : b < a → W p l e R s m args below meth c H locs cells slots Q (F0 m (pc + 3) ls rest)) : W p l e R s m args below meth c H locs cells slots Q (F0 m pc ls (.int (nI b) :: .int (nI a) :: rest)) :=
  lv_icmp_le hexec hb hdg ht (fun h => kt ((nI_leI ha h2).mp h)) (fun h => kf (Nat.not_le.mp fun z => h ((nI_leI ha h2).mpr z)))
theorem nx_icmp_eq (hexec : p.tables.exec = Jvm.exec) (hb : c.code = cc) {a b : Nat} {off : Int} {tgt : Nat} (ha : a < 2 ^ 31) (h2 : b < 2 ^ 31) (hdg : decode cc pc = .ok (.if_icmp .eq off, 3)) (ht : (pc : Int) + off = (tgt : Int)) (kt : a = b → W p l e R s m args below meth c H locs cells slots Q (F0 m tgt ls rest)) (kf : a ≠ b → W p l e R s m args below meth c H locs cells slots Q (F0 m (pc + 3) ls rest)) : W p l e R s m args below meth c H locs cells slots Q (F0 m pc ls (.int (nI b) :: .int (nI a) :: rest)) :=
  lv_icmp_eq hexec hb hdg ht (fun h => kt ((nI_eq ha h2).mp h)) (fun h => kf (fun z => h ((nI_eq ha h2).mpr z)))
theorem nx_icmp_ne (hexec : p.tables.exec = Jvm.exec) (hb : c.code = cc) {a b : Nat} {off : Int} {tgt : Nat} (ha : a < 2 ^ 31) (h2 : b < 2 ^ 31) (hdg : decode cc pc = .ok (.if_icmp .ne off, 3)) (ht : (pc : Int) + off = (tgt : Int)) (kt : a ≠ b → W p l e R s m args below meth c H locs cells slots Q (F0 m tgt ls rest)) (kf : a = b → W p l e R s m args below meth c H locs cells slots Q (F0 m (pc + 3) ls rest)) : W p l e R s m args below meth c H locs cells slots Q (F0 m pc ls (.int (nI b) :: .int (nI a) :: rest)) :=
  lv_icmp_ne hexec hb hdg ht (fun h => kt (fun z => h ((nI_eq ha h2).mpr z))) (fun h => kf ((nI_eq ha h2).mp h))
theorem nx_if_eq (hexec : p.tables.exec = Jvm.exec) (hb : c.code = cc) {a : Nat} {off : Int} {tgt : Nat} (ha : a < 2 ^ 31) (hdg : decode cc pc = .ok (.ifCond .eq off, 3)) (ht : (pc : Int) + off = (tgt : Int)) (kt : a = 0 → W p l e R s m args below meth c H locs cells slots Q (F0 m tgt ls rest)) (kf : 0 < a → W p l e R s m args below meth c H locs cells slots Q (F0 m (pc + 3) ls rest)) : W p l e R s m args below meth c H locs cells slots Q (F0 m pc ls (.int (nI a) :: rest)) :=
  lv_if_eq hexec hb hdg ht (fun h => kt ((nI_eq ha (show (0 : Nat) < 2 ^ 31 by decide)).mp h)) (fun h => kf (Nat.pos_of_ne_zero fun z => h ((nI_eq ha (show (0 : Nat) < 2 ^ 31 by decide)).mpr z)))
theorem nx_if_ne (hexec : p.tables.exec = Jvm.exec) (hb : c.code = cc) {a : Nat} {off : Int} {tgt : Nat} (ha : a < 2 ^ 31) (hdg : decode cc pc = .ok (.ifCond .ne off, 3)) (ht : (pc : Int) + off = (tgt : Int)) (kt : 0 < a → W p l e R s m args below meth c H locs cells slots Q (F0 m tgt ls rest)) (kf : a = 0 → W p l e R s m args below meth c H locs cells slots Q (F0 m (pc + 3) ls rest)) : W p l e R s m args below meth c H locs cells slots Q (F0 m pc ls (.int (nI a) :: rest)) :=
  lv_if_ne hexec hb hdg ht (fun h => kt (Nat.pos_of_ne_zero fun z => h ((nI_eq ha (show (0 : Nat) < 2 ^ 31 by decide)).mpr z))) (fun h => kf ((nI_eq ha (show (0 : Nat) < 2 ^ 31 by decide)).mp h))
theorem nx_if_gt (hexec : p.tables.exec = Jvm.exec) (hb : c.code = cc) {a : Nat} {off : Int} {tgt : Nat} (ha : a < 2 ^ 31) (hdg : decode cc pc = .ok (.ifCond .gt off, 3)) (ht : (pc : Int) + off = (tgt : Int)) (kt : 0 < a → W p l e R s m args below meth c H locs cells slots Q (F0 m tgt ls rest)) (kf : a = 0 → W p l e R s m args below meth c H locs cells slots Q (F0 m (pc + 3) ls rest)) : W p l e R s m args below meth c H locs cells slots Q (F0 m pc ls (.int (nI a) :: rest)) :=
  lv_if_gt hexec hb hdg ht (fun h => kt ((nI_ltI (show (0 : Nat) < 2 ^ 31 by decide) ha).mp h)) (fun h => kf (Nat.eq_zero_of_not_pos fun z => h ((nI_ltI (show (0 : Nat) < 2 ^ 31 by decide) ha).mpr z)))
theorem nx_if_le (hexec : p.tables.exec = Jvm.exec) (hb : c.code = cc) {a : Nat} {off : Int} {tgt : Nat} (ha : a < 2 ^ 31) (hdg : decode cc pc = .ok (.ifCond .le off, 3)) (ht : (pc : Int) + off = (tgt : Int)) (kt : a = 0 → W p l e R s m args below meth c H locs cells slots Q (F0 m tgt ls rest)) (kf : 0 < a → W p l e R s m args below meth c H locs cells slots Q (F0 m (pc + 3) ls rest)) : W p l e R s m args below meth c H locs cells slots Q (F0 m pc ls (.int (nI a) :: rest)) :=
  lv_if_le hexec hb hdg ht (fun h => kt (Nat.le_zero.mp ((nI_leI ha (show (0 : Nat) < 2 ^ 31 by decide)).mp h))) (fun h => kf (Nat.pos_of_ne_zero fun z => h ((nI_leI ha (show (0 : Nat) < 2 ^ 31 by decide)).mpr (Nat.le_of_eq z))))
theorem nx_if_lt (hexec : p.tables.exec = Jvm.exec) (hb : c.code = cc) {a : Nat} {off : Int} {tgt : Nat} (ha : a < 2 ^ 31) (hdg : decode cc pc = .ok (.ifCond .lt off, 3)) (ht : (pc : Int) + off = (tgt : Int)) (kf : W p l e R s m args below meth c H locs cells slots Q (F0 m (pc + 3) ls rest)) : W p l e R s m args below meth c H locs cells slots Q (F0 m pc ls (.int (nI a) :: rest)) :=
  lv_if_lt hexec hb hdg ht (fun h => absurd h (nI_pos ha)) (fun _ => kf)
theorem nx_if_ge (hexec : p.tables.exec = Jvm.exec) (hb : c.code = cc) {a : Nat} {off : Int} {tgt : Nat} (ha : a < 2 ^ 31) (hdg : decode cc pc = .ok (.ifCond .ge off, 3)) (ht : (pc : Int) + off = (tgt : Int)) (kt : W p l e R s m args below meth c H locs cells slots Q (F0 m tgt ls rest)) : W p l e R s m args below meth c H locs cells slots Q (F0 m pc ls (.int (nI a) :: rest)) :=
  lv_if_ge hexec hb hdg ht (fun _ => kt) (fun h => absurd (nI_pos' ha) h)
theorem bo_if_eq (hexec : p.tables.exec = Jvm.exec) (hb : c.code = cc) {b : Bool} {off : Int} {tgt : Nat} (hdg : decode cc pc = .ok (.ifCond .eq off, 3)) (ht : (pc : Int) + off = (tgt : Int)) (kt : b = false → W p l e R s m args below meth c H locs cells slots Q (F0 m tgt ls rest)) (kf : b = true → W p l e R s m args below meth c H locs cells slots Q (F0 m (pc + 3) ls rest)) : W p l e R s m args below meth c H locs cells slots Q (F0 m pc ls (.int (bo_i b) :: rest)) :=
  lv_if_eq hexec hb hdg ht (fun h => kt ((bo_eq b).mp h)) (fun h => kf ((bo_ne b).mp h))
theorem bo_if_ne (hexec : p.tables.exec = Jvm.exec) (hb : c.code = cc) {b : Bool} {off : Int} {tgt : Nat} (hdg : decode cc pc = .ok (.ifCond .ne off, 3)) (ht : (pc : Int) + off = (tgt : Int)) (kt : b = true → W p l e R s m args below meth c H locs cells slots Q (F0 m tgt ls rest)) (kf : b = false → W p l e R s m args below meth c H locs cells slots Q (F0 m (pc + 3) ls rest)) : W p l e R s m args below meth c H locs cells slots Q (F0 m pc ls (.int (bo_i b) :: rest)) :=
  lv_if_ne hexec hb hdg ht (fun h => kt ((bo_ne b).mp h)) (fun h => kf ((bo_eq b).mp h))
theorem nx_iadd (hexec : p.tables.exec = Jvm.exec) (hb : c.code = cc) {a b : Nat} (hdg : decode cc pc = .ok (.iadd, 1)) (k : W p l e R s m args below meth c H locs cells slots Q (F0 m (pc + 1) ls (.int (nI (a + b)) :: rest))) : W p l e R s m args below meth c H locs cells slots Q (F0 m pc ls (.int (nI b) :: .int (nI a) :: rest)) :=
  lv_iadd hexec hb hdg (by rw [nI_add]; exact k)
theorem nx_isub (hexec : p.tables.exec = Jvm.exec) (hb : c.code = cc) {a b : Nat} (h : b ≤ a) (hdg : decode cc pc = .ok (.isub, 1)) (k : W p l e R s m args below meth c H locs cells slots Q (F0 m (pc + 1) ls (.int (nI (a - b)) :: rest))) : W p l e R s m args below meth c H locs cells slots Q (F0 m pc ls (.int (nI b) :: .int (nI a) :: rest)) :=
  lv_isub hexec hb hdg (by rw [pk_sub h]; exact k)
theorem nx_imul (hexec : p.tables.exec = Jvm.exec) (hb : c.code = cc) {a b : Nat} (hdg : decode cc pc = .ok (.imul, 1)) (k : W p l e R s m args below meth c H locs cells slots Q (F0 m (pc + 1) ls (.int (nI (a * b)) :: rest))) : W p l e R s m args below meth c H locs cells slots Q (F0 m pc ls (.int (nI b) :: .int (nI a) :: rest)) :=
  lv_imul hexec hb hdg (by rw [pk_mul]; exact k)
theorem nx_idiv (hexec : p.tables.exec = Jvm.exec) (hb : c.code = cc) {a b : Nat} (ha : a < 2 ^ 31) (h0 : 0 < b) (h2 : b < 2 ^ 31) (hdg : decode cc pc = .ok (.idiv, 1)) (k : W p l e R s m args below meth c H locs cells slots Q (F0 m (pc + 1) ls (.int (nI (a / b)) :: rest))) : W p l e R s m args below meth c H locs cells slots Q (F0 m pc ls (.int (nI b) :: .int (nI a) :: rest)) :=
  lv_idiv hexec hb hdg (nI_ne0 h0 h2) (by rw [pk_div ha h0 h2]; exact k)
theorem nx_irem (hexec : p.tables.exec = Jvm.exec) (hb : c.code = cc) {a b : Nat} (ha : a < 2 ^ 31) (h0 : 0 < b) (h2 : b < 2 ^ 31) (hdg : decode cc pc = .ok (.irem, 1)) (k : W p l e R s m args below meth c H locs cells slots Q (F0 m (pc + 1) ls (.int (nI (a % b)) :: rest))) : W p l e R s m args below meth c H locs cells slots Q (F0 m pc ls (.int (nI b) :: .int (nI a) :: rest)) :=
  lv_irem hexec hb hdg (nI_ne0 h0 h2) (by rw [pk_rem ha h0 h2]; exact k)
end NX
end
section
/-! PURE WORDS: entries (key, sequence, number, deleted), rows of them. -/
abbrev en_T : Type := Nat × Nat × Int64 × Bool
def en_ok (x : en_T) : Prop := x.1 < 1024 ∧ x.2.1 < 2 ^ 30
/-- x stands before y in the order of a run -/
def en_b (x y : en_T) : Bool := if x.1 = y.1 then decide (y.2.1 < x.2.1) else decide (x.1 < y.1)
theorem en_b_iff (x y : en_T) : en_b x y = true ↔ x.1 < y.1 ∨ (x.1 = y.1 ∧ y.2.1 < x.2.1) := by
  unfold en_b
  split
  · rename_i h
    simp only [decide_eq_true_eq]
    omega
  · rename_i h
    simp only [decide_eq_true_eq]
    omega
theorem en_b_trans {x y z : en_T} (h1 : en_b x y = true) (h2 : en_b y z = true) : en_b x z = true := by
  rw [en_b_iff] at *
  omega
theorem en_b_irr (x : en_T) : en_b x x = false := by
  cases h : en_b x x with
  | false => rfl
  | true =>
    rw [en_b_iff] at h
    omega
theorem en_b_tri {x y : en_T} (h : en_b x y = false) (hn : x.1 ≠ y.1 ∨ x.2.1 ≠ y.2.1) : en_b y x = true := by
  rw [en_b_iff]
  have h' : ¬ en_b x y = true := by rw [h]; decide
  rw [en_b_iff] at h'
  omega
theorem en_b_asym {x y : en_T} (h : en_b x y = true) : en_b y x = false := by
  cases h2 : en_b y x with
  | false => rfl
  | true =>
    rw [en_b_iff] at h h2
    omega
/-- where x comes to stand in P: behind the last that it does not stand before -/
def so_n (x : en_T) : List en_T → Nat
  | [] => 0
  | y :: P => if so_n x P = 0 ∧ en_b x y = true then 0 else so_n x P + 1
def so_in (x : en_T) (P : List en_T) : List en_T := P.take (so_n x P) ++ x :: P.drop (so_n x P)
def so_st (L : List en_T) : List en_T := L.foldl (fun P x => so_in x P) []
theorem so_n_le (x : en_T) (P : List en_T) : so_n x P ≤ P.length := by
  induction P with
  | nil => simp [so_n]
  | cons y P ih =>
    simp only [so_n, List.length_cons]
    split <;> omega
/-- a place p behind which x stands before all, and at which it does not: that is the place -/
theorem so_n_of (x : en_T) : ∀ (P : List en_T) (p : Nat), p ≤ P.length → (∀ j y, p ≤ j → P[j]? = some y → en_b x y = true) → (∀ y, 0 < p → P[p - 1]? = some y → en_b x y = false) → so_n x P = p
  | [], p, hp, _, _ => by simp at hp; simp [so_n, hp]
  | y :: P, p, hp, h1, h2 => by
    cases p with
    | zero =>
      have e := so_n_of x P 0 (Nat.zero_le _) (fun j z hj hz => h1 (j + 1) z (Nat.zero_le _) (by simpa using hz)) (fun z h => absurd h (by omega))
      have e2 := h1 0 y (Nat.le_refl _) (by simp)
      simp [so_n, e, e2]
    | succ p =>
      have hp' : p ≤ P.length := by simpa using hp
      have e := so_n_of x P p hp' (fun j z hj hz => h1 (j + 1) z (by omega) (by simpa using hz)) (fun z h hz => h2 z (by omega) (by
        obtain ⟨q, rfl⟩ : ∃ q, p = q + 1 := ⟨p - 1, by omega⟩
        simpa using hz))
      simp only [so_n, e]
      split
      · rename_i hc
        have hp0 : p = 0 := hc.1
        subst hp0
        have := h2 y (by omega) (by simp)
        rw [this] at hc
        exact absurd hc.2 (by decide)
      · rfl
theorem so_in_mem {x y : en_T} {P : List en_T} : y ∈ so_in x P ↔ y = x ∨ y ∈ P := by
  unfold so_in
  rw [List.mem_append, List.mem_cons]
  have h := List.take_append_drop (so_n x P) P
  constructor
  · rintro (h1 | h1 | h1)
    · exact Or.inr (List.mem_of_mem_take h1)
    · exact Or.inl h1
    · exact Or.inr (List.mem_of_mem_drop h1)
  · rintro (h1 | h1)
    · exact Or.inr (Or.inl h1)
    · rw [← h, List.mem_append] at h1
      rcases h1 with h1 | h1
      · exact Or.inl h1
      · exact Or.inr (Or.inr h1)
theorem so_in_len (x : en_T) (P : List en_T) : (so_in x P).length = P.length + 1 := by
  have := so_n_le x P
  simp [so_in, List.length_append, List.length_take, List.length_drop]
  omega
theorem so_fold_mem {y : en_T} : ∀ (L P : List en_T), y ∈ L.foldl (fun P x => so_in x P) P ↔ y ∈ P ∨ y ∈ L
  | [], P => by simp
  | x :: L, P => by
    rw [List.foldl_cons, so_fold_mem L, so_in_mem, List.mem_cons]
    constructor
    · rintro ((h | h) | h)
      · exact Or.inr (Or.inl h)
      · exact Or.inl h
      · exact Or.inr (Or.inr h)
    · rintro (h | h | h)
      · exact Or.inl (Or.inr h)
      · exact Or.inl (Or.inl h)
      · exact Or.inr h
theorem so_st_mem {y : en_T} {L : List en_T} : y ∈ so_st L ↔ y ∈ L := by
  unfold so_st
  rw [so_fold_mem]
  simp
theorem so_fold_len : ∀ (L P : List en_T), (L.foldl (fun P x => so_in x P) P).length = P.length + L.length
  | [], P => by simp
  | x :: L, P => by
    rw [List.foldl_cons, so_fold_len L, so_in_len, List.length_cons]
    omega
theorem so_st_len (L : List en_T) : (so_st L).length = L.length := by
  unfold so_st
  rw [so_fold_len]
  simp
/-- in the order of a run -/
def so_ok (L : List en_T) : Prop := L.Pairwise (fun x y => en_b x y = true)
theorem so_n_take (x : en_T) : ∀ (P : List en_T), so_ok P → (∀ y ∈ P, x.1 ≠ y.1 ∨ x.2.1 ≠ y.2.1) → (∀ y ∈ P.take (so_n x P), en_b y x = true) ∧ ∀ y ∈ P.drop (so_n x P), en_b x y = true
  | [], _, _ => by simp
  | z :: P, hP, hn => by
    have hP1 := (List.pairwise_cons.mp hP).1
    have hP2 := (List.pairwise_cons.mp hP).2
    obtain ⟨ih1, ih2⟩ := so_n_take x P hP2 (fun y hy => hn y (List.mem_cons_of_mem _ hy))
    by_cases hc : so_n x P = 0 ∧ en_b x z = true
    · have e : so_n x (z :: P) = 0 := by simp [so_n, hc.1, hc.2]
      rw [e]
      refine ⟨by simp, fun y hy => ?_⟩
      rw [hc.1] at ih2
      rcases List.mem_cons.mp (by simpa using hy) with rfl | h
      · exact hc.2
      · exact ih2 y (by simpa using h)
    · have e : so_n x (z :: P) = so_n x P + 1 := by simp only [so_n, if_neg hc]
      rw [e]
      refine ⟨fun y hy => ?_, fun y hy => ih2 y (by simpa using hy)⟩
      rw [List.take_succ_cons] at hy
      rcases List.mem_cons.mp hy with rfl | h
      · by_cases h0 : so_n x P = 0
        · have hz : en_b x y = false := by
            cases hb : en_b x y with
            | false => rfl
            | true => exact absurd ⟨h0, hb⟩ hc
          exact en_b_tri hz (hn y List.mem_cons_self)
        · have hpos : 0 < so_n x P := Nat.pos_of_ne_zero h0
          cases P with
          | nil => simp [so_n] at h0
          | cons u P =>
            have hu : u ∈ (u :: P).take (so_n x (u :: P)) := by
              obtain ⟨k, hk⟩ : ∃ k, so_n x (u :: P) = k + 1 := ⟨so_n x (u :: P) - 1, by omega⟩
              rw [hk, List.take_succ_cons]
              exact List.mem_cons_self
            exact en_b_trans (hP1 u List.mem_cons_self) (ih1 u hu)
      · exact ih1 y h
theorem so_in_ok {x : en_T} {P : List en_T} (hP : so_ok P) (hn : ∀ y ∈ P, x.1 ≠ y.1 ∨ x.2.1 ≠ y.2.1) : so_ok (so_in x P) := by
  obtain ⟨h1, h2⟩ := so_n_take x P hP hn
  unfold so_in so_ok
  rw [List.pairwise_append]
  refine ⟨List.Pairwise.sublist (List.take_sublist _ _) hP, List.pairwise_cons.mpr ⟨h2, List.Pairwise.sublist (List.drop_sublist _ _) hP⟩, fun a ha b hb => ?_⟩
  rcases List.mem_cons.mp hb with rfl | hb
  · exact h1 a ha
  · exact en_b_trans (h1 a ha) (h2 b hb)
/-- no two of the same key and sequence -/
def en_ap (L : List en_T) : Prop := L.Pairwise (fun x y => x.1 ≠ y.1 ∨ x.2.1 ≠ y.2.1)
theorem so_fold_ok : ∀ (L P : List en_T), so_ok P → en_ap L → (∀ x ∈ L, ∀ y ∈ P, x.1 ≠ y.1 ∨ x.2.1 ≠ y.2.1) → so_ok (L.foldl (fun P x => so_in x P) P)
  | [], P, hP, _, _ => hP
  | x :: L, P, hP, hL, hx => by
    have hL1 := (List.pairwise_cons.mp hL).1
    have hL2 := (List.pairwise_cons.mp hL).2
    rw [List.foldl_cons]
    refine so_fold_ok L _ (so_in_ok hP (hx x List.mem_cons_self)) hL2 (fun z hz y hy => ?_)
    rcases so_in_mem.mp hy with rfl | hy
    · rcases hL1 z hz with h | h
      · exact Or.inl (Ne.symm h)
      · exact Or.inr (Ne.symm h)
    · exact hx z (List.mem_cons_of_mem _ hz) y hy
theorem so_st_ok {L : List en_T} (h : en_ap L) : so_ok (so_st L) := so_fold_ok L [] List.Pairwise.nil h (fun _ _ _ h => by cases h)
/-- two rows in the order of a run with the same entries are the same row -/
theorem so_uniq : ∀ (A B : List en_T), so_ok A → so_ok B → (∀ x, x ∈ A ↔ x ∈ B) → A = B
  | [], [], _, _, _ => rfl
  | [], b :: B, _, _, h => by have := (h b).mpr List.mem_cons_self; cases this
  | a :: A, [], _, _, h => by have := (h a).mp List.mem_cons_self; cases this
  | a :: A, b :: B, hA, hB, h => by
    have hA1 := (List.pairwise_cons.mp hA).1
    have hA2 := (List.pairwise_cons.mp hA).2
    have hB1 := (List.pairwise_cons.mp hB).1
    have hB2 := (List.pairwise_cons.mp hB).2
    have hab : a = b := by
      rcases List.mem_cons.mp ((h a).mp List.mem_cons_self) with h1 | h1
      · exact h1
      · rcases List.mem_cons.mp ((h b).mpr List.mem_cons_self) with h2 | h2
        · exact h2.symm
        · have e1 := hB1 a h1
          have e2 := hA1 b h2
          rw [en_b_asym e1] at e2
          cases e2
    subst hab
    have hnA : a ∉ A := fun z => by have := hA1 a z; rw [en_b_irr] at this; cases this
    have hnB : a ∉ B := fun z => by have := hB1 a z; rw [en_b_irr] at this; cases this
    rw [so_uniq A B hA2 hB2 (fun x => by
      constructor
      · intro hx
        rcases List.mem_cons.mp ((h x).mp (List.mem_cons_of_mem _ hx)) with rfl | h1
        · exact absurd hx hnA
        · exact h1
      · intro hx
        rcases List.mem_cons.mp ((h x).mpr (List.mem_cons_of_mem _ hx)) with rfl | h1
        · exact absurd hx hnB
        · exact h1)]
/-- without the deleted ones at its end -/
def cd_L (L : List en_T) : Nat → Nat
  | 0 => 0
  | n + 1 => if (L.getD n (0, 0, 0, false)).2.2.2 = true then cd_L L n else n + 1
theorem cd_le (L : List en_T) (n : Nat) : cd_L L n ≤ n := by
  induction n with
  | zero => simp [cd_L]
  | succ n ih =>
    simp only [cd_L]
    split <;> omega
/-- the latest entry of a key up to a sequence -/
def la_f (k s : Nat) (b : Option en_T) (x : en_T) : Option en_T := if x.1 = k ∧ x.2.1 ≤ s ∧ b.all (fun y => decide (y.2.1 < x.2.1)) = true then some x else b
def la_L (k s : Nat) (L : List en_T) : Option en_T := L.foldl (la_f k s) none
def mx_L (L : List en_T) : Nat := L.foldl (fun n x => max n x.2.1) 0
end
section
/-! WHAT THE CELLS MEAN: entries, rows (by their lists), and what stays (dk_fr: cells whose tags are not of T stay) -/
def dk_fr (T : Nat → Prop) (w w1 : dk_H) : Prop := ∀ (a t : Nat) (e : va_E), w a = some (t, e) → ¬ T t → w1 a = some (t, e)
theorem dk_fr.rf {T : Nat → Prop} {w : dk_H} : dk_fr T w w := fun _ _ _ h _ => h
theorem dk_fr.tr {T : Nat → Prop} {w w1 w2 : dk_H} (h1 : dk_fr T w w1) (h2 : dk_fr T w1 w2) : dk_fr T w w2 := fun a t e h n => h2 a t e (h1 a t e h n) n
theorem dk_fr.mono {T T' : Nat → Prop} {w w1 : dk_H} (h : dk_fr T w w1) (hT : ∀ t, T t → T' t) : dk_fr T' w w1 := fun a t e q n => h a t e q (fun z => n (hT t z))
theorem dk_fr.up {T : Nat → Prop} {w : dk_H} {a t : Nat} {e : va_E} {x : Option (Nat × va_E)} (ha : w a = some (t, e)) (ht : T t) : dk_fr T w (va_up w a x) := by
  intro b u f hb hu
  rw [dk_un (fun z => ?_)]
  · exact hb
  · subst z
    rw [ha] at hb
    cases hb
    exact hu ht
theorem dk_fr.upN {T : Nat → Prop} {w : dk_H} {a : Nat} {x : Option (Nat × va_E)} (ha : w a = none) : dk_fr T w (va_up w a x) := by
  intro b u f hb _
  rw [dk_un (dk_nn hb ha)]
  exact hb
theorem dk_fr.eq {T : Nat → Prop} {w w1 w2 : dk_H} (h : dk_fr T w w1) (he : w2 = w1) : dk_fr T w w2 := by rw [he]; exact h
abbrev en_c (x : en_T) : va_E := .inr (cx_E, [.int (nI x.1), .int (nI x.2.1), .long x.2.2.1, .int (bo_i x.2.2.2)])
def en_at (w : dk_H) (a : Nat) (x : en_T) : Prop := w a = some (0, en_c x)
theorem en_at.fr {T : Nat → Prop} {w w1 : dk_H} {a : Nat} {x : en_T} (h : en_at w a x) (hf : dk_fr T w w1) (h0 : ¬ T 0) : en_at w1 a x := hf a 0 _ h h0
abbrev rw_c (sl n : Nat) : va_E := .inr (cx_R, [.ref sl, .int (nI n)])
/-- the first places of an array hold these entries -/
def ra_ok (w : dk_H) (f : Nat → Option Nat) (L : List en_T) : Prop := ∀ (i : Nat) (x : en_T), L[i]? = some x → ∃ a, f i = some a ∧ en_at w a x
theorem ra_ok.fr {T : Nat → Prop} {w w1 : dk_H} {f : Nat → Option Nat} {L : List en_T} (h : ra_ok w f L) (hf : dk_fr T w w1) (h0 : ¬ T 0) : ra_ok w1 f L := by
  intro i x hx
  obtain ⟨a, h1, h2⟩ := h i x hx
  exact ⟨a, h1, h2.fr hf h0⟩
theorem ra_ok.nil {w : dk_H} {f : Nat → Option Nat} : ra_ok w f [] := fun i x h => by simp at h
theorem ra_ok.app {w : dk_H} {f : Nat → Option Nat} {L : List en_T} {a : Nat} {x : en_T} (h : ra_ok w f L) (ha : en_at w a x) : ra_ok w (va_up f L.length (some a)) (L ++ [x]) := by
  intro i y hy
  by_cases hi : i < L.length
  · rw [List.getElem?_append_left hi] at hy
    obtain ⟨b, h1, h2⟩ := h i y hy
    exact ⟨b, by rw [dk_un (by omega)]; exact h1, h2⟩
  · rw [List.getElem?_append_right (by omega)] at hy
    have hz : i - L.length < 1 := (List.getElem?_eq_some_iff.mp hy).1
    have e : i = L.length := by omega
    subst e
    rw [Nat.sub_self] at hy
    cases hy
    exact ⟨a, dk_us, ha⟩
theorem ra_ok.take {w : dk_H} {f : Nat → Option Nat} {L : List en_T} (h : ra_ok w f L) (n : Nat) : ra_ok w f (L.take n) := by
  intro i x hx
  rw [List.getElem?_take] at hx
  split at hx
  · exact h i x hx
  · cases hx
/-- a row of at most cap entries -/
def rw_at (G : dk_G) (w : dk_H) (h t0 t1 cap : Nat) (L : List en_T) : Prop := ∃ (sl : Nat) (f : Nat → Option Nat), w h = some (t0, rw_c sl L.length) ∧ w sl = some (t1, dk_ca G 3 cap f) ∧ L.length ≤ cap ∧ cap ≤ 1024 ∧ ra_ok w f L
theorem rw_at.fr {G : dk_G} {T : Nat → Prop} {w w1 : dk_H} {h t0 t1 cap : Nat} {L : List en_T} (H : rw_at G w h t0 t1 cap L) (hf : dk_fr T w w1) (h0 : ¬ T 0) (ht0 : ¬ T t0) (ht1 : ¬ T t1) : rw_at G w1 h t0 t1 cap L := by
  obtain ⟨sl, f, h1, h2, h3, h4, h5⟩ := H
  exact ⟨sl, f, hf _ _ _ h1 ht0, hf _ _ _ h2 ht1, h3, h4, h5.fr hf h0⟩
end
section
/-! PURE ROWS for the walks of Row: what the places hold while entries are moved -/
theorem so_snoc (A : List en_T) (x : en_T) : so_st (A ++ [x]) = so_in x (so_st A) := by simp [so_st, List.foldl_append]
theorem ta_s {α : Type} {L : List α} {i : Nat} {x : α} (h : L[i]? = some x) : L.take (i + 1) = L.take i ++ [x] := by rw [List.take_succ, h]; rfl
theorem dr_s {α : Type} {L : List α} {i : Nat} {x : α} (h : L[i]? = some x) : L.drop i = x :: L.drop (i + 1) := by
  have hi := (List.getElem?_eq_some_iff.mp h).1
  have hv := (List.getElem?_eq_some_iff.mp h).2
  rw [List.drop_eq_getElem_cons hi, hv]
theorem ge_at {α : Type} {L : List α} {i : Nat} (h : i < L.length) : ∃ x, L[i]? = some x := ⟨L[i], List.getElem?_eq_getElem h⟩
theorem so_in_get {x : en_T} {P : List en_T} {p : Nat} (hp : so_n x P = p) (hl : p ≤ P.length) (j : Nat) : (so_in x P)[j]? = if j < p then P[j]? else if j = p then some x else P[j - 1]? := by
  unfold so_in
  rw [hp]
  have hlen : (P.take p).length = p := by rw [List.length_take]; omega
  by_cases h1 : j < p
  · rw [if_pos h1, List.getElem?_append_left (by rw [hlen]; exact h1), List.getElem?_take, if_pos h1]
  · rw [if_neg h1, List.getElem?_append_right (by rw [hlen]; omega), hlen]
    by_cases h2 : j = p
    · rw [if_pos h2, h2, Nat.sub_self]
      rfl
    · rw [if_neg h2]
      obtain ⟨k, rfl⟩ : ∃ k, j = p + 1 + k := ⟨j - p - 1, by omega⟩
      rw [show p + 1 + k - p = k + 1 by omega, List.getElem?_cons_succ, List.getElem?_drop]
      congr 1
      omega
/-- while the entry x of place i is on its way to place p: what the places hold of the i entries P before it -/
def sh_ok (w : dk_H) (f : Nat → Option Nat) (P : List en_T) (p : Nat) : Prop :=
  (∀ j y, j < p → P[j]? = some y → ∃ a, f j = some a ∧ en_at w a y) ∧ ∀ j y, p ≤ j → P[j]? = some y → ∃ a, f (j + 1) = some a ∧ en_at w a y
def sr_ok (w : dk_H) (f : Nat → Option Nat) (L : List en_T) (i : Nat) : Prop := ∀ j y, i < j → L[j]? = some y → ∃ a, f j = some a ∧ en_at w a y
theorem sh_ok.init {w : dk_H} {f : Nat → Option Nat} {P R : List en_T} (h : ra_ok w f (P ++ R)) : sh_ok w f P P.length :=
  ⟨fun j y hj hy => h j y (by rw [List.getElem?_append_left hj]; exact hy), fun j y hj hy => absurd (List.getElem?_eq_some_iff.mp hy).1 (by omega)⟩
theorem sh_ok.step {w : dk_H} {f : Nat → Option Nat} {P : List en_T} {p : Nat} (h : sh_ok w f P (p + 1)) : sh_ok w (va_up f (p + 1) (f p)) P p := by
  refine ⟨fun j y hj hy => ?_, fun j y hj hy => ?_⟩
  · obtain ⟨a, h1, h2⟩ := h.1 j y (by omega) hy
    exact ⟨a, by rw [dk_un (by omega)]; exact h1, h2⟩
  · by_cases hjp : j = p
    · subst hjp
      obtain ⟨a, h1, h2⟩ := h.1 j y (by omega) hy
      exact ⟨a, by rw [dk_us]; exact h1, h2⟩
    · obtain ⟨a, h1, h2⟩ := h.2 j y (by omega) hy
      exact ⟨a, by rw [dk_un (by omega)]; exact h1, h2⟩
theorem sr_ok.step {w : dk_H} {f : Nat → Option Nat} {L : List en_T} {i p : Nat} {v : Option Nat} (h : sr_ok w f L i) (hp : p ≤ i) : sr_ok w (va_up f p v) L i := by
  intro j y hj hy
  obtain ⟨a, h1, h2⟩ := h j y hj hy
  exact ⟨a, by rw [dk_un (by omega)]; exact h1, h2⟩
theorem sh_ok.done {w : dk_H} {f : Nat → Option Nat} {P L : List en_T} {p i ax : Nat} {x : en_T} (hP : P.length = i) (h : sh_ok w f P p) (hr : sr_ok w f L i) (hp : so_n x P = p) (hx : en_at w ax x) (hi : i < L.length) : ra_ok w (va_up f p (some ax)) (so_in x P ++ L.drop (i + 1)) := by
  have hpl : p ≤ P.length := by rw [← hp]; exact so_n_le x P
  have hlen : (so_in x P).length = i + 1 := by rw [so_in_len, hP]
  intro j y hy
  by_cases hj : j < i + 1
  · rw [List.getElem?_append_left (by rw [hlen]; exact hj), so_in_get hp hpl] at hy
    by_cases h1 : j < p
    · rw [if_pos h1] at hy
      obtain ⟨a, g1, g2⟩ := h.1 j y h1 hy
      exact ⟨a, by rw [dk_un (by omega)]; exact g1, g2⟩
    · rw [if_neg h1] at hy
      by_cases h2 : j = p
      · rw [if_pos h2] at hy
        cases hy
        subst h2
        exact ⟨ax, dk_us, hx⟩
      · rw [if_neg h2] at hy
        obtain ⟨a, g1, g2⟩ := h.2 (j - 1) y (by omega) hy
        rw [show j - 1 + 1 = j by omega] at g1
        exact ⟨a, by rw [dk_un (by omega)]; exact g1, g2⟩
  · rw [List.getElem?_append_right (by rw [hlen]; omega), hlen, List.getElem?_drop, show i + 1 + (j - (i + 1)) = j by omega] at hy
    obtain ⟨a, g1, g2⟩ := hr j y (by omega) hy
    exact ⟨a, by rw [dk_un (by omega)]; exact g1, g2⟩
theorem la_snoc (k s : Nat) (A : List en_T) (x : en_T) : la_L k s (A ++ [x]) = la_f k s (la_L k s A) x := by simp [la_L, List.foldl_append]
theorem mx_snoc (A : List en_T) (x : en_T) : mx_L (A ++ [x]) = max (mx_L A) x.2.1 := by simp [mx_L, List.foldl_append]
/-- the answer of a search: an entry, by its cell -/
def en_q (w : dk_H) (r : Option Nat) (o : Option en_T) : Prop := match o with
  | none => r = none
  | some x => ∃ a, r = some a ∧ en_at w a x
theorem en_q.fr {T : Nat → Prop} {w w1 : dk_H} {r : Option Nat} {o : Option en_T} (h : en_q w r o) (hf : dk_fr T w w1) (h0 : ¬ T 0) : en_q w1 r o := by
  cases o with
  | none => exact h
  | some x =>
    obtain ⟨a, h1, h2⟩ := h
    exact ⟨a, h1, h2.fr hf h0⟩
end
section
/-! more words -/
theorem wi_31 : (Jvm.Cond.code ({ cls := "java/lang/Object", name := "<init>", desc := "()V" } : Jvm.MethodName) object_method_1_code (1 : Nat) (Option.none : Option Jvm.ClassFile.FieldType) : Cond) ∈ wd_all := wd_m 31 (by decide +kernel) (by decide +kernel)
theorem la_mem' {k u : Nat} : ∀ (A : List en_T) (o : Option en_T) {y : en_T}, A.foldl (la_f k u) o = some y → y ∈ A ∨ o = some y
  | [], o, y, h => Or.inr h
  | x :: A, o, y, h => by
    rw [List.foldl_cons] at h
    rcases la_mem' A _ h with h1 | h1
    · exact Or.inl (List.mem_cons_of_mem _ h1)
    · unfold la_f at h1
      split at h1
      · cases h1
        exact Or.inl List.mem_cons_self
      · exact Or.inr h1
theorem la_mem {k u : Nat} {L : List en_T} {i : Nat} {y : en_T} (h : la_L k u (L.take i) = some y) : y ∈ L := by
  rcases la_mem' (L.take i) none h with h1 | h1
  · exact List.mem_of_mem_take h1
  · cases h1
theorem la_memL {k u : Nat} {L : List en_T} {y : en_T} (h : la_L k u L = some y) : y ∈ L := by
  rcases la_mem' L none h with h1 | h1
  · exact h1
  · cases h1
theorem cd_s {L : List en_T} {n : Nat} {x : en_T} (h : L[n]? = some x) (hd : x.2.2.2 = true) : cd_L L (n + 1) = cd_L L n := by
  have e : L.getD n (0, 0, 0, false) = x := by rw [List.getD_eq_getElem?_getD, h]; rfl
  show (if (L.getD n (0, 0, 0, false)).2.2.2 = true then cd_L L n else n + 1) = _
  rw [e, if_pos hd]
theorem cd_k {L : List en_T} {n : Nat} {x : en_T} (h : L[n]? = some x) (hd : x.2.2.2 = false) : cd_L L (n + 1) = n + 1 := by
  have e : L.getD n (0, 0, 0, false) = x := by rw [List.getD_eq_getElem?_getD, h]; rfl
  show (if (L.getD n (0, 0, 0, false)).2.2.2 = true then cd_L L n else n + 1) = _
  rw [e, if_neg (by rw [hd]; decide)]
end
section
/-! RunKeeper$Entry, walked (printed by gen/c_row.py) -/
abbrev rm_E_init : Room := { frames := 1, cells := 0, slots := 0, locals := 20 }
set_option maxHeartbeats 4000000 in
set_option maxRecDepth 100000 in
theorem c_E_init (l : Launch) (G : dk_G) (w : dk_H) (h t : Nat) (x : en_T) (hh : w h = some (t, .inr (cx_E, [.int 0, .int 0, .long 0, .int 0]))) : dk_Mv l my_E_init (wd_c my_E_init mb_E_init 6 none) rm_E_init G w [.ref h, .int (nI x.1), .int (nI x.2.1), .long x.2.2.1, .int (bo_i x.2.2.2)] (fun w1 => w1 = va_up w h (some (t, en_c x))) 0 0 := by
  refine dk_enter (lv := [(0, .ref h), (1, .int (nI x.1)), (2, .int (nI x.2.1)), (3, .long x.2.2.1), (5, .int (bo_i x.2.2.2))]) (by decide) (Nat.le_of_ble_eq_true rfl) rfl (fun p e s m args below meth c ls Q hQ C hP hS hl => ?_)
  obtain ⟨hx, hb, hr, hml, hlocks, hown, hnm, hts, hE⟩ := C
  have hK := hE.1
  have hN := hE.2.1
  refine lv_aload_n hx hb de_E_init_0 rfl (lv_at hl 0 rfl) ?_
  refine W.objInit hx hb hown (hts _ wi_443) (hts _ wi_30) (hts _ wi_31) rfl (by rw [hml]; exact hl.1) rfl de_E_init_1 (Nat.le_of_ble_eq_true rfl) (Nat.le_of_ble_eq_true rfl) ?_
  refine W.eq (g2 := F0 m 4 ls []) rfl ?_
  refine lv_aload_n hx hb de_E_init_4 rfl (lv_at hl 0 rfl) ?_
  refine lv_iload_n hx hb de_E_init_5 rfl (lv_at hl 1 rfl) ?_
  refine dk_putF (a := h) (v := .int (nI x.1)) (ty := .int) (C := kn_E) (T := kt_E) (N := 4) hx hb hts ki_E ky_E kk_E kd_E hown hK hP hS hh rfl 0 (by decide) (hts _ wi_444) (fun _ h9 => h9) rfl hnm rfl (by decide +kernel) rfl rfl (Nat.le_of_ble_eq_true rfl) de_E_init_6 (fun H locs w_1 hw_2 hP hS => ?_)
  have h_3 : w_1 h = some (t, .inr (cx_E, [.int (nI x.1), .int 0, .long 0, .int 0])) := dk_here hw_2
  refine lv_aload_n hx hb de_E_init_9 rfl (lv_at hl 0 rfl) ?_
  refine lv_iload_n hx hb de_E_init_10 rfl (lv_at hl 2 rfl) ?_
  refine dk_putF (a := h) (v := .int (nI x.2.1)) (ty := .int) (C := kn_E) (T := kt_E) (N := 4) hx hb hts ki_E ky_E kk_E kd_E hown hK hP hS h_3 rfl 1 (by decide) (hts _ wi_448) (fun _ h9 => h9) rfl hnm rfl (by decide +kernel) rfl rfl (Nat.le_of_ble_eq_true rfl) de_E_init_11 (fun H locs w_4 hw_5 hP hS => ?_)
  have h_6 : w_4 h = some (t, .inr (cx_E, [.int (nI x.1), .int (nI x.2.1), .long 0, .int 0])) := dk_here hw_5
  refine lv_aload_n hx hb de_E_init_14 rfl (lv_at hl 0 rfl) ?_
  refine lv_lload_n hx hb de_E_init_15 rfl (lv_at hl 3 rfl) ?_
  refine dk_putF (a := h) (v := .long x.2.2.1) (ty := .long) (C := kn_E) (T := kt_E) (N := 4) hx hb hts ki_E ky_E kk_E kd_E hown hK hP hS h_6 rfl 2 (by decide) (hts _ wi_451) (fun _ h9 => h9) rfl hnm rfl (by decide +kernel) rfl rfl (Nat.le_of_ble_eq_true rfl) de_E_init_16 (fun H locs w_7 hw_8 hP hS => ?_)
  have h_9 : w_7 h = some (t, .inr (cx_E, [.int (nI x.1), .int (nI x.2.1), .long x.2.2.1, .int 0])) := dk_here hw_8
  refine lv_aload_n hx hb de_E_init_19 rfl (lv_at hl 0 rfl) ?_
  refine lv_iload hx hb de_E_init_20 (lv_at hl 4 rfl) ?_
  refine dk_putF (a := h) (v := .int (bo_i x.2.2.2)) (ty := .boolean) (C := kn_E) (T := kt_E) (N := 4) hx hb hts ki_E ky_E kk_E kd_E hown hK hP hS h_9 rfl 3 (by decide) (hts _ wi_453) (fun _ h9 => h9) rfl hnm rfl (by decide +kernel) (bo_nar x.2.2.2) (bo_fit x.2.2.2) (Nat.le_of_ble_eq_true rfl) de_E_init_22 (fun H locs w_10 hw_11 hP hS => ?_)
  have h_12 : w_10 h = some (t, .inr (cx_E, [.int (nI x.1), .int (nI x.2.1), .long x.2.2.1, .int (bo_i x.2.2.2)])) := dk_here hw_11
  exact dk_vret hQ hx hb hr hlocks hP hS (Nat.le_refl _) (Nat.le_refl _) (by rw [hw_11, hw_8, hw_5, hw_2, bx_uu, bx_uu, bx_uu]; rfl) de_E_init_25
abbrev rm_E_numbered : Room := { frames := 2, cells := 1, slots := 4, locals := 45 }
set_option maxHeartbeats 4000000 in
set_option maxRecDepth 100000 in
theorem c_E_numbered (l : Launch) (G : dk_G) (w : dk_H) (a s2 : Nat) (x : en_T) (ha : en_at w a x) : dk_Mq l my_E_numbered (wd_c my_E_numbered mb_E_numbered 2 (some (.object "RunKeeper$Entry"))) rm_E_numbered G w [.ref a, .int (nI s2)] (fun r w1 => ∃ q, r = some q ∧ w q = none ∧ w1 = va_up w q (some (0, en_c (x.1, s2, x.2.2.1, x.2.2.2)))) 1 4 := by
  refine dk_enter (lv := [(0, .ref a), (1, .int (nI s2))]) (by decide) (Nat.le_of_ble_eq_true rfl) rfl (fun p e s m args below meth c ls Q hQ C hP hS hl => ?_)
  obtain ⟨hx, hb, hr, hml, hlocks, hown, hnm, hts, hE⟩ := C
  have hK := hE.1
  have hN := hE.2.1
  refine dk_new 0 (fs := [.int 0, .int 0, .long 0, .int 0]) (C := kn_E) (T := kt_E) (N := 4) (ci := cx_E) hx hb hts ki_E ky_E kk_E hown (hts _ wi_474) (hts _ wi_439) (hts _ wi_14) hK hP hS hE.2.2.2 rfl (fun j hj => by match j, hj with | 0, _ => rfl | 1, _ => rfl | 2, _ => rfl | 3, _ => rfl | j + 4, h => exact absurd h (by omega)) (by first | exact Nat.le_of_ble_eq_true rfl | (simp only [Nat.zero_add]; omega) | omega) (by first | exact Nat.le_of_ble_eq_true rfl | (simp only [Nat.zero_add]; omega) | omega) de_E_numbered_0 (fun q_13 H w_14 hn_16 hw_15 hP hS => ?_)
  have h_17 : w_14 q_13 = some (0, .inr (cx_E, [.int 0, .int 0, .long 0, .int 0])) := dk_here hw_15
  have h_18 : w_14 a = some (0, .inr (cx_E, [.int (nI x.1), .int (nI x.2.1), .long x.2.2.1, .int (bo_i x.2.2.2)])) := dk_keepN hw_15 hn_16 ha
  refine lv_dup hx hb de_E_numbered_3 rfl ?_
  refine lv_aload_n hx hb de_E_numbered_4 rfl (lv_at hl 0 rfl) ?_
  refine dk_get (a := a) (v := .int (nI x.1)) (C := kn_E) (T := kt_E) (N := 4) hx hb hts ki_E hown hK hP h_18 rfl 0 (by decide) (hts _ wi_444) (fun _ h9 => h9) rfl de_E_numbered_5 ?_
  refine lv_iload_n hx hb de_E_numbered_8 rfl (lv_at hl 1 rfl) ?_
  refine lv_aload_n hx hb de_E_numbered_9 rfl (lv_at hl 0 rfl) ?_
  refine dk_get (a := a) (v := .long x.2.2.1) (C := kn_E) (T := kt_E) (N := 4) hx hb hts ki_E hown hK hP h_18 rfl 2 (by decide) (hts _ wi_451) (fun _ h9 => h9) rfl de_E_numbered_10 ?_
  refine lv_aload_n hx hb de_E_numbered_13 rfl (lv_at hl 0 rfl) ?_
  refine dk_get (a := a) (v := .int (bo_i x.2.2.2)) (C := kn_E) (T := kt_E) (N := 4) hx hb hts ki_E hown hK hP h_18 rfl 3 (by decide) (hts _ wi_453) (fun _ h9 => h9) rfl de_E_numbered_14 ?_
  refine dk_callv (va_runI (As := [.int (nI x.1), .int (nI s2), .long x.2.2.1, .int (bo_i x.2.2.2)]) (rest := [.ref q_13]) ⟨hx, hb, hml, hown, hts⟩ (c_E_init l G w_14 q_13 0 (x.1, s2, x.2.2.1, x.2.2.2) h_17) (cwI 4 hts (wd_g wi_442) rfl rfl rfl (hts _ wi_14) (hts _ wi_475) (hts _ wi_441) rfl (by decide +kernel) ⟨Nat.le_of_ble_eq_true rfl, Nat.le_of_ble_eq_true rfl⟩) (dk_preS hE hP hS) rfl rfl hl.1 rfl (lv_room (Nat.le_of_ble_eq_true rfl)) de_E_numbered_17 ⟨(by first | exact Nat.le_of_ble_eq_true rfl | (simp only [Nat.zero_add]; omega) | omega), (by first | exact Nat.le_of_ble_eq_true rfl | (simp only [Nat.zero_add]; omega) | omega)⟩) hS (fun w_19 H locs hq_20 hP hS => ?_)
  exact dk_aret (r := some q_13) hQ hx hb hr (Or.inl ⟨_, rfl⟩) hlocks hP hS (Nat.le_refl _) (Nat.le_refl _) (⟨q_13, rfl, hn_16, by rw [hq_20, hw_15, bx_uu]⟩) de_E_numbered_20
abbrev rm_E_hasKeyOf : Room := { frames := 0, cells := 0, slots := 0, locals := 0 }
set_option maxHeartbeats 4000000 in
set_option maxRecDepth 100000 in
theorem c_E_hasKeyOf (l : Launch) (G : dk_G) (w : dk_H) (a b : Nat) (x y : en_T) (ha : en_at w a x) (hb0 : en_at w b y) (hx0 : en_ok x) (hy0 : en_ok y) : dk_Mi l my_E_hasKeyOf (wd_c my_E_hasKeyOf mb_E_hasKeyOf 2 (some .boolean)) rm_E_hasKeyOf G w [.ref a, .ref b] (fun r w1 => r = bo_i (decide (x.1 = y.1)) ∧ w1 = w) 0 0 := by
  have hx1 := hx0.1
  have hy1 := hy0.1
  refine dk_enter (lv := [(0, .ref a), (1, .ref b)]) (by decide) (Nat.le_of_ble_eq_true rfl) rfl (fun p e s m args below meth c ls Q hQ C hP hS hl => ?_)
  obtain ⟨hx, hb, hr, hml, hlocks, hown, hnm, hts, hE⟩ := C
  have hK := hE.1
  have hN := hE.2.1
  refine lv_aload_n hx hb de_E_hasKeyOf_0 rfl (lv_at hl 1 rfl) ?_
  refine lv_ifnull hx hb de_E_hasKeyOf_1 ?_
  refine lv_aload_n hx hb de_E_hasKeyOf_4 rfl (lv_at hl 0 rfl) ?_
  refine dk_get (a := a) (v := .int (nI x.1)) (C := kn_E) (T := kt_E) (N := 4) hx hb hts ki_E hown hK hP ha rfl 0 (by decide) (hts _ wi_444) (fun _ h9 => h9) rfl de_E_hasKeyOf_5 ?_
  refine lv_aload_n hx hb de_E_hasKeyOf_8 rfl (lv_at hl 1 rfl) ?_
  refine dk_get (a := b) (v := .int (nI y.1)) (C := kn_E) (T := kt_E) (N := 4) hx hb hts ki_E hown hK hP hb0 rfl 0 (by decide) (hts _ wi_444) (fun _ h9 => h9) rfl de_E_hasKeyOf_9 ?_
  refine nx_icmp_ne (a := x.1) (b := y.1) (tgt := 19) hx hb (by omega) (by omega) de_E_hasKeyOf_12 (by decide) (fun c_23 => ?_) (fun c_23 => ?_)
  · refine lv_iconst (v := nI 0) hx hb de_E_hasKeyOf_19 (by decide) ?_
    exact dk_zret hQ hx hb hr hlocks hP hS (Nat.le_refl _) (Nat.le_refl _) (by decide +kernel) (⟨bo_of0 (by simp; omega), rfl⟩) de_E_hasKeyOf_20
  · refine lv_iconst (v := nI 1) hx hb de_E_hasKeyOf_15 (by decide) ?_
    refine lv_goto (tgt := 20) hx hb de_E_hasKeyOf_16 (by decide) ?_
    exact dk_zret hQ hx hb hr hlocks hP hS (Nat.le_refl _) (Nat.le_refl _) (by decide +kernel) (⟨bo_of1 (by simp; omega), rfl⟩) de_E_hasKeyOf_20
set_option maxHeartbeats 4000000 in
set_option maxRecDepth 100000 in
theorem c_E_hasKeyOfN (l : Launch) (G : dk_G) (w : dk_H) (a : Nat) (x : en_T) (ha : en_at w a x) : dk_Mi l my_E_hasKeyOf (wd_c my_E_hasKeyOf mb_E_hasKeyOf 2 (some .boolean)) rm_E_hasKeyOf G w [.ref a, .null] (fun r w1 => r = bo_i false ∧ w1 = w) 0 0 := by
  refine dk_enter (lv := [(0, .ref a), (1, .null)]) (by decide) (Nat.le_of_ble_eq_true rfl) rfl (fun p e s m args below meth c ls Q hQ C hP hS hl => ?_)
  obtain ⟨hx, hb, hr, hml, hlocks, hown, hnm, hts, hE⟩ := C
  have hK := hE.1
  have hN := hE.2.1
  refine lv_aload_nN hx hb de_E_hasKeyOf_0 rfl (lv_at hl 1 rfl) ?_
  refine lv_ifnullN (tgt := 19) hx hb de_E_hasKeyOf_1 (by decide) ?_
  refine lv_iconst (v := nI 0) hx hb de_E_hasKeyOf_19 (by decide) ?_
  exact dk_zret hQ hx hb hr hlocks hP hS (Nat.le_refl _) (Nat.le_refl _) (by decide +kernel) (⟨rfl, rfl⟩) de_E_hasKeyOf_20
abbrev rm_E_standsBefore : Room := { frames := 0, cells := 0, slots := 0, locals := 0 }
set_option maxHeartbeats 4000000 in
set_option maxRecDepth 100000 in
theorem c_E_standsBefore (l : Launch) (G : dk_G) (w : dk_H) (a b : Nat) (x y : en_T) (ha : en_at w a x) (hb0 : en_at w b y) (hx0 : en_ok x) (hy0 : en_ok y) : dk_Mi l my_E_standsBefore (wd_c my_E_standsBefore mb_E_standsBefore 2 (some .boolean)) rm_E_standsBefore G w [.ref a, .ref b] (fun r w1 => r = bo_i (en_b x y) ∧ w1 = w) 0 0 := by
  have hx1 := hx0.1
  have hy1 := hy0.1
  have hx2 := hx0.2
  have hy2 := hy0.2
  refine dk_enter (lv := [(0, .ref a), (1, .ref b)]) (by decide) (Nat.le_of_ble_eq_true rfl) rfl (fun p e s m args below meth c ls Q hQ C hP hS hl => ?_)
  obtain ⟨hx, hb, hr, hml, hlocks, hown, hnm, hts, hE⟩ := C
  have hK := hE.1
  have hN := hE.2.1
  refine lv_aload_n hx hb de_E_standsBefore_0 rfl (lv_at hl 1 rfl) ?_
  refine lv_ifnull hx hb de_E_standsBefore_1 ?_
  refine lv_aload_n hx hb de_E_standsBefore_4 rfl (lv_at hl 0 rfl) ?_
  refine dk_get (a := a) (v := .int (nI x.1)) (C := kn_E) (T := kt_E) (N := 4) hx hb hts ki_E hown hK hP ha rfl 0 (by decide) (hts _ wi_444) (fun _ h9 => h9) rfl de_E_standsBefore_5 ?_
  refine lv_aload_n hx hb de_E_standsBefore_8 rfl (lv_at hl 1 rfl) ?_
  refine dk_get (a := b) (v := .int (nI y.1)) (C := kn_E) (T := kt_E) (N := 4) hx hb hts ki_E hown hK hP hb0 rfl 0 (by decide) (hts _ wi_444) (fun _ h9 => h9) rfl de_E_standsBefore_9 ?_
  refine nx_icmp_eq (a := x.1) (b := y.1) (tgt := 29) hx hb (by omega) (by omega) de_E_standsBefore_12 (by decide) (fun c_26 => ?_) (fun c_26 => ?_)
  · refine lv_aload_n hx hb de_E_standsBefore_29 rfl (lv_at hl 0 rfl) ?_
    refine dk_get (a := a) (v := .int (nI x.2.1)) (C := kn_E) (T := kt_E) (N := 4) hx hb hts ki_E hown hK hP ha rfl 1 (by decide) (hts _ wi_448) (fun _ h9 => h9) rfl de_E_standsBefore_30 ?_
    refine lv_aload_n hx hb de_E_standsBefore_33 rfl (lv_at hl 1 rfl) ?_
    refine dk_get (a := b) (v := .int (nI y.2.1)) (C := kn_E) (T := kt_E) (N := 4) hx hb hts ki_E hown hK hP hb0 rfl 1 (by decide) (hts _ wi_448) (fun _ h9 => h9) rfl de_E_standsBefore_34 ?_
    refine nx_icmp_le (a := x.2.1) (b := y.2.1) (tgt := 44) hx hb (by omega) (by omega) de_E_standsBefore_37 (by decide) (fun c_27 => ?_) (fun c_27 => ?_)
    · refine lv_iconst (v := nI 0) hx hb de_E_standsBefore_44 (by decide) ?_
      exact dk_zret hQ hx hb hr hlocks hP hS (Nat.le_refl _) (Nat.le_refl _) (by decide +kernel) (⟨bo_of0 (Bool.eq_false_iff.mpr fun z => by rw [en_b_iff] at z; omega), rfl⟩) de_E_standsBefore_45
    · refine lv_iconst (v := nI 1) hx hb de_E_standsBefore_40 (by decide) ?_
      refine lv_goto (tgt := 45) hx hb de_E_standsBefore_41 (by decide) ?_
      exact dk_zret hQ hx hb hr hlocks hP hS (Nat.le_refl _) (Nat.le_refl _) (by decide +kernel) (⟨bo_of1 ((en_b_iff x y).mpr (by omega)), rfl⟩) de_E_standsBefore_45
  · refine lv_aload_n hx hb de_E_standsBefore_15 rfl (lv_at hl 0 rfl) ?_
    refine dk_get (a := a) (v := .int (nI x.1)) (C := kn_E) (T := kt_E) (N := 4) hx hb hts ki_E hown hK hP ha rfl 0 (by decide) (hts _ wi_444) (fun _ h9 => h9) rfl de_E_standsBefore_16 ?_
    refine lv_aload_n hx hb de_E_standsBefore_19 rfl (lv_at hl 1 rfl) ?_
    refine dk_get (a := b) (v := .int (nI y.1)) (C := kn_E) (T := kt_E) (N := 4) hx hb hts ki_E hown hK hP hb0 rfl 0 (by decide) (hts _ wi_444) (fun _ h9 => h9) rfl de_E_standsBefore_20 ?_
    refine nx_icmp_ge (a := x.1) (b := y.1) (tgt := 44) hx hb (by omega) (by omega) de_E_standsBefore_23 (by decide) (fun c_28 => ?_) (fun c_28 => ?_)
    · refine lv_iconst (v := nI 0) hx hb de_E_standsBefore_44 (by decide) ?_
      exact dk_zret hQ hx hb hr hlocks hP hS (Nat.le_refl _) (Nat.le_refl _) (by decide +kernel) (⟨bo_of0 (Bool.eq_false_iff.mpr fun z => by rw [en_b_iff] at z; omega), rfl⟩) de_E_standsBefore_45
    · refine lv_goto (tgt := 40) hx hb de_E_standsBefore_26 (by decide) ?_
      refine lv_iconst (v := nI 1) hx hb de_E_standsBefore_40 (by decide) ?_
      refine lv_goto (tgt := 45) hx hb de_E_standsBefore_41 (by decide) ?_
      exact dk_zret hQ hx hb hr hlocks hP hS (Nat.le_refl _) (Nat.le_refl _) (by decide +kernel) (⟨bo_of1 ((en_b_iff x y).mpr (by omega)), rfl⟩) de_E_standsBefore_45
end
section
/-! RunKeeper$Row, walked (printed by gen/c_row2.py) -/
abbrev rm_R_size : Room := { frames := 0, cells := 0, slots := 0, locals := 0 }
set_option maxHeartbeats 4000000 in
set_option maxRecDepth 100000 in
theorem c_R_size (l : Launch) (G : dk_G) (w : dk_H) (h t0 t1 cap : Nat) (L : List en_T) (hr0 : rw_at G w h t0 t1 cap L) : dk_Mi l my_R_size (wd_c my_R_size mb_R_size 1 (some .int)) rm_R_size G w [.ref h] (fun r w1 => r = nI L.length ∧ w1 = w) 0 0 := by
  obtain ⟨sl, f, hh, hsl, hle, hcap, hf⟩ := hr0
  refine dk_enter (lv := [(0, .ref h)]) (by decide) (Nat.le_of_ble_eq_true rfl) rfl (fun p e s m args below meth c ls Q hQ C hP hS hl => ?_)
  obtain ⟨hx, hb, hr, hml, hlocks, hown, hnm, hts, hE⟩ := C
  have hK := hE.1
  have hN := hE.2.1
  refine lv_aload_n hx hb de_R_size_0 rfl (lv_at hl 0 rfl) ?_
  refine dk_get (a := h) (v := .int (nI L.length)) (C := kn_R) (T := kt_R) (N := 2) hx hb hts ki_R hown hK hP hh rfl 1 (by decide) (hts _ wi_41) (fun _ h9 => h9) rfl de_R_size_1 ?_
  exact dk_iret hQ hx hb hr hlocks hP hS (Nat.le_refl _) (Nat.le_refl _) (⟨rfl, rfl⟩) de_R_size_4
abbrev rm_R_isFull : Room := { frames := 0, cells := 0, slots := 0, locals := 0 }
set_option maxHeartbeats 4000000 in
set_option maxRecDepth 100000 in
theorem c_R_isFull (l : Launch) (G : dk_G) (w : dk_H) (h t0 t1 cap : Nat) (L : List en_T) (hr0 : rw_at G w h t0 t1 cap L) : dk_Mi l my_R_isFull (wd_c my_R_isFull mb_R_isFull 1 (some .boolean)) rm_R_isFull G w [.ref h] (fun r w1 => r = bo_i (decide (cap ≤ L.length)) ∧ w1 = w) 0 0 := by
  obtain ⟨sl, f, hh, hsl, hle, hcap, hf⟩ := hr0
  refine dk_enter (lv := [(0, .ref h)]) (by decide) (Nat.le_of_ble_eq_true rfl) rfl (fun p e s m args below meth c ls Q hQ C hP hS hl => ?_)
  obtain ⟨hx, hb, hr, hml, hlocks, hown, hnm, hts, hE⟩ := C
  have hK := hE.1
  have hN := hE.2.1
  refine lv_aload_n hx hb de_R_isFull_0 rfl (lv_at hl 0 rfl) ?_
  refine dk_get (a := h) (v := .int (nI L.length)) (C := kn_R) (T := kt_R) (N := 2) hx hb hts ki_R hown hK hP hh rfl 1 (by decide) (hts _ wi_41) (fun _ h9 => h9) rfl de_R_isFull_1 ?_
  refine lv_aload_n hx hb de_R_isFull_4 rfl (lv_at hl 0 rfl) ?_
  refine dk_get (a := h) (v := .ref sl) (C := kn_R) (T := kt_R) (N := 2) hx hb hts ki_R hown hK hP hh rfl 0 (by decide) (hts _ wi_40) (fun _ h9 => h9) rfl de_R_isFull_5 ?_
  refine dk_alen (a := sl) hx hb hK hP hsl 3 rfl de_R_isFull_8 ?_
  refine nx_icmp_lt (a := L.length) (b := cap) (tgt := 16) hx hb (by omega) (by omega) de_R_isFull_9 (by decide) (fun c_29 => ?_) (fun c_29 => ?_)
  · refine lv_iconst (v := nI 0) hx hb de_R_isFull_16 (by decide) ?_
    exact dk_zret hQ hx hb hr hlocks hP hS (Nat.le_refl _) (Nat.le_refl _) (by decide +kernel) (⟨bo_of0 (by simp; omega), rfl⟩) de_R_isFull_17
  · refine lv_iconst (v := nI 1) hx hb de_R_isFull_12 (by decide) ?_
    refine lv_goto (tgt := 17) hx hb de_R_isFull_13 (by decide) ?_
    exact dk_zret hQ hx hb hr hlocks hP hS (Nat.le_refl _) (Nat.le_refl _) (by decide +kernel) (⟨bo_of1 (by simp; omega), rfl⟩) de_R_isFull_17
abbrev rm_R_at : Room := { frames := 0, cells := 0, slots := 0, locals := 0 }
set_option maxHeartbeats 4000000 in
set_option maxRecDepth 100000 in
theorem c_R_at (l : Launch) (G : dk_G) (w : dk_H) (h t0 t1 cap : Nat) (L : List en_T) (hr0 : rw_at G w h t0 t1 cap L) (k : Int32) : dk_Mq l my_R_at (wd_c my_R_at mb_R_at 2 (some (.object "RunKeeper$Entry"))) rm_R_at G w [.ref h, .int k] (fun r w1 => w1 = w ∧ ((r = none ∧ ∀ j, k = nI j → j < 2 ^ 31 → L.length ≤ j) ∨ ∃ j x, k = nI j ∧ L[j]? = some x ∧ en_q w r (some x))) 0 0 := by
  obtain ⟨sl, f, hh, hsl, hle, hcap, hf⟩ := hr0
  refine dk_enter (lv := [(0, .ref h), (1, .int k)]) (by decide) (Nat.le_of_ble_eq_true rfl) rfl (fun p e s m args below meth c ls Q hQ C hP hS hl => ?_)
  obtain ⟨hx, hb, hr, hml, hlocks, hown, hnm, hts, hE⟩ := C
  have hK := hE.1
  have hN := hE.2.1
  refine lv_iload_n hx hb de_R_at_0 rfl (lv_at hl 1 rfl) ?_
  refine lv_if_lt (tgt := 21) hx hb de_R_at_1 (by decide) (fun c_30 => ?_) (fun c_30 => ?_)
  · refine lv_null hx hb de_R_at_21 ?_
    exact dk_aret (r := none) hQ hx hb hr (Or.inl ⟨_, rfl⟩) hlocks hP hS (Nat.le_refl _) (Nat.le_refl _) (⟨rfl, Or.inl ⟨rfl, fun j hj h3 => absurd c_30 (by rw [hj]; exact nI_pos h3)⟩⟩) de_R_at_22
  · obtain ⟨j0, hj0, rfl⟩ := nI_of c_30
    refine lv_iload_n hx hb de_R_at_4 rfl (lv_at hl 1 rfl) ?_
    refine lv_aload_n hx hb de_R_at_5 rfl (lv_at hl 0 rfl) ?_
    refine dk_get (a := h) (v := .int (nI L.length)) (C := kn_R) (T := kt_R) (N := 2) hx hb hts ki_R hown hK hP hh rfl 1 (by decide) (hts _ wi_41) (fun _ h9 => h9) rfl de_R_at_6 ?_
    refine nx_icmp_ge (a := j0) (b := L.length) (tgt := 21) hx hb (by omega) (by omega) de_R_at_9 (by decide) (fun c_31 => ?_) (fun c_31 => ?_)
    · refine lv_null hx hb de_R_at_21 ?_
      exact dk_aret (r := none) hQ hx hb hr (Or.inl ⟨_, rfl⟩) hlocks hP hS (Nat.le_refl _) (Nat.le_refl _) (⟨rfl, Or.inl ⟨rfl, fun j hj h3 => by have := (nI_eq hj0 h3).mp hj; omega⟩⟩) de_R_at_22
    · refine lv_aload_n hx hb de_R_at_12 rfl (lv_at hl 0 rfl) ?_
      refine dk_get (a := h) (v := .ref sl) (C := kn_R) (T := kt_R) (N := 2) hx hb hts ki_R hown hK hP hh rfl 0 (by decide) (hts _ wi_40) (fun _ h9 => h9) rfl de_R_at_13 ?_
      refine lv_iload_n hx hb de_R_at_16 rfl (lv_at hl 1 rfl) ?_
      obtain ⟨x, hx9⟩ := ge_at c_31
      obtain ⟨a9, ha9, ha8⟩ := hf _ _ hx9
      refine dk_aald (a := sl) (r := some a9) (C := dk_nE) hx hb hK hP hsl rfl j0 rfl (by omega) (by omega) ha9 de_R_at_17 ?_
      refine lv_goto (tgt := 22) hx hb de_R_at_18 (by decide) ?_
      exact dk_aret (r := some a9) hQ hx hb hr (Or.inl ⟨_, rfl⟩) hlocks hP hS (Nat.le_refl _) (Nat.le_refl _) (⟨rfl, Or.inr ⟨j0, x, rfl, hx9, a9, rfl, ha8⟩⟩) de_R_at_22
abbrev rm_R_add : Room := { frames := 0, cells := 0, slots := 0, locals := 0 }
set_option maxHeartbeats 4000000 in
set_option maxRecDepth 100000 in
theorem c_R_add (l : Launch) (G : dk_G) (w : dk_H) (h t0 t1 cap : Nat) (L : List en_T) (hr0 : rw_at G w h t0 t1 cap L) (ht : t0 ≠ 0 ∧ t1 ≠ 0 ∧ t0 ≠ t1) (a : Nat) (x : en_T) (ha : en_at w a x) (hc : L.length < cap) : dk_Mv l my_R_add (wd_c my_R_add mb_R_add 2 none) rm_R_add G w [.ref h, .ref a] (fun w1 => rw_at G w1 h t0 t1 cap (L ++ [x]) ∧ dk_fr (fun t => t = t0 ∨ t = t1) w w1) 0 0 := by
  obtain ⟨sl, f, hh, hsl, hle, hcap, hf⟩ := hr0
  obtain ⟨ht0, ht1, ht2⟩ := ht
  refine dk_enter (lv := [(0, .ref h), (1, .ref a)]) (by decide) (Nat.le_of_ble_eq_true rfl) rfl (fun p e s m args below meth c ls Q hQ C hP hS hl => ?_)
  obtain ⟨hx, hb, hr, hml, hlocks, hown, hnm, hts, hE⟩ := C
  have hK := hE.1
  have hN := hE.2.1
  refine lv_aload_n hx hb de_R_add_0 rfl (lv_at hl 1 rfl) ?_
  refine lv_ifnull hx hb de_R_add_1 ?_
  refine lv_aload_n hx hb de_R_add_4 rfl (lv_at hl 0 rfl) ?_
  refine dk_get (a := h) (v := .int (nI L.length)) (C := kn_R) (T := kt_R) (N := 2) hx hb hts ki_R hown hK hP hh rfl 1 (by decide) (hts _ wi_41) (fun _ h9 => h9) rfl de_R_add_5 ?_
  refine lv_aload_n hx hb de_R_add_8 rfl (lv_at hl 0 rfl) ?_
  refine dk_get (a := h) (v := .ref sl) (C := kn_R) (T := kt_R) (N := 2) hx hb hts ki_R hown hK hP hh rfl 0 (by decide) (hts _ wi_40) (fun _ h9 => h9) rfl de_R_add_9 ?_
  refine dk_alen (a := sl) hx hb hK hP hsl 3 rfl de_R_add_12 ?_
  refine nx_icmp_ge (a := L.length) (b := cap) (tgt := 36) hx hb (by omega) (by omega) de_R_add_13 (by decide) (fun c_33 => ?_) (fun c_33 => ?_)
  · exact absurd c_33 (by omega)
  · refine lv_aload_n hx hb de_R_add_16 rfl (lv_at hl 0 rfl) ?_
    refine dk_get (a := h) (v := .ref sl) (C := kn_R) (T := kt_R) (N := 2) hx hb hts ki_R hown hK hP hh rfl 0 (by decide) (hts _ wi_40) (fun _ h9 => h9) rfl de_R_add_17 ?_
    refine lv_aload_n hx hb de_R_add_20 rfl (lv_at hl 0 rfl) ?_
    refine dk_get (a := h) (v := .int (nI L.length)) (C := kn_R) (T := kt_R) (N := 2) hx hb hts ki_R hown hK hP hh rfl 1 (by decide) (hts _ wi_41) (fun _ h9 => h9) rfl de_R_add_21 ?_
    refine lv_aload_n hx hb de_R_add_24 rfl (lv_at hl 1 rfl) ?_
    refine dk_aast (a := sl) (v := a) (r := (kn_E, kt_E, 4)) hx hb hK hP hS hsl rfl ha rfl L.length rfl (by omega) (by omega) de_R_add_25 (fun H locs w_34 hw_35 hP hS => ?_)
    have h_36 : w_34 sl = some (t1, dk_ca G 3 cap (va_up f L.length (some a))) := dk_here hw_35
    have h_37 : w_34 h = some (t0, .inr (cx_R, [.ref sl, .int (nI L.length)])) := dk_keep hw_35 hsl hh (by omega)
    have h_38 : w_34 a = some (0, .inr (cx_E, [.int (nI x.1), .int (nI x.2.1), .long x.2.2.1, .int (bo_i x.2.2.2)])) := dk_keep hw_35 hsl ha (by omega)
    refine lv_aload_n hx hb de_R_add_26 rfl (lv_at hl 0 rfl) ?_
    refine lv_dup hx hb de_R_add_27 rfl ?_
    refine dk_get (a := h) (v := .int (nI L.length)) (C := kn_R) (T := kt_R) (N := 2) hx hb hts ki_R hown hK hP h_37 rfl 1 (by decide) (hts _ wi_41) (fun _ h9 => h9) rfl de_R_add_28 ?_
    refine lv_iconst (v := nI 1) hx hb de_R_add_31 (by decide) ?_
    refine nx_iadd (a := L.length) (b := 1) hx hb de_R_add_32 ?_
    refine dk_put (a := h) (v := .int (nI (L.length + 1))) (ty := .int) (C := kn_R) (T := kt_R) (N := 2) hx hb hts ki_R ky_R kk_R kd_R hown hK hP hS h_37 rfl 1 (by decide) (hts _ wi_41) (fun _ h9 => h9) rfl (by decide +kernel) rfl rfl (Nat.le_of_ble_eq_true rfl) de_R_add_33 (fun H locs w_39 hw_40 hP hS => ?_)
    have h_41 : w_39 h = some (t0, .inr (cx_R, [.ref sl, .int (nI (L.length + 1))])) := dk_here hw_40
    have h_42 : w_39 sl = some (t1, dk_ca G 3 cap (va_up f L.length (some a))) := dk_keep hw_40 h_37 h_36 (by omega)
    have h_43 : w_39 a = some (0, .inr (cx_E, [.int (nI x.1), .int (nI x.2.1), .long x.2.2.1, .int (bo_i x.2.2.2)])) := dk_keep hw_40 h_37 h_38 (by omega)
    have hfr : dk_fr (fun t => t = t0 ∨ t = t1) w w_39 := ((dk_fr.rf).tr ((dk_fr.up (T := _) hsl (Or.inr rfl)).eq hw_35)).tr ((dk_fr.up (T := _) h_37 (Or.inl rfl)).eq hw_40)
    exact dk_vret hQ hx hb hr hlocks hP hS (Nat.le_refl _) (Nat.le_refl _) (⟨⟨sl, va_up f L.length (some a), by rw [show (L ++ [x]).length = L.length + 1 by simp]; exact h_41, h_42, by simp; omega, hcap, (hf.app ha).fr hfr (by omega)⟩, hfr⟩) de_R_add_36
abbrev rm_R_cutTo : Room := { frames := 0, cells := 0, slots := 0, locals := 0 }
set_option maxHeartbeats 4000000 in
set_option maxRecDepth 100000 in
theorem c_R_cutTo (l : Launch) (G : dk_G) (w : dk_H) (h t0 t1 cap : Nat) (L : List en_T) (hr0 : rw_at G w h t0 t1 cap L) (ht : t0 ≠ 0 ∧ t1 ≠ 0 ∧ t0 ≠ t1) (k : Nat) (hk : k < 2 ^ 31) : dk_Mv l my_R_cutTo (wd_c my_R_cutTo mb_R_cutTo 2 none) rm_R_cutTo G w [.ref h, .int (nI k)] (fun w1 => rw_at G w1 h t0 t1 cap (L.take k) ∧ dk_fr (fun t => t = t0 ∨ t = t1) w w1) 0 0 := by
  obtain ⟨sl, f, hh, hsl, hle, hcap, hf⟩ := hr0
  obtain ⟨ht0, ht1, ht2⟩ := ht
  refine dk_enter (lv := [(0, .ref h), (1, .int (nI k))]) (by decide) (Nat.le_of_ble_eq_true rfl) rfl (fun p e s m args below meth c ls Q hQ C hP hS hl => ?_)
  obtain ⟨hx, hb, hr, hml, hlocks, hown, hnm, hts, hE⟩ := C
  have hK := hE.1
  have hN := hE.2.1
  refine lv_iload_n hx hb de_R_cutTo_0 rfl (lv_at hl 1 rfl) ?_
  refine nx_if_lt (a := k) (tgt := 17) hx hb (by omega) de_R_cutTo_1 (by decide) ?_
  refine lv_iload_n hx hb de_R_cutTo_4 rfl (lv_at hl 1 rfl) ?_
  refine lv_aload_n hx hb de_R_cutTo_5 rfl (lv_at hl 0 rfl) ?_
  refine dk_get (a := h) (v := .int (nI L.length)) (C := kn_R) (T := kt_R) (N := 2) hx hb hts ki_R hown hK hP hh rfl 1 (by decide) (hts _ wi_41) (fun _ h9 => h9) rfl de_R_cutTo_6 ?_
  refine nx_icmp_ge (a := k) (b := L.length) (tgt := 17) hx hb (by omega) (by omega) de_R_cutTo_9 (by decide) (fun c_45 => ?_) (fun c_45 => ?_)
  · exact dk_vret hQ hx hb hr hlocks hP hS (Nat.le_refl _) (Nat.le_refl _) (⟨⟨sl, f, by rw [List.take_of_length_le c_45]; exact hh, hsl, by rw [List.take_of_length_le c_45]; exact hle, hcap, hf.take k⟩, dk_fr.rf⟩) de_R_cutTo_17
  · refine lv_aload_n hx hb de_R_cutTo_12 rfl (lv_at hl 0 rfl) ?_
    refine lv_iload_n hx hb de_R_cutTo_13 rfl (lv_at hl 1 rfl) ?_
    refine dk_put (a := h) (v := .int (nI k)) (ty := .int) (C := kn_R) (T := kt_R) (N := 2) hx hb hts ki_R ky_R kk_R kd_R hown hK hP hS hh rfl 1 (by decide) (hts _ wi_41) (fun _ h9 => h9) rfl (by decide +kernel) rfl rfl (Nat.le_of_ble_eq_true rfl) de_R_cutTo_14 (fun H locs w_46 hw_47 hP hS => ?_)
    have h_48 : w_46 h = some (t0, .inr (cx_R, [.ref sl, .int (nI k)])) := dk_here hw_47
    have h_49 : w_46 sl = some (t1, dk_ca G 3 cap f) := dk_keep hw_47 hh hsl (by omega)
    have hfr : dk_fr (fun t => t = t0 ∨ t = t1) w w_46 := (dk_fr.rf).tr ((dk_fr.up (T := _) hh (Or.inl rfl)).eq hw_47)
    exact dk_vret hQ hx hb hr hlocks hP hS (Nat.le_refl _) (Nat.le_refl _) (⟨⟨sl, f, by rw [List.length_take, Nat.min_eq_left (by omega)]; exact h_48, h_49, by rw [List.length_take]; omega, hcap, (hf.take k).fr hfr (by omega)⟩, hfr⟩) de_R_cutTo_17
abbrev rm_R_init (n : Nat) : Room := { frames := 1, cells := 1, slots := n, locals := 20 }
set_option maxHeartbeats 4000000 in
set_option maxRecDepth 100000 in
theorem c_R_init (l : Launch) (G : dk_G) (w : dk_H) (h t0 t1 n : Nat) (hh : w h = some (t0, .inr (cx_R, [.null, .int 0]))) (ht0 : t0 ≠ 0) (ht2 : t0 ≠ t1) (hn : n ≤ 1024) : dk_Mv l my_R_init (wd_c my_R_init mb_R_init 2 none) (rm_R_init n) G w [.ref h, .int (nI n)] (fun w1 => rw_at G w1 h t0 t1 n [] ∧ dk_fr (fun t => t = t0) w w1) 1 n := by
  refine dk_enter (lv := [(0, .ref h), (1, .int (nI n))]) (by decide) (Nat.le_of_ble_eq_true rfl) rfl (fun p e s m args below meth c ls Q hQ C hP hS hl => ?_)
  obtain ⟨hx, hb, hr, hml, hlocks, hown, hnm, hts, hE⟩ := C
  have hK := hE.1
  have hN := hE.2.1
  refine lv_aload_n hx hb de_R_init_0 rfl (lv_at hl 0 rfl) ?_
  refine W.objInit hx hb hown (hts _ wi_37) (hts _ wi_30) (hts _ wi_31) rfl (by rw [hml]; exact hl.1) rfl de_R_init_1 (Nat.le_of_ble_eq_true rfl) (Nat.le_of_ble_eq_true rfl) ?_
  refine W.eq (g2 := F0 m 4 ls []) rfl ?_
  refine lv_aload_n hx hb de_R_init_4 rfl (lv_at hl 0 rfl) ?_
  refine lv_iconst (v := nI 0) hx hb de_R_init_5 (by decide) ?_
  refine dk_put (a := h) (v := .int (nI 0)) (ty := .int) (C := kn_R) (T := kt_R) (N := 2) hx hb hts ki_R ky_R kk_R kd_R hown hK hP hS hh rfl 1 (by decide) (hts _ wi_41) (fun _ h9 => h9) rfl (by decide +kernel) rfl rfl (Nat.le_of_ble_eq_true rfl) de_R_init_6 (fun H locs w_50 hw_51 hP hS => ?_)
  have h_52 : w_50 h = some (t0, .inr (cx_R, [.null, .int (nI 0)])) := dk_here hw_51
  refine lv_aload_n hx hb de_R_init_9 rfl (lv_at hl 0 rfl) ?_
  refine lv_iload_n hx hb de_R_init_10 rfl (lv_at hl 1 rfl) ?_
  refine dk_newq t1 3 (C := "RunKeeper$Entry") (N' := n) hx hb hown (hts _ wi_38) (va_AO.use hE.2.2.1.2.2.2.2.2.2.2.1) hK hP hS hE.2.2.2 rfl rfl (by omega) (by omega) (by first | exact Nat.le_of_ble_eq_true rfl | (simp only [Nat.zero_add]; omega) | omega) (by first | exact Nat.le_of_ble_eq_true rfl | (simp only [Nat.zero_add]; omega) | omega) de_R_init_11 (fun q_53 H w_54 hn_56 hw_55 hP hS => ?_)
  have h_57 : w_54 q_53 = some (t1, dk_ca G 3 n (fun _ => none)) := dk_here hw_55
  have h_58 : w_54 h = some (t0, .inr (cx_R, [.null, .int (nI 0)])) := dk_keepN hw_55 hn_56 h_52
  refine dk_putF (a := h) (v := .ref q_53) (ty := (.array (.object "RunKeeper$Entry"))) (C := kn_R) (T := kt_R) (N := 2) hx hb hts ki_R ky_R kk_R kd_R hown hK hP hS h_58 rfl 0 (by decide) (hts _ wi_40) (fun _ h9 => h9) rfl hnm rfl (by decide +kernel) rfl rfl (Nat.le_of_ble_eq_true rfl) de_R_init_14 (fun H locs w_59 hw_60 hP hS => ?_)
  have h_61 : w_59 h = some (t0, .inr (cx_R, [.ref q_53, .int (nI 0)])) := dk_here hw_60
  have h_62 : w_59 q_53 = some (t1, dk_ca G 3 n (fun _ => none)) := dk_keep hw_60 h_58 h_57 (by omega)
  have hfr : dk_fr (fun t => t = t0) w w_59 := (((dk_fr.rf).tr ((dk_fr.up (T := fun t => t = t0) hh rfl).eq hw_51)).tr ((dk_fr.upN hn_56).eq hw_55)).tr ((dk_fr.up (T := fun t => t = t0) h_58 rfl).eq hw_60)
  exact dk_vret hQ hx hb hr hlocks hP hS (by omega) (by omega) (⟨⟨q_53, _, h_61, h_62, Nat.zero_le _, hn, ra_ok.nil⟩, hfr⟩) de_R_init_17
abbrev rm_R_addAll : Room := { frames := 1, cells := 0, slots := 0, locals := 21 }
set_option maxHeartbeats 4000000 in
set_option maxRecDepth 100000 in
theorem c_R_addAll (l : Launch) (G : dk_G) (w : dk_H) (h t0 t1 cap : Nat) (L : List en_T) (hr0 : rw_at G w h t0 t1 cap L) (ht : t0 ≠ 0 ∧ t1 ≠ 0 ∧ t0 ≠ t1) (h2 u0 u1 cap2 : Nat) (M : List en_T) (hm0 : rw_at G w h2 u0 u1 cap2 M) (hu : u0 ≠ t0 ∧ u0 ≠ t1 ∧ u1 ≠ t0 ∧ u1 ≠ t1) (hc : L.length + M.length ≤ cap) : dk_Mv l my_R_addAll (wd_c my_R_addAll mb_R_addAll 3 none) rm_R_addAll G w [.ref h, .ref h2] (fun w1 => rw_at G w1 h t0 t1 cap (L ++ M) ∧ dk_fr (fun t => t = t0 ∨ t = t1) w w1) 0 0 := by
  have hcap : cap ≤ 1024 := hr0.choose_spec.choose_spec.2.2.2.1
  obtain ⟨ht0, ht1, ht2⟩ := ht
  obtain ⟨hu1, hu2, hu3, hu4⟩ := hu
  refine dk_enter (lv := [(0, .ref h), (1, .ref h2)]) (by decide) (Nat.le_of_ble_eq_true rfl) rfl (fun p e s m args below meth c ls Q hQ C hP hS hl => ?_)
  obtain ⟨hx, hb, hr, hml, hlocks, hown, hnm, hts, hE⟩ := C
  have hK := hE.1
  have hN := hE.2.1
  refine lv_iconst (v := nI 0) hx hb de_R_addAll_0 (by decide) ?_
  refine lv_istore_n (lv' := [(2, .int (nI 0)), (0, .ref h), (1, .ref h2)]) hx hb de_R_addAll_1 rfl hl (by decide) rfl (fun ls hl => ?_)
  have lp : ∀ (zk : Nat) (i : Nat), M.length - i < zk → (i ≤ M.length) → ∀ (H : Heap) (locs : List Loc) (v : dk_H), (rw_at G v h t0 t1 cap (L ++ M.take i)) → (dk_fr (fun t => t = t0 ∨ t = t1) w v) → dk_P G v H → dk_S G s.heap H locs → ∀ (ls : Array Slot), lv_has ls 3 [(0, .ref h), (1, .ref h2), (2, .int (nI i))] → W p l e rm_R_addAll s m args below meth c H locs 0 0 Q (F0 m 2 ls []) := by
    intro zk
    induction zk with
    | zero =>
      intro i hk
      exact absurd hk (by omega)
    | succ zk ih =>
      intro i hk hi
      intro H locs v hv hg hP hS
      intro ls hl
      have hm1 := hm0.fr hg (by omega) (by omega) (by omega)
      obtain ⟨sm, fm, hh2, hsm, hlm, hcm, hfm⟩ := hm1
      refine lv_iload_n hx hb de_R_addAll_2 rfl (lv_at hl 2 rfl) ?_
      refine lv_aload_n hx hb de_R_addAll_3 rfl (lv_at hl 1 rfl) ?_
      refine dk_get (a := h2) (v := .int (nI M.length)) (C := kn_R) (T := kt_R) (N := 2) hx hb hts ki_R hown hK hP hh2 rfl 1 (by decide) (hts _ wi_41) (fun _ h9 => h9) rfl de_R_addAll_4 ?_
      refine nx_icmp_ge (a := i) (b := M.length) (tgt := 26) hx hb (by omega) (by omega) de_R_addAll_7 (by decide) (fun c_63 => ?_) (fun c_63 => ?_)
      · have e9 : M.take i = M := List.take_of_length_le c_63
        rw [e9] at hv
        exact dk_vret hQ hx hb hr hlocks hP hS (Nat.le_refl _) (Nat.le_refl _) (⟨hv, hg⟩) de_R_addAll_26
      · refine lv_aload_n hx hb de_R_addAll_10 rfl (lv_at hl 0 rfl) ?_
        refine lv_aload_n hx hb de_R_addAll_11 rfl (lv_at hl 1 rfl) ?_
        refine dk_get (a := h2) (v := .ref sm) (C := kn_R) (T := kt_R) (N := 2) hx hb hts ki_R hown hK hP hh2 rfl 0 (by decide) (hts _ wi_40) (fun _ h9 => h9) rfl de_R_addAll_12 ?_
        refine lv_iload_n hx hb de_R_addAll_15 rfl (lv_at hl 2 rfl) ?_
        obtain ⟨x, hx9⟩ := ge_at c_63
        obtain ⟨a9, ha9, ha8⟩ := hfm _ _ hx9
        refine dk_aald (a := sm) (r := some a9) (C := dk_nE) hx hb hK hP hsm rfl i rfl (by omega) (by omega) ha9 de_R_addAll_16 ?_
        obtain ⟨sr, fr, hhr, hsr⟩ := id hv
        refine dk_callv (va_runV (As := [.ref a9]) (rest := []) ⟨hx, hb, hml, hown, hts⟩ (c_R_add l G v h t0 t1 cap (L ++ M.take i) hv ⟨ht0, ht1, ht2⟩ a9 x ha8 (by rw [List.length_append, List.length_take]; omega)) (cwV 1 hts (wd_gV (C := "RunKeeper$Row") wi_187 wi_184 wi_185 wi_186 wi_2) rfl rfl rfl (by decide +kernel) ⟨Nat.le_of_ble_eq_true rfl, Nat.le_of_ble_eq_true rfl⟩) (dk_preV (kn_R, kt_R, 2) hE hP hS hhr rfl) rfl rfl hl.1 rfl (lv_room (Nat.le_of_ble_eq_true rfl)) de_R_addAll_17 ⟨(by first | exact Nat.le_of_ble_eq_true rfl | (simp only [Nat.zero_add]; omega) | omega), (by first | exact Nat.le_of_ble_eq_true rfl | (simp only [Nat.zero_add]; omega) | omega)⟩) hS (fun w_64 H locs hq_65 hP hS => ?_)
        have e9 : L ++ M.take (i + 1) = L ++ M.take i ++ [x] := by rw [ta_s hx9, List.append_assoc]
        refine lv_iinc (v := nI (i + 1)) (lv' := [(2, .int (nI (i + 1))), (0, .ref h), (1, .ref h2)]) hx hb de_R_addAll_20 hl (k := 2) rfl (nx_inc i) (by decide) rfl (fun ls hl => ?_)
        refine lv_goto (tgt := 2) hx hb de_R_addAll_23 (by decide) ?_
        exact ih (i + 1) (by omega) (by omega) _ _ _ (by rw [e9]; exact hq_65.1) (hg.tr hq_65.2) hP hS _ (lv_sub hl [1, 2, 0] rfl)
  exact lp (M.length + 1) 0 (by omega) (Nat.zero_le _) _ _ _ (by simpa using hr0) dk_fr.rf hP hS _ (lv_sub hl [1, 2, 0] rfl)
abbrev rm_R_cutDeletedTail : Room := { frames := 0, cells := 0, slots := 0, locals := 0 }
set_option maxHeartbeats 4000000 in
set_option maxRecDepth 100000 in
theorem c_R_cutDeletedTail (l : Launch) (G : dk_G) (w : dk_H) (h t0 t1 cap : Nat) (L : List en_T) (hr0 : rw_at G w h t0 t1 cap L) (ht : t0 ≠ 0 ∧ t1 ≠ 0 ∧ t0 ≠ t1) : dk_Mv l my_R_cutDeletedTail (wd_c my_R_cutDeletedTail mb_R_cutDeletedTail 1 none) rm_R_cutDeletedTail G w [.ref h] (fun w1 => rw_at G w1 h t0 t1 cap (L.take (cd_L L L.length)) ∧ dk_fr (fun t => t = t0 ∨ t = t1) w w1) 0 0 := by
  obtain ⟨sl, f, hh, hsl, hle, hcap, hf⟩ := hr0
  obtain ⟨ht0, ht1, ht2⟩ := ht
  refine dk_enter (lv := [(0, .ref h)]) (by decide) (Nat.le_of_ble_eq_true rfl) rfl (fun p e s m args below meth c ls Q hQ C hP hS hl => ?_)
  obtain ⟨hx, hb, hr, hml, hlocks, hown, hnm, hts, hE⟩ := C
  have hK := hE.1
  have hN := hE.2.1
  have lp : ∀ (zk : Nat) (n : Nat), n < zk → (n ≤ L.length) → (cd_L L n = cd_L L L.length) → ∀ (H : Heap) (locs : List Loc) (v : dk_H), v h = some (t0, .inr (cx_R, [.ref sl, .int (nI n)])) → v sl = some (t1, dk_ca G 3 cap f) → (dk_fr (fun t => t = t0 ∨ t = t1) w v) → dk_P G v H → dk_S G s.heap H locs → ∀ (ls : Array Slot), lv_has ls 1 [(0, .ref h)] → W p l e rm_R_cutDeletedTail s m args below meth c H locs 0 0 Q (F0 m 0 ls []) := by
    intro zk
    induction zk with
    | zero =>
      intro n hk
      exact absurd hk (by omega)
    | succ zk ih =>
      intro n hk hn hcd
      intro H locs v hh hsl hg hP hS
      intro ls hl
      refine lv_aload_n hx hb de_R_cutDeletedTail_0 rfl (lv_at hl 0 rfl) ?_
      refine dk_get (a := h) (v := .int (nI n)) (C := kn_R) (T := kt_R) (N := 2) hx hb hts ki_R hown hK hP hh rfl 1 (by decide) (hts _ wi_41) (fun _ h9 => h9) rfl de_R_cutDeletedTail_1 ?_
      refine nx_if_le (a := n) (tgt := 37) hx hb (by omega) de_R_cutDeletedTail_4 (by decide) (fun c_67 => ?_) (fun c_67 => ?_)
      · have e9 : cd_L L L.length = n := by rw [← hcd, c_67]; rfl
        exact dk_vret hQ hx hb hr hlocks hP hS (Nat.le_refl _) (Nat.le_refl _) (⟨⟨sl, f, by rw [e9, List.length_take, Nat.min_eq_left (by omega)]; exact hh, hsl, by rw [List.length_take]; omega, hcap, (hf.take _).fr hg (by omega)⟩, hg⟩) de_R_cutDeletedTail_37
      · obtain ⟨n, rfl⟩ : ∃ k, n = k + 1 := ⟨n - 1, by omega⟩
        refine lv_aload_n hx hb de_R_cutDeletedTail_7 rfl (lv_at hl 0 rfl) ?_
        refine dk_get (a := h) (v := .ref sl) (C := kn_R) (T := kt_R) (N := 2) hx hb hts ki_R hown hK hP hh rfl 0 (by decide) (hts _ wi_40) (fun _ h9 => h9) rfl de_R_cutDeletedTail_8 ?_
        refine lv_aload_n hx hb de_R_cutDeletedTail_11 rfl (lv_at hl 0 rfl) ?_
        refine dk_get (a := h) (v := .int (nI (n + 1))) (C := kn_R) (T := kt_R) (N := 2) hx hb hts ki_R hown hK hP hh rfl 1 (by decide) (hts _ wi_41) (fun _ h9 => h9) rfl de_R_cutDeletedTail_12 ?_
        refine lv_iconst (v := nI 1) hx hb de_R_cutDeletedTail_15 (by decide) ?_
        refine nx_isub (a := n + 1) (b := 1) hx hb (by omega) de_R_cutDeletedTail_16 ?_
        obtain ⟨x, hx9⟩ := ge_at (L := L) (i := n) (by omega)
        obtain ⟨a9, ha9, ha8⟩ := hf _ _ hx9
        have ha7 := ha8.fr hg (by omega)
        refine dk_aald (a := sl) (r := some a9) (C := dk_nE) hx hb hK hP hsl rfl (n + 1 - 1) rfl (by omega) (by omega) (by rw [Nat.add_sub_cancel]; exact ha9) de_R_cutDeletedTail_17 ?_
        refine dk_getN (a := a9) (v := .int (bo_i x.2.2.2)) (C := kn_E) (T := kt_E) (N := 4) (host := "RunKeeper") hx hb hts ki_E hown hK hP ha7 rfl 3 (by decide) (hN.use (dn_m 454 (by decide +kernel) rfl)) (fun _ h9 => h9) rfl de_R_cutDeletedTail_18 ?_
        refine bo_if_eq (b := x.2.2.2) (tgt := 37) hx hb de_R_cutDeletedTail_21 (by decide) (fun c_68 => ?_) (fun c_68 => ?_)
        · have e9 : cd_L L L.length = n + 1 := by rw [← hcd, cd_k hx9 c_68]
          exact dk_vret hQ hx hb hr hlocks hP hS (Nat.le_refl _) (Nat.le_refl _) (⟨⟨sl, f, by rw [e9, List.length_take, Nat.min_eq_left (by omega)]; exact hh, hsl, by rw [List.length_take]; omega, hcap, (hf.take _).fr hg (by omega)⟩, hg⟩) de_R_cutDeletedTail_37
        · refine lv_aload_n hx hb de_R_cutDeletedTail_24 rfl (lv_at hl 0 rfl) ?_
          refine lv_dup hx hb de_R_cutDeletedTail_25 rfl ?_
          refine dk_get (a := h) (v := .int (nI (n + 1))) (C := kn_R) (T := kt_R) (N := 2) hx hb hts ki_R hown hK hP hh rfl 1 (by decide) (hts _ wi_41) (fun _ h9 => h9) rfl de_R_cutDeletedTail_26 ?_
          refine lv_iconst (v := nI 1) hx hb de_R_cutDeletedTail_29 (by decide) ?_
          refine nx_isub (a := n + 1) (b := 1) hx hb (by omega) de_R_cutDeletedTail_30 ?_
          refine dk_put (a := h) (v := .int (nI (n + 1 - 1))) (ty := .int) (C := kn_R) (T := kt_R) (N := 2) hx hb hts ki_R ky_R kk_R kd_R hown hK hP hS hh rfl 1 (by decide) (hts _ wi_41) (fun _ h9 => h9) rfl (by decide +kernel) rfl rfl (Nat.le_of_ble_eq_true rfl) de_R_cutDeletedTail_31 (fun H locs w_69 hw_70 hP hS => ?_)
          have h_71 : w_69 h = some (t0, .inr (cx_R, [.ref sl, .int (nI (n + 1 - 1))])) := dk_here hw_70
          have h_72 : w_69 sl = some (t1, dk_ca G 3 cap f) := dk_keep hw_70 hh hsl (by omega)
          have h_73 : w_69 a9 = some (0, .inr (cx_E, [.int (nI x.1), .int (nI x.2.1), .long x.2.2.1, .int (bo_i x.2.2.2)])) := dk_keep hw_70 hh ha7 (by omega)
          refine lv_goto (tgt := 0) hx hb de_R_cutDeletedTail_34 (by decide) ?_
          have hg2 := hg.tr ((dk_fr.rf).tr ((dk_fr.up (T := (fun t => t = t0 ∨ t = t1)) hh (Or.inl rfl)).eq hw_70))
          have hz9 : w_69 h = some (t0, .inr (cx_R, [.ref sl, .int (nI n)])) := h_71
          exact ih n (by omega) (by omega) (by rw [← hcd, cd_s hx9 c_68]) _ _ _ hz9 h_72 hg2 hP hS _ (lv_sub hl [0] rfl)
  exact lp (L.length + 1) L.length (by omega) (Nat.le_refl _) rfl _ _ _ hh hsl dk_fr.rf hP hS _ (lv_sub hl [0] rfl)
abbrev rm_R_hasKey : Room := { frames := 0, cells := 0, slots := 0, locals := 0 }
set_option maxHeartbeats 4000000 in
set_option maxRecDepth 100000 in
theorem c_R_hasKey (l : Launch) (G : dk_G) (w : dk_H) (h t0 t1 cap : Nat) (L : List en_T) (hr0 : rw_at G w h t0 t1 cap L) (k : Nat) (hk0 : k < 2 ^ 31) (hok : ∀ x ∈ L, en_ok x) : dk_Mi l my_R_hasKey (wd_c my_R_hasKey mb_R_hasKey 3 (some .boolean)) rm_R_hasKey G w [.ref h, .int (nI k)] (fun r w1 => r = bo_i (L.any (fun x => decide (x.1 = k))) ∧ w1 = w) 0 0 := by
  obtain ⟨sl, f, hh, hsl, hle, hcap, hf⟩ := hr0
  refine dk_enter (lv := [(0, .ref h), (1, .int (nI k))]) (by decide) (Nat.le_of_ble_eq_true rfl) rfl (fun p e s m args below meth c ls Q hQ C hP hS hl => ?_)
  obtain ⟨hx, hb, hr, hml, hlocks, hown, hnm, hts, hE⟩ := C
  have hK := hE.1
  have hN := hE.2.1
  refine lv_iconst (v := nI 0) hx hb de_R_hasKey_0 (by decide) ?_
  refine lv_istore_n (lv' := [(2, .int (nI 0)), (0, .ref h), (1, .int (nI k))]) hx hb de_R_hasKey_1 rfl hl (by decide) rfl (fun ls hl => ?_)
  have lp : ∀ (zk : Nat) (i : Nat), L.length - i < zk → (i ≤ L.length) → ((L.take i).any (fun x => decide (x.1 = k)) = false) → ∀ (ls : Array Slot), lv_has ls 3 [(0, .ref h), (1, .int (nI k)), (2, .int (nI i))] → W p l e rm_R_hasKey s m args below meth c s.heap [] 0 0 Q (F0 m 2 ls []) := by
    intro zk
    induction zk with
    | zero =>
      intro i hk
      exact absurd hk (by omega)
    | succ zk ih =>
      intro i hk hi hno
      intro ls hl
      refine lv_iload_n hx hb de_R_hasKey_2 rfl (lv_at hl 2 rfl) ?_
      refine lv_aload_n hx hb de_R_hasKey_3 rfl (lv_at hl 0 rfl) ?_
      refine dk_get (a := h) (v := .int (nI L.length)) (C := kn_R) (T := kt_R) (N := 2) hx hb hts ki_R hown hK hP hh rfl 1 (by decide) (hts _ wi_41) (fun _ h9 => h9) rfl de_R_hasKey_4 ?_
      refine nx_icmp_ge (a := i) (b := L.length) (tgt := 31) hx hb (by omega) (by omega) de_R_hasKey_7 (by decide) (fun c_74 => ?_) (fun c_74 => ?_)
      · refine lv_iconst (v := nI 0) hx hb de_R_hasKey_31 (by decide) ?_
        rw [List.take_of_length_le c_74] at hno
        exact dk_zret hQ hx hb hr hlocks hP hS (Nat.le_refl _) (Nat.le_refl _) (by decide +kernel) (⟨bo_of0 hno, rfl⟩) de_R_hasKey_32
      · refine lv_aload_n hx hb de_R_hasKey_10 rfl (lv_at hl 0 rfl) ?_
        refine dk_get (a := h) (v := .ref sl) (C := kn_R) (T := kt_R) (N := 2) hx hb hts ki_R hown hK hP hh rfl 0 (by decide) (hts _ wi_40) (fun _ h9 => h9) rfl de_R_hasKey_11 ?_
        refine lv_iload_n hx hb de_R_hasKey_14 rfl (lv_at hl 2 rfl) ?_
        obtain ⟨x, hx9⟩ := ge_at c_74
        obtain ⟨a9, ha9, ha8⟩ := hf _ _ hx9
        have hxk := (hok x (List.mem_of_getElem? hx9)).1
        refine dk_aald (a := sl) (r := some a9) (C := dk_nE) hx hb hK hP hsl rfl i rfl (by omega) (by omega) ha9 de_R_hasKey_15 ?_
        refine dk_getN (a := a9) (v := .int (nI x.1)) (C := kn_E) (T := kt_E) (N := 4) (host := "RunKeeper") hx hb hts ki_E hown hK hP ha8 rfl 0 (by decide) (hN.use (dn_m 446 (by decide +kernel) rfl)) (fun _ h9 => h9) rfl de_R_hasKey_16 ?_
        refine lv_iload_n hx hb de_R_hasKey_19 rfl (lv_at hl 1 rfl) ?_
        refine nx_icmp_ne (a := x.1) (b := k) (tgt := 25) hx hb (by omega) (by omega) de_R_hasKey_20 (by decide) (fun c_75 => ?_) (fun c_75 => ?_)
        · refine lv_iinc (v := nI (i + 1)) (lv' := [(2, .int (nI (i + 1))), (0, .ref h), (1, .int (nI k))]) hx hb de_R_hasKey_25 hl (k := 2) rfl (nx_inc i) (by decide) rfl (fun ls hl => ?_)
          refine lv_goto (tgt := 2) hx hb de_R_hasKey_28 (by decide) ?_
          exact ih (i + 1) (by omega) (by omega) (by rw [ta_s hx9, List.any_append, hno]; simp [c_75]) _ (lv_sub hl [1, 2, 0] rfl)
        · refine lv_iconst (v := nI 1) hx hb de_R_hasKey_23 (by decide) ?_
          exact dk_zret hQ hx hb hr hlocks hP hS (Nat.le_refl _) (Nat.le_refl _) (by decide +kernel) (⟨bo_of1 (List.any_eq_true.mpr ⟨x, List.mem_of_getElem? hx9, by simp [c_75]⟩), rfl⟩) de_R_hasKey_24
  exact lp (L.length + 1) 0 (by omega) (Nat.zero_le _) rfl _ (lv_sub hl [1, 2, 0] rfl)
abbrev rm_R_latestOf : Room := { frames := 0, cells := 0, slots := 0, locals := 0 }
set_option maxHeartbeats 4000000 in
set_option maxRecDepth 100000 in
theorem c_R_latestOf (l : Launch) (G : dk_G) (w : dk_H) (h t0 t1 cap : Nat) (L : List en_T) (hr0 : rw_at G w h t0 t1 cap L) (k u : Nat) (hk0 : k < 2 ^ 31) (hu0 : u < 2 ^ 31) (hok : ∀ x ∈ L, en_ok x) : dk_Mq l my_R_latestOf (wd_c my_R_latestOf mb_R_latestOf 6 (some (.object "RunKeeper$Entry"))) rm_R_latestOf G w [.ref h, .int (nI k), .int (nI u)] (fun r w1 => en_q w r (la_L k u L) ∧ w1 = w) 0 0 := by
  obtain ⟨sl, f, hh, hsl, hle, hcap, hf⟩ := hr0
  refine dk_enter (lv := [(0, .ref h), (1, .int (nI k)), (2, .int (nI u))]) (by decide) (Nat.le_of_ble_eq_true rfl) rfl (fun p e s m args below meth c ls Q hQ C hP hS hl => ?_)
  obtain ⟨hx, hb, hr, hml, hlocks, hown, hnm, hts, hE⟩ := C
  have hK := hE.1
  have hN := hE.2.1
  refine lv_null hx hb de_R_latestOf_0 ?_
  refine lv_astore_nN (lv' := [(3, .null), (0, .ref h), (1, .int (nI k)), (2, .int (nI u))]) hx hb de_R_latestOf_1 rfl hl (by decide) rfl (fun ls hl => ?_)
  refine lv_iconst (v := nI 0) hx hb de_R_latestOf_2 (by decide) ?_
  refine lv_istore (lv' := [(4, .int (nI 0)), (3, .null), (0, .ref h), (1, .int (nI k)), (2, .int (nI u))]) hx hb de_R_latestOf_3 hl (by decide) rfl (fun ls hl => ?_)
  have lp : ∀ (zk : Nat) (i : Nat) (r : Option Nat), L.length - i < zk → (i ≤ L.length) → (en_q w r (la_L k u (L.take i))) → ∀ (ls : Array Slot), lv_has ls 6 [(0, .ref h), (1, .int (nI k)), (2, .int (nI u)), (3, va_rf r), (4, .int (nI i))] → W p l e rm_R_latestOf s m args below meth c s.heap [] 0 0 Q (F0 m 5 ls []) := by
    intro zk
    induction zk with
    | zero =>
      intro i r hk
      exact absurd hk (by omega)
    | succ zk ih =>
      intro i r hk hi hq
      intro ls hl
      refine lv_iload hx hb de_R_latestOf_5 (lv_at hl 4 rfl) ?_
      refine lv_aload_n hx hb de_R_latestOf_7 rfl (lv_at hl 0 rfl) ?_
      refine dk_get (a := h) (v := .int (nI L.length)) (C := kn_R) (T := kt_R) (N := 2) hx hb hts ki_R hown hK hP hh rfl 1 (by decide) (hts _ wi_41) (fun _ h9 => h9) rfl de_R_latestOf_8 ?_
      refine nx_icmp_ge (a := i) (b := L.length) (tgt := 66) hx hb (by omega) (by omega) de_R_latestOf_11 (by decide) (fun c_76 => ?_) (fun c_76 => ?_)
      · rw [List.take_of_length_le c_76] at hq
        cases r with
        | none =>
          refine lv_aload_nN hx hb de_R_latestOf_66 rfl (lv_at hl 3 rfl) ?_
          exact dk_aret (r := none) hQ hx hb hr (Or.inl ⟨_, rfl⟩) hlocks hP hS (Nat.le_refl _) (Nat.le_refl _) (⟨hq, rfl⟩) de_R_latestOf_67
        | some b =>
          refine lv_aload_n hx hb de_R_latestOf_66 rfl (lv_at hl 3 rfl) ?_
          exact dk_aret (r := some b) hQ hx hb hr (Or.inl ⟨_, rfl⟩) hlocks hP hS (Nat.le_refl _) (Nat.le_refl _) (⟨hq, rfl⟩) de_R_latestOf_67
      · refine lv_aload_n hx hb de_R_latestOf_14 rfl (lv_at hl 0 rfl) ?_
        refine dk_get (a := h) (v := .ref sl) (C := kn_R) (T := kt_R) (N := 2) hx hb hts ki_R hown hK hP hh rfl 0 (by decide) (hts _ wi_40) (fun _ h9 => h9) rfl de_R_latestOf_15 ?_
        refine lv_iload hx hb de_R_latestOf_18 (lv_at hl 4 rfl) ?_
        obtain ⟨x, hx9⟩ := ge_at c_76
        obtain ⟨a9, ha9, ha8⟩ := hf _ _ hx9
        have hxk := (hok x (List.mem_of_getElem? hx9)).1
        have hxs := (hok x (List.mem_of_getElem? hx9)).2
        have hsn := la_snoc k u (L.take i) x
        rw [← ta_s hx9] at hsn
        refine dk_aald (a := sl) (r := some a9) (C := dk_nE) hx hb hK hP hsl rfl i rfl (by omega) (by omega) ha9 de_R_latestOf_20 ?_
        refine lv_astore (lv' := [(5, .ref a9), (0, .ref h), (1, .int (nI k)), (2, .int (nI u)), (3, va_rf r), (4, .int (nI i))]) hx hb de_R_latestOf_21 hl (by decide) (by cases r <;> rfl) (fun ls hl => ?_)
        refine lv_aload hx hb de_R_latestOf_23 (lv_at hl 0 rfl) ?_
        refine dk_getN (a := a9) (v := .int (nI x.1)) (C := kn_E) (T := kt_E) (N := 4) (host := "RunKeeper") hx hb hts ki_E hown hK hP ha8 rfl 0 (by decide) (hN.use (dn_m 446 (by decide +kernel) rfl)) (fun _ h9 => h9) rfl de_R_latestOf_25 ?_
        refine lv_iload_n hx hb de_R_latestOf_28 rfl (lv_at hl 2 rfl) ?_
        refine nx_icmp_ne (a := x.1) (b := k) (tgt := 60) hx hb (by omega) (by omega) de_R_latestOf_29 (by decide) (fun c_77 => ?_) (fun c_77 => ?_)
        · refine lv_iinc (v := nI (i + 1)) (lv' := [(4, .int (nI (i + 1))), (5, .ref a9), (0, .ref h), (1, .int (nI k)), (2, .int (nI u)), (3, va_rf r)]) hx hb de_R_latestOf_60 hl (k := 5) rfl (nx_inc i) (by decide) (by cases r <;> rfl) (fun ls hl => ?_)
          refine lv_goto (tgt := 5) hx hb de_R_latestOf_63 (by decide) ?_
          exact ih (i + 1) r (by omega) (by omega) (by rw [hsn, la_f, if_neg (fun z => c_77 z.1)]; exact hq) _ (lv_sub hl [2, 3, 4, 5, 0] rfl)
        · refine lv_aload hx hb de_R_latestOf_32 (lv_at hl 0 rfl) ?_
          refine dk_getN (a := a9) (v := .int (nI x.2.1)) (C := kn_E) (T := kt_E) (N := 4) (host := "RunKeeper") hx hb hts ki_E hown hK hP ha8 rfl 1 (by decide) (hN.use (dn_m 449 (by decide +kernel) rfl)) (fun _ h9 => h9) rfl de_R_latestOf_34 ?_
          refine lv_iload_n hx hb de_R_latestOf_37 rfl (lv_at hl 3 rfl) ?_
          refine nx_icmp_gt (a := x.2.1) (b := u) (tgt := 60) hx hb (by omega) (by omega) de_R_latestOf_38 (by decide) (fun c_78 => ?_) (fun c_78 => ?_)
          · refine lv_iinc (v := nI (i + 1)) (lv' := [(4, .int (nI (i + 1))), (5, .ref a9), (0, .ref h), (1, .int (nI k)), (2, .int (nI u)), (3, va_rf r)]) hx hb de_R_latestOf_60 hl (k := 5) rfl (nx_inc i) (by decide) (by cases r <;> rfl) (fun ls hl => ?_)
            refine lv_goto (tgt := 5) hx hb de_R_latestOf_63 (by decide) ?_
            exact ih (i + 1) r (by omega) (by omega) (by rw [hsn, la_f, if_neg (fun z => absurd z.2.1 (by omega))]; exact hq) _ (lv_sub hl [2, 3, 4, 5, 0] rfl)
          · cases hla : la_L k u (L.take i) with
            | none =>
              rw [hla] at hq hsn
              have hq0 : r = none := hq
              subst hq0
              refine lv_aload_nN hx hb de_R_latestOf_41 rfl (lv_at hl 4 rfl) ?_
              refine lv_ifnullN (tgt := 57) hx hb de_R_latestOf_42 (by decide) ?_
              refine lv_aload hx hb de_R_latestOf_57 (lv_at hl 0 rfl) ?_
              refine lv_astore_n (lv' := [(3, .ref a9), (5, .ref a9), (0, .ref h), (1, .int (nI k)), (2, .int (nI u)), (4, .int (nI i))]) hx hb de_R_latestOf_59 rfl hl (by decide) rfl (fun ls hl => ?_)
              refine lv_iinc (v := nI (i + 1)) (lv' := [(4, .int (nI (i + 1))), (3, .ref a9), (5, .ref a9), (0, .ref h), (1, .int (nI k)), (2, .int (nI u))]) hx hb de_R_latestOf_60 hl (k := 5) rfl (nx_inc i) (by decide) rfl (fun ls hl => ?_)
              refine lv_goto (tgt := 5) hx hb de_R_latestOf_63 (by decide) ?_
              exact ih (i + 1) (some a9) (by omega) (by omega) (by rw [hsn, la_f, if_pos ⟨c_77, c_78, rfl⟩]; exact ⟨a9, rfl, ha8⟩) _ (lv_sub hl [3, 4, 5, 1, 0] rfl)
            | some y =>
              rw [hla] at hq hsn
              obtain ⟨b, hb9, hb8⟩ := id hq
              subst hb9
              have hys : en_ok y := hok y (la_mem hla)
              have hys := hys.2
              refine lv_aload_n hx hb de_R_latestOf_41 rfl (lv_at hl 4 rfl) ?_
              refine lv_ifnull hx hb de_R_latestOf_42 ?_
              refine lv_aload_n hx hb de_R_latestOf_45 rfl (lv_at hl 4 rfl) ?_
              refine dk_getN (a := b) (v := .int (nI y.2.1)) (C := kn_E) (T := kt_E) (N := 4) (host := "RunKeeper") hx hb hts ki_E hown hK hP hb8 rfl 1 (by decide) (hN.use (dn_m 449 (by decide +kernel) rfl)) (fun _ h9 => h9) rfl de_R_latestOf_46 ?_
              refine lv_aload hx hb de_R_latestOf_49 (lv_at hl 0 rfl) ?_
              refine dk_getN (a := a9) (v := .int (nI x.2.1)) (C := kn_E) (T := kt_E) (N := 4) (host := "RunKeeper") hx hb hts ki_E hown hK hP ha8 rfl 1 (by decide) (hN.use (dn_m 449 (by decide +kernel) rfl)) (fun _ h9 => h9) rfl de_R_latestOf_51 ?_
              refine nx_icmp_ge (a := y.2.1) (b := x.2.1) (tgt := 60) hx hb (by omega) (by omega) de_R_latestOf_54 (by decide) (fun c_81 => ?_) (fun c_81 => ?_)
              · refine lv_iinc (v := nI (i + 1)) (lv' := [(4, .int (nI (i + 1))), (5, .ref a9), (0, .ref h), (1, .int (nI k)), (2, .int (nI u)), (3, .ref b)]) hx hb de_R_latestOf_60 hl (k := 5) rfl (nx_inc i) (by decide) rfl (fun ls hl => ?_)
                refine lv_goto (tgt := 5) hx hb de_R_latestOf_63 (by decide) ?_
                exact ih (i + 1) (some b) (by omega) (by omega) (by rw [hsn, la_f, if_neg (fun z => by have := z.2.2; simp at this; omega)]; exact hq) _ (lv_sub hl [2, 3, 4, 5, 0] rfl)
              · refine lv_aload hx hb de_R_latestOf_57 (lv_at hl 0 rfl) ?_
                refine lv_astore_n (lv' := [(3, .ref a9), (5, .ref a9), (0, .ref h), (1, .int (nI k)), (2, .int (nI u)), (4, .int (nI i))]) hx hb de_R_latestOf_59 rfl hl (by decide) rfl (fun ls hl => ?_)
                refine lv_iinc (v := nI (i + 1)) (lv' := [(4, .int (nI (i + 1))), (3, .ref a9), (5, .ref a9), (0, .ref h), (1, .int (nI k)), (2, .int (nI u))]) hx hb de_R_latestOf_60 hl (k := 5) rfl (nx_inc i) (by decide) rfl (fun ls hl => ?_)
                refine lv_goto (tgt := 5) hx hb de_R_latestOf_63 (by decide) ?_
                exact ih (i + 1) (some a9) (by omega) (by omega) (by rw [hsn, la_f, if_pos ⟨c_77, c_78, by simp; omega⟩]; exact ⟨a9, rfl, ha8⟩) _ (lv_sub hl [3, 4, 5, 1, 0] rfl)
  exact lp (L.length + 1) 0 none (by omega) (Nat.zero_le _) rfl _ (lv_sub hl [2, 3, 4, 1, 0] rfl)
end
section
/-! decode rows (printed by gen/mk_names.py) -/
theorem de_A_init_0 : decode mb_A_init 0 = .ok (.aload_n 0, 1) := by decide +kernel
theorem de_A_init_1 : decode mb_A_init 1 = .ok (.invokespecial 1, 3) := by decide +kernel
theorem de_A_init_4 : decode mb_A_init 4 = .ok (.aload_n 0, 1) := by decide +kernel
theorem de_A_init_5 : decode mb_A_init 5 = .ok (.getstatic 39, 3) := by decide +kernel
theorem de_A_init_8 : decode mb_A_init 8 = .ok (.putfield 9, 3) := by decide +kernel
theorem de_A_init_11 : decode mb_A_init 11 = .ok (.return_, 1) := by decide +kernel
theorem de_B_init_0 : decode mb_B_init 0 = .ok (.aload_n 0, 1) := by decide +kernel
theorem de_B_init_1 : decode mb_B_init 1 = .ok (.invokespecial 1, 3) := by decide +kernel
theorem de_B_init_4 : decode mb_B_init 4 = .ok (.aload_n 0, 1) := by decide +kernel
theorem de_B_init_5 : decode mb_B_init 5 = .ok (.iconst 0, 1) := by decide +kernel
theorem de_B_init_6 : decode mb_B_init 6 = .ok (.putfield 7, 3) := by decide +kernel
theorem de_B_init_9 : decode mb_B_init 9 = .ok (.return_, 1) := by decide +kernel
theorem de_C_init_0 : decode mb_C_init 0 = .ok (.aload_n 0, 1) := by decide +kernel
theorem de_C_init_1 : decode mb_C_init 1 = .ok (.invokespecial 1, 3) := by decide +kernel
theorem de_C_init_4 : decode mb_C_init 4 = .ok (.return_, 1) := by decide +kernel
theorem de_A_add_0 : decode mb_A_add 0 = .ok (.aload_n 0, 1) := by decide +kernel
theorem de_A_add_1 : decode mb_A_add 1 = .ok (.dup, 1) := by decide +kernel
theorem de_A_add_2 : decode mb_A_add 2 = .ok (.getfield 63, 3) := by decide +kernel
theorem de_A_add_5 : decode mb_A_add 5 = .ok (.iconst 1, 1) := by decide +kernel
theorem de_A_add_6 : decode mb_A_add 6 = .ok (.iadd, 1) := by decide +kernel
theorem de_A_add_7 : decode mb_A_add 7 = .ok (.putfield 63, 3) := by decide +kernel
theorem de_A_add_10 : decode mb_A_add 10 = .ok (.aload_n 0, 1) := by decide +kernel
theorem de_A_add_11 : decode mb_A_add 11 = .ok (.aload_n 1, 1) := by decide +kernel
theorem de_A_add_12 : decode mb_A_add 12 = .ok (.aload_n 0, 1) := by decide +kernel
theorem de_A_add_13 : decode mb_A_add 13 = .ok (.getfield 9, 3) := by decide +kernel
theorem de_A_add_16 : decode mb_A_add 16 = .ok (.aload_n 0, 1) := by decide +kernel
theorem de_A_add_17 : decode mb_A_add 17 = .ok (.getfield 48, 3) := by decide +kernel
theorem de_A_add_20 : decode mb_A_add 20 = .ok (.invokevirtual 131, 3) := by decide +kernel
theorem de_A_add_23 : decode mb_A_add 23 = .ok (.iconst 1, 1) := by decide +kernel
theorem de_A_add_24 : decode mb_A_add 24 = .ok (.ireturn, 1) := by decide +kernel
theorem de_A_add2_0 : decode mb_A_add2 0 = .ok (.iload_n 3, 1) := by decide +kernel
theorem de_A_add2_1 : decode mb_A_add2 1 = .ok (.aload_n 2, 1) := by decide +kernel
theorem de_A_add2_2 : decode mb_A_add2 2 = .ok (.arraylength, 1) := by decide +kernel
theorem de_A_add2_3 : decode mb_A_add2 3 = .ok (.if_icmp .ne 8, 3) := by decide +kernel
theorem de_A_add2_6 : decode mb_A_add2 6 = .ok (.aload_n 0, 1) := by decide +kernel
theorem de_A_add2_7 : decode mb_A_add2 7 = .ok (.invokevirtual 129, 3) := by decide +kernel
theorem de_A_add2_10 : decode mb_A_add2 10 = .ok (.astore_n 2, 1) := by decide +kernel
theorem de_A_add2_11 : decode mb_A_add2 11 = .ok (.aload_n 2, 1) := by decide +kernel
theorem de_A_add2_12 : decode mb_A_add2 12 = .ok (.iload_n 3, 1) := by decide +kernel
theorem de_A_add2_13 : decode mb_A_add2 13 = .ok (.aload_n 1, 1) := by decide +kernel
theorem de_A_add2_14 : decode mb_A_add2 14 = .ok (.aastore, 1) := by decide +kernel
theorem de_A_add2_15 : decode mb_A_add2 15 = .ok (.aload_n 0, 1) := by decide +kernel
theorem de_A_add2_16 : decode mb_A_add2 16 = .ok (.iload_n 3, 1) := by decide +kernel
theorem de_A_add2_17 : decode mb_A_add2 17 = .ok (.iconst 1, 1) := by decide +kernel
theorem de_A_add2_18 : decode mb_A_add2 18 = .ok (.iadd, 1) := by decide +kernel
theorem de_A_add2_19 : decode mb_A_add2 19 = .ok (.putfield 48, 3) := by decide +kernel
theorem de_A_add2_22 : decode mb_A_add2 22 = .ok (.return_, 1) := by decide +kernel
theorem de_A_grow_0 : decode mb_A_grow 0 = .ok (.aload_n 0, 1) := by decide +kernel
theorem de_A_grow_1 : decode mb_A_grow 1 = .ok (.aload_n 0, 1) := by decide +kernel
theorem de_A_grow_2 : decode mb_A_grow 2 = .ok (.getfield 48, 3) := by decide +kernel
theorem de_A_grow_5 : decode mb_A_grow 5 = .ok (.iconst 1, 1) := by decide +kernel
theorem de_A_grow_6 : decode mb_A_grow 6 = .ok (.iadd, 1) := by decide +kernel
theorem de_A_grow_7 : decode mb_A_grow 7 = .ok (.invokevirtual 69, 3) := by decide +kernel
theorem de_A_grow_10 : decode mb_A_grow 10 = .ok (.areturn, 1) := by decide +kernel
theorem de_A_grow2_0 : decode mb_A_grow2 0 = .ok (.aload_n 0, 1) := by decide +kernel
theorem de_A_grow2_1 : decode mb_A_grow2 1 = .ok (.getfield 9, 3) := by decide +kernel
theorem de_A_grow2_4 : decode mb_A_grow2 4 = .ok (.arraylength, 1) := by decide +kernel
theorem de_A_grow2_5 : decode mb_A_grow2 5 = .ok (.istore_n 2, 1) := by decide +kernel
theorem de_A_grow2_6 : decode mb_A_grow2 6 = .ok (.iload_n 2, 1) := by decide +kernel
theorem de_A_grow2_7 : decode mb_A_grow2 7 = .ok (.ifCond .gt 13, 3) := by decide +kernel
theorem de_A_grow2_10 : decode mb_A_grow2 10 = .ok (.aload_n 0, 1) := by decide +kernel
theorem de_A_grow2_11 : decode mb_A_grow2 11 = .ok (.getfield 9, 3) := by decide +kernel
theorem de_A_grow2_14 : decode mb_A_grow2 14 = .ok (.getstatic 39, 3) := by decide +kernel
theorem de_A_grow2_17 : decode mb_A_grow2 17 = .ok (.if_acmp .eq 28, 3) := by decide +kernel
theorem de_A_grow2_20 : decode mb_A_grow2 20 = .ok (.iload_n 2, 1) := by decide +kernel
theorem de_A_grow2_21 : decode mb_A_grow2 21 = .ok (.iload_n 1, 1) := by decide +kernel
theorem de_A_grow2_22 : decode mb_A_grow2 22 = .ok (.iload_n 2, 1) := by decide +kernel
theorem de_A_grow2_23 : decode mb_A_grow2 23 = .ok (.isub, 1) := by decide +kernel
theorem de_A_grow2_24 : decode mb_A_grow2 24 = .ok (.iload_n 2, 1) := by decide +kernel
theorem de_A_grow2_25 : decode mb_A_grow2 25 = .ok (.iconst 1, 1) := by decide +kernel
theorem de_A_grow2_26 : decode mb_A_grow2 26 = .ok (.ishr, 1) := by decide +kernel
theorem de_A_grow2_27 : decode mb_A_grow2 27 = .ok (.invokestatic 73, 3) := by decide +kernel
theorem de_A_grow2_30 : decode mb_A_grow2 30 = .ok (.istore_n 3, 1) := by decide +kernel
theorem de_A_grow2_31 : decode mb_A_grow2 31 = .ok (.aload_n 0, 1) := by decide +kernel
theorem de_A_grow2_32 : decode mb_A_grow2 32 = .ok (.aload_n 0, 1) := by decide +kernel
theorem de_A_grow2_33 : decode mb_A_grow2 33 = .ok (.getfield 9, 3) := by decide +kernel
theorem de_A_grow2_36 : decode mb_A_grow2 36 = .ok (.iload_n 3, 1) := by decide +kernel
theorem de_A_grow2_37 : decode mb_A_grow2 37 = .ok (.invokestatic 66, 3) := by decide +kernel
theorem de_A_grow2_40 : decode mb_A_grow2 40 = .ok (.dup_x1, 1) := by decide +kernel
theorem de_A_grow2_41 : decode mb_A_grow2 41 = .ok (.putfield 9, 3) := by decide +kernel
theorem de_A_grow2_44 : decode mb_A_grow2 44 = .ok (.areturn, 1) := by decide +kernel
theorem de_A_grow2_45 : decode mb_A_grow2 45 = .ok (.aload_n 0, 1) := by decide +kernel
theorem de_A_grow2_46 : decode mb_A_grow2 46 = .ok (.bipush 10, 2) := by decide +kernel
theorem de_A_grow2_48 : decode mb_A_grow2 48 = .ok (.iload_n 1, 1) := by decide +kernel
theorem de_A_grow2_49 : decode mb_A_grow2 49 = .ok (.invokestatic 79, 3) := by decide +kernel
theorem de_A_grow2_52 : decode mb_A_grow2 52 = .ok (.anewarray 7, 3) := by decide +kernel
theorem de_A_grow2_55 : decode mb_A_grow2 55 = .ok (.dup_x1, 1) := by decide +kernel
theorem de_A_grow2_56 : decode mb_A_grow2 56 = .ok (.putfield 9, 3) := by decide +kernel
theorem de_A_grow2_59 : decode mb_A_grow2 59 = .ok (.areturn, 1) := by decide +kernel
theorem de_D_newLength_0 : decode mb_D_newLength 0 = .ok (.iload_n 0, 1) := by decide +kernel
theorem de_D_newLength_1 : decode mb_D_newLength 1 = .ok (.iload_n 1, 1) := by decide +kernel
theorem de_D_newLength_2 : decode mb_D_newLength 2 = .ok (.iload_n 2, 1) := by decide +kernel
theorem de_D_newLength_3 : decode mb_D_newLength 3 = .ok (.invokestatic 194, 3) := by decide +kernel
theorem de_D_newLength_6 : decode mb_D_newLength 6 = .ok (.iadd, 1) := by decide +kernel
theorem de_D_newLength_7 : decode mb_D_newLength 7 = .ok (.istore_n 3, 1) := by decide +kernel
theorem de_D_newLength_8 : decode mb_D_newLength 8 = .ok (.iconst 0, 1) := by decide +kernel
theorem de_D_newLength_9 : decode mb_D_newLength 9 = .ok (.iload_n 3, 1) := by decide +kernel
theorem de_D_newLength_10 : decode mb_D_newLength 10 = .ok (.if_icmp .ge 11, 3) := by decide +kernel
theorem de_D_newLength_13 : decode mb_D_newLength 13 = .ok (.iload_n 3, 1) := by decide +kernel
theorem de_D_newLength_14 : decode mb_D_newLength 14 = .ok (.ldc 200, 2) := by decide +kernel
theorem de_D_newLength_16 : decode mb_D_newLength 16 = .ok (.if_icmp .gt 5, 3) := by decide +kernel
theorem de_D_newLength_19 : decode mb_D_newLength 19 = .ok (.iload_n 3, 1) := by decide +kernel
theorem de_D_newLength_20 : decode mb_D_newLength 20 = .ok (.ireturn, 1) := by decide +kernel
theorem de_D_newLength_21 : decode mb_D_newLength 21 = .ok (.iload_n 0, 1) := by decide +kernel
theorem de_D_newLength_22 : decode mb_D_newLength 22 = .ok (.iload_n 1, 1) := by decide +kernel
theorem de_D_newLength_23 : decode mb_D_newLength 23 = .ok (.invokestatic 201, 3) := by decide +kernel
theorem de_D_newLength_26 : decode mb_D_newLength 26 = .ok (.ireturn, 1) := by decide +kernel
theorem de_F_max_0 : decode mb_F_max 0 = .ok (.iload_n 0, 1) := by decide +kernel
theorem de_F_max_1 : decode mb_F_max 1 = .ok (.iload_n 1, 1) := by decide +kernel
theorem de_F_max_2 : decode mb_F_max 2 = .ok (.if_icmp .lt 7, 3) := by decide +kernel
theorem de_F_max_5 : decode mb_F_max 5 = .ok (.iload_n 0, 1) := by decide +kernel
theorem de_F_max_6 : decode mb_F_max 6 = .ok (.goto 4, 3) := by decide +kernel
theorem de_F_max_9 : decode mb_F_max 9 = .ok (.iload_n 1, 1) := by decide +kernel
theorem de_F_max_10 : decode mb_F_max 10 = .ok (.ireturn, 1) := by decide +kernel
theorem de_D_hugeLength_0 : decode mb_D_hugeLength 0 = .ok (.iload_n 0, 1) := by decide +kernel
theorem de_D_hugeLength_1 : decode mb_D_hugeLength 1 = .ok (.iload_n 1, 1) := by decide +kernel
theorem de_D_hugeLength_2 : decode mb_D_hugeLength 2 = .ok (.iadd, 1) := by decide +kernel
theorem de_D_hugeLength_3 : decode mb_D_hugeLength 3 = .ok (.istore_n 2, 1) := by decide +kernel
theorem de_D_hugeLength_4 : decode mb_D_hugeLength 4 = .ok (.iload_n 2, 1) := by decide +kernel
theorem de_D_hugeLength_5 : decode mb_D_hugeLength 5 = .ok (.ifCond .ge 44, 3) := by decide +kernel
theorem de_D_hugeLength_8 : decode mb_D_hugeLength 8 = .ok (.new 204, 3) := by decide +kernel
theorem de_D_hugeLength_11 : decode mb_D_hugeLength 11 = .ok (.dup, 1) := by decide +kernel
theorem de_D_hugeLength_12 : decode mb_D_hugeLength 12 = .ok (.new 89, 3) := by decide +kernel
theorem de_D_hugeLength_15 : decode mb_D_hugeLength 15 = .ok (.dup, 1) := by decide +kernel
theorem de_D_hugeLength_16 : decode mb_D_hugeLength 16 = .ok (.invokespecial 91, 3) := by decide +kernel
theorem de_D_hugeLength_19 : decode mb_D_hugeLength 19 = .ok (.ldc 206, 2) := by decide +kernel
theorem de_D_hugeLength_21 : decode mb_D_hugeLength 21 = .ok (.invokevirtual 94, 3) := by decide +kernel
theorem de_D_hugeLength_24 : decode mb_D_hugeLength 24 = .ok (.iload_n 0, 1) := by decide +kernel
theorem de_D_hugeLength_25 : decode mb_D_hugeLength 25 = .ok (.invokevirtual 98, 3) := by decide +kernel
theorem de_D_hugeLength_28 : decode mb_D_hugeLength 28 = .ok (.ldc 208, 2) := by decide +kernel
theorem de_D_hugeLength_30 : decode mb_D_hugeLength 30 = .ok (.invokevirtual 94, 3) := by decide +kernel
theorem de_D_hugeLength_33 : decode mb_D_hugeLength 33 = .ok (.iload_n 1, 1) := by decide +kernel
theorem de_D_hugeLength_34 : decode mb_D_hugeLength 34 = .ok (.invokevirtual 98, 3) := by decide +kernel
theorem de_D_hugeLength_37 : decode mb_D_hugeLength 37 = .ok (.ldc 210, 2) := by decide +kernel
theorem de_D_hugeLength_39 : decode mb_D_hugeLength 39 = .ok (.invokevirtual 94, 3) := by decide +kernel
theorem de_D_hugeLength_42 : decode mb_D_hugeLength 42 = .ok (.invokevirtual 101, 3) := by decide +kernel
theorem de_D_hugeLength_45 : decode mb_D_hugeLength 45 = .ok (.invokespecial 212, 3) := by decide +kernel
theorem de_D_hugeLength_48 : decode mb_D_hugeLength 48 = .ok (.athrow, 1) := by decide +kernel
theorem de_D_hugeLength_49 : decode mb_D_hugeLength 49 = .ok (.iload_n 2, 1) := by decide +kernel
theorem de_D_hugeLength_50 : decode mb_D_hugeLength 50 = .ok (.ldc 200, 2) := by decide +kernel
theorem de_D_hugeLength_52 : decode mb_D_hugeLength 52 = .ok (.if_icmp .gt 6, 3) := by decide +kernel
theorem de_D_hugeLength_55 : decode mb_D_hugeLength 55 = .ok (.ldc 200, 2) := by decide +kernel
theorem de_D_hugeLength_57 : decode mb_D_hugeLength 57 = .ok (.ireturn, 1) := by decide +kernel
theorem de_D_hugeLength_58 : decode mb_D_hugeLength 58 = .ok (.iload_n 2, 1) := by decide +kernel
theorem de_D_hugeLength_59 : decode mb_D_hugeLength 59 = .ok (.ireturn, 1) := by decide +kernel
theorem de_G_copyOf_0 : decode mb_G_copyOf 0 = .ok (.aload_n 0, 1) := by decide +kernel
theorem de_G_copyOf_1 : decode mb_G_copyOf 1 = .ok (.iload_n 1, 1) := by decide +kernel
theorem de_G_copyOf_2 : decode mb_G_copyOf 2 = .ok (.aload_n 0, 1) := by decide +kernel
theorem de_G_copyOf_3 : decode mb_G_copyOf 3 = .ok (.invokevirtual 86, 3) := by decide +kernel
theorem de_G_copyOf_6 : decode mb_G_copyOf 6 = .ok (.invokestatic 300, 3) := by decide +kernel
theorem de_G_copyOf_9 : decode mb_G_copyOf 9 = .ok (.areturn, 1) := by decide +kernel
theorem de_G_copyOf2_0 : decode mb_G_copyOf2 0 = .ok (.aload_n 2, 1) := by decide +kernel
theorem de_G_copyOf2_1 : decode mb_G_copyOf2 1 = .ok (.ldc 110, 2) := by decide +kernel
theorem de_G_copyOf2_3 : decode mb_G_copyOf2 3 = .ok (.if_acmp .ne 10, 3) := by decide +kernel
theorem de_G_copyOf2_6 : decode mb_G_copyOf2 6 = .ok (.iload_n 1, 1) := by decide +kernel
theorem de_G_copyOf2_7 : decode mb_G_copyOf2 7 = .ok (.anewarray 2, 3) := by decide +kernel
theorem de_G_copyOf2_10 : decode mb_G_copyOf2 10 = .ok (.goto 14, 3) := by decide +kernel
theorem de_G_copyOf2_13 : decode mb_G_copyOf2 13 = .ok (.aload_n 2, 1) := by decide +kernel
theorem de_G_copyOf2_14 : decode mb_G_copyOf2 14 = .ok (.invokevirtual 90, 3) := by decide +kernel
theorem de_G_copyOf2_17 : decode mb_G_copyOf2 17 = .ok (.iload_n 1, 1) := by decide +kernel
theorem de_G_copyOf2_18 : decode mb_G_copyOf2 18 = .ok (.invokestatic 95, 3) := by decide +kernel
theorem de_G_copyOf2_21 : decode mb_G_copyOf2 21 = .ok (.checkcast 110, 3) := by decide +kernel
theorem de_G_copyOf2_24 : decode mb_G_copyOf2 24 = .ok (.astore_n 3, 1) := by decide +kernel
theorem de_G_copyOf2_25 : decode mb_G_copyOf2 25 = .ok (.aload_n 0, 1) := by decide +kernel
theorem de_G_copyOf2_26 : decode mb_G_copyOf2 26 = .ok (.iconst 0, 1) := by decide +kernel
theorem de_G_copyOf2_27 : decode mb_G_copyOf2 27 = .ok (.aload_n 3, 1) := by decide +kernel
theorem de_G_copyOf2_28 : decode mb_G_copyOf2 28 = .ok (.iconst 0, 1) := by decide +kernel
theorem de_G_copyOf2_29 : decode mb_G_copyOf2 29 = .ok (.aload_n 0, 1) := by decide +kernel
theorem de_G_copyOf2_30 : decode mb_G_copyOf2 30 = .ok (.arraylength, 1) := by decide +kernel
theorem de_G_copyOf2_31 : decode mb_G_copyOf2 31 = .ok (.iload_n 1, 1) := by decide +kernel
theorem de_G_copyOf2_32 : decode mb_G_copyOf2 32 = .ok (.invokestatic 304, 3) := by decide +kernel
theorem de_G_copyOf2_35 : decode mb_G_copyOf2 35 = .ok (.invokestatic 150, 3) := by decide +kernel
theorem de_G_copyOf2_38 : decode mb_G_copyOf2 38 = .ok (.aload_n 3, 1) := by decide +kernel
theorem de_G_copyOf2_39 : decode mb_G_copyOf2 39 = .ok (.areturn, 1) := by decide +kernel
theorem de_F_min_0 : decode mb_F_min 0 = .ok (.iload_n 0, 1) := by decide +kernel
theorem de_F_min_1 : decode mb_F_min 1 = .ok (.iload_n 1, 1) := by decide +kernel
theorem de_F_min_2 : decode mb_F_min 2 = .ok (.if_icmp .gt 7, 3) := by decide +kernel
theorem de_F_min_5 : decode mb_F_min 5 = .ok (.iload_n 0, 1) := by decide +kernel
theorem de_F_min_6 : decode mb_F_min 6 = .ok (.goto 4, 3) := by decide +kernel
theorem de_F_min_9 : decode mb_F_min 9 = .ok (.iload_n 1, 1) := by decide +kernel
theorem de_F_min_10 : decode mb_F_min 10 = .ok (.ireturn, 1) := by decide +kernel
theorem de_A_size_0 : decode mb_A_size 0 = .ok (.aload_n 0, 1) := by decide +kernel
theorem de_A_size_1 : decode mb_A_size 1 = .ok (.getfield 48, 3) := by decide +kernel
theorem de_A_size_4 : decode mb_A_size 4 = .ok (.ireturn, 1) := by decide +kernel
theorem de_A_get_0 : decode mb_A_get 0 = .ok (.iload_n 1, 1) := by decide +kernel
theorem de_A_get_1 : decode mb_A_get 1 = .ok (.aload_n 0, 1) := by decide +kernel
theorem de_A_get_2 : decode mb_A_get 2 = .ok (.getfield 48, 3) := by decide +kernel
theorem de_A_get_5 : decode mb_A_get 5 = .ok (.invokestatic 118, 3) := by decide +kernel
theorem de_A_get_8 : decode mb_A_get 8 = .ok (.pop, 1) := by decide +kernel
theorem de_A_get_9 : decode mb_A_get 9 = .ok (.aload_n 0, 1) := by decide +kernel
theorem de_A_get_10 : decode mb_A_get 10 = .ok (.iload_n 1, 1) := by decide +kernel
theorem de_A_get_11 : decode mb_A_get 11 = .ok (.invokevirtual 123, 3) := by decide +kernel
theorem de_A_get_14 : decode mb_A_get 14 = .ok (.areturn, 1) := by decide +kernel
theorem de_O_checkIndex_0 : decode mb_O_checkIndex 0 = .ok (.iload_n 0, 1) := by decide +kernel
theorem de_O_checkIndex_1 : decode mb_O_checkIndex 1 = .ok (.iload_n 1, 1) := by decide +kernel
theorem de_O_checkIndex_2 : decode mb_O_checkIndex 2 = .ok (.aconst_null, 1) := by decide +kernel
theorem de_O_checkIndex_3 : decode mb_O_checkIndex 3 = .ok (.invokestatic 105, 3) := by decide +kernel
theorem de_O_checkIndex_6 : decode mb_O_checkIndex 6 = .ok (.ireturn, 1) := by decide +kernel
theorem de_P_checkIndex_0 : decode mb_P_checkIndex 0 = .ok (.iload_n 0, 1) := by decide +kernel
theorem de_P_checkIndex_1 : decode mb_P_checkIndex 1 = .ok (.ifCond .lt 8, 3) := by decide +kernel
theorem de_P_checkIndex_4 : decode mb_P_checkIndex 4 = .ok (.iload_n 0, 1) := by decide +kernel
theorem de_P_checkIndex_5 : decode mb_P_checkIndex 5 = .ok (.iload_n 1, 1) := by decide +kernel
theorem de_P_checkIndex_6 : decode mb_P_checkIndex 6 = .ok (.if_icmp .lt 10, 3) := by decide +kernel
theorem de_P_checkIndex_9 : decode mb_P_checkIndex 9 = .ok (.aload_n 2, 1) := by decide +kernel
theorem de_P_checkIndex_10 : decode mb_P_checkIndex 10 = .ok (.iload_n 0, 1) := by decide +kernel
theorem de_P_checkIndex_11 : decode mb_P_checkIndex 11 = .ok (.iload_n 1, 1) := by decide +kernel
theorem de_P_checkIndex_12 : decode mb_P_checkIndex 12 = .ok (.invokestatic 95, 3) := by decide +kernel
theorem de_P_checkIndex_15 : decode mb_P_checkIndex 15 = .ok (.athrow, 1) := by decide +kernel
theorem de_P_checkIndex_16 : decode mb_P_checkIndex 16 = .ok (.iload_n 0, 1) := by decide +kernel
theorem de_P_checkIndex_17 : decode mb_P_checkIndex 17 = .ok (.ireturn, 1) := by decide +kernel
theorem de_A_elementData_0 : decode mb_A_elementData 0 = .ok (.aload_n 0, 1) := by decide +kernel
theorem de_A_elementData_1 : decode mb_A_elementData 1 = .ok (.getfield 9, 3) := by decide +kernel
theorem de_A_elementData_4 : decode mb_A_elementData 4 = .ok (.iload_n 1, 1) := by decide +kernel
theorem de_A_elementData_5 : decode mb_A_elementData 5 = .ok (.aaload, 1) := by decide +kernel
theorem de_A_elementData_6 : decode mb_A_elementData 6 = .ok (.areturn, 1) := by decide +kernel
theorem de_A_clear_0 : decode mb_A_clear 0 = .ok (.aload_n 0, 1) := by decide +kernel
theorem de_A_clear_1 : decode mb_A_clear 1 = .ok (.dup, 1) := by decide +kernel
theorem de_A_clear_2 : decode mb_A_clear 2 = .ok (.getfield 63, 3) := by decide +kernel
theorem de_A_clear_5 : decode mb_A_clear 5 = .ok (.iconst 1, 1) := by decide +kernel
theorem de_A_clear_6 : decode mb_A_clear 6 = .ok (.iadd, 1) := by decide +kernel
theorem de_A_clear_7 : decode mb_A_clear 7 = .ok (.putfield 63, 3) := by decide +kernel
theorem de_A_clear_10 : decode mb_A_clear 10 = .ok (.aload_n 0, 1) := by decide +kernel
theorem de_A_clear_11 : decode mb_A_clear 11 = .ok (.getfield 9, 3) := by decide +kernel
theorem de_A_clear_14 : decode mb_A_clear 14 = .ok (.astore_n 1, 1) := by decide +kernel
theorem de_A_clear_15 : decode mb_A_clear 15 = .ok (.aload_n 0, 1) := by decide +kernel
theorem de_A_clear_16 : decode mb_A_clear 16 = .ok (.getfield 48, 3) := by decide +kernel
theorem de_A_clear_19 : decode mb_A_clear 19 = .ok (.istore_n 2, 1) := by decide +kernel
theorem de_A_clear_20 : decode mb_A_clear 20 = .ok (.aload_n 0, 1) := by decide +kernel
theorem de_A_clear_21 : decode mb_A_clear 21 = .ok (.iconst 0, 1) := by decide +kernel
theorem de_A_clear_22 : decode mb_A_clear 22 = .ok (.dup_x1, 1) := by decide +kernel
theorem de_A_clear_23 : decode mb_A_clear 23 = .ok (.putfield 48, 3) := by decide +kernel
theorem de_A_clear_26 : decode mb_A_clear 26 = .ok (.istore_n 3, 1) := by decide +kernel
theorem de_A_clear_27 : decode mb_A_clear 27 = .ok (.iload_n 3, 1) := by decide +kernel
theorem de_A_clear_28 : decode mb_A_clear 28 = .ok (.iload_n 2, 1) := by decide +kernel
theorem de_A_clear_29 : decode mb_A_clear 29 = .ok (.if_icmp .ge 13, 3) := by decide +kernel
theorem de_A_clear_32 : decode mb_A_clear 32 = .ok (.aload_n 1, 1) := by decide +kernel
theorem de_A_clear_33 : decode mb_A_clear 33 = .ok (.iload_n 3, 1) := by decide +kernel
theorem de_A_clear_34 : decode mb_A_clear 34 = .ok (.aconst_null, 1) := by decide +kernel
theorem de_A_clear_35 : decode mb_A_clear 35 = .ok (.aastore, 1) := by decide +kernel
theorem de_A_clear_36 : decode mb_A_clear 36 = .ok (.iinc 3 1, 3) := by decide +kernel
theorem de_A_clear_39 : decode mb_A_clear 39 = .ok (.goto (-12), 3) := by decide +kernel
theorem de_A_clear_42 : decode mb_A_clear 42 = .ok (.return_, 1) := by decide +kernel
end
section
/-! pure rows for sortAsRun -/
theorem so_one (L : List en_T) : so_st (L.take 1) ++ L.drop 1 = L := by
  cases L with
  | nil => rfl
  | cons x L => simp [so_st, so_in, so_n]
theorem so_tl (L : List en_T) {i : Nat} (h : i ≤ L.length) : (so_st (L.take i)).length = i := by rw [so_st_len, List.length_take]; omega
theorem so_ci {L : List en_T} {i j : Nat} (h : i ≤ L.length) (hj : i ≤ j) : (so_st (L.take i) ++ L.drop i)[j]? = L[j]? := by
  rw [List.getElem?_append_right (by rw [so_tl L h]; exact hj), so_tl L h, List.getElem?_drop]
  congr 1
  omega
theorem nx_max {a b : Nat} (ha : a < 2 ^ 31) (hb : b < 2 ^ 31) : (if nI a < nI b then nI b else nI a) = nI (max a b) := by
  by_cases h : a < b
  · rw [if_pos ((nI_ltI ha hb).mpr h), Nat.max_eq_right (by omega)]
  · rw [if_neg (fun z => h ((nI_ltI ha hb).mp z)), Nat.max_eq_left (by omega)]
theorem nx_min {a b : Nat} (ha : a < 2 ^ 31) (hb : b < 2 ^ 31) : (if nI b < nI a then nI b else nI a) = nI (min a b) := by
  by_cases h : b < a
  · rw [if_pos ((nI_ltI hb ha).mpr h), Nat.min_eq_right (by omega)]
  · rw [if_neg (fun z => h ((nI_ltI hb ha).mp z)), Nat.min_eq_left (by omega)]
end
section
/-! RunKeeper$Row, the rest (printed by gen/c_row3.py) -/
abbrev rm_R_greatestSequence : Room := { frames := 1, cells := 0, slots := 0, locals := 24 }
set_option maxHeartbeats 4000000 in
set_option maxRecDepth 100000 in
theorem c_R_greatestSequence (l : Launch) (G : dk_G) (w : dk_H) (h t0 t1 cap : Nat) (L : List en_T) (hr0 : rw_at G w h t0 t1 cap L) (hok : ∀ x ∈ L, en_ok x) : dk_Mi l my_R_greatestSequence (wd_c my_R_greatestSequence mb_R_greatestSequence 3 (some .int)) rm_R_greatestSequence G w [.ref h] (fun r w1 => r = nI (mx_L L) ∧ w1 = w) 0 0 := by
  obtain ⟨sl, f, hh, hsl, hle, hcap, hf⟩ := hr0
  refine dk_enter (lv := [(0, .ref h)]) (by decide) (Nat.le_of_ble_eq_true rfl) rfl (fun p e s m args below meth c ls Q hQ C hP hS hl => ?_)
  obtain ⟨hx, hb, hr, hml, hlocks, hown, hnm, hts, hE⟩ := C
  have hK := hE.1
  have hN := hE.2.1
  refine lv_iconst (v := nI 0) hx hb de_R_greatestSequence_0 (by decide) ?_
  refine lv_istore_n (lv' := [(1, .int (nI 0)), (0, .ref h)]) hx hb de_R_greatestSequence_1 rfl hl (by decide) rfl (fun ls hl => ?_)
  refine lv_iconst (v := nI 0) hx hb de_R_greatestSequence_2 (by decide) ?_
  refine lv_istore_n (lv' := [(2, .int (nI 0)), (1, .int (nI 0)), (0, .ref h)]) hx hb de_R_greatestSequence_3 rfl hl (by decide) rfl (fun ls hl => ?_)
  have lp : ∀ (zk : Nat) (i : Nat) (g : Nat), L.length - i < zk → (i ≤ L.length) → (g = mx_L (L.take i)) → (g < 2 ^ 30) → ∀ (H : Heap) (locs : List Loc), dk_P G w H → dk_S G s.heap H locs → ∀ (ls : Array Slot), lv_has ls 3 [(0, .ref h), (1, .int (nI g)), (2, .int (nI i))] → W p l e rm_R_greatestSequence s m args below meth c H locs 0 0 Q (F0 m 4 ls []) := by
    intro zk
    induction zk with
    | zero =>
      intro i g hk
      exact absurd hk (by omega)
    | succ zk ih =>
      intro i g hk hi hg hg2
      intro H locs hP hS
      intro ls hl
      refine lv_iload_n hx hb de_R_greatestSequence_4 rfl (lv_at hl 2 rfl) ?_
      refine lv_aload_n hx hb de_R_greatestSequence_5 rfl (lv_at hl 0 rfl) ?_
      refine dk_get (a := h) (v := .int (nI L.length)) (C := kn_R) (T := kt_R) (N := 2) hx hb hts ki_R hown hK hP hh rfl 1 (by decide) (hts _ wi_41) (fun _ h9 => h9) rfl de_R_greatestSequence_6 ?_
      refine nx_icmp_ge (a := i) (b := L.length) (tgt := 32) hx hb (by omega) (by omega) de_R_greatestSequence_9 (by decide) (fun c_82 => ?_) (fun c_82 => ?_)
      · refine lv_iload_n hx hb de_R_greatestSequence_32 rfl (lv_at hl 1 rfl) ?_
        rw [List.take_of_length_le c_82] at hg
        exact dk_iret hQ hx hb hr hlocks hP hS (Nat.le_refl _) (Nat.le_refl _) (⟨by rw [hg], rfl⟩) de_R_greatestSequence_33
      · refine lv_iload_n hx hb de_R_greatestSequence_12 rfl (lv_at hl 1 rfl) ?_
        refine lv_aload_n hx hb de_R_greatestSequence_13 rfl (lv_at hl 0 rfl) ?_
        refine dk_get (a := h) (v := .ref sl) (C := kn_R) (T := kt_R) (N := 2) hx hb hts ki_R hown hK hP hh rfl 0 (by decide) (hts _ wi_40) (fun _ h9 => h9) rfl de_R_greatestSequence_14 ?_
        refine lv_iload_n hx hb de_R_greatestSequence_17 rfl (lv_at hl 2 rfl) ?_
        obtain ⟨x, hx9⟩ := ge_at c_82
        obtain ⟨a9, ha9, ha8⟩ := hf _ _ hx9
        have hxs := (hok x (List.mem_of_getElem? hx9)).2
        refine dk_aald (a := sl) (r := some a9) (C := dk_nE) hx hb hK hP hsl rfl i rfl (by omega) (by omega) ha9 de_R_greatestSequence_18 ?_
        refine dk_getN (a := a9) (v := .int (nI x.2.1)) (C := kn_E) (T := kt_E) (N := 4) (host := "RunKeeper") hx hb hts ki_E hown hK hP ha8 rfl 1 (by decide) (hN.use (dn_m 449 (by decide +kernel) rfl)) (fun _ h9 => h9) rfl de_R_greatestSequence_19 ?_
        refine va_mmax hx hb (by rw [hml]; exact hl.1.symm) hown (hts _ wi_325) (hts _ wi_232) (hts _ wi_17) (hts _ wi_233) (Nat.le_of_ble_eq_true rfl) (Nat.le_of_ble_eq_true rfl) (by first | exact Nat.le_of_ble_eq_true rfl | (simp only [Nat.zero_add]; omega) | omega) (by first | exact Nat.le_of_ble_eq_true rfl | (simp only [Nat.zero_add]; omega) | omega) (x := nI g) (y := nI x.2.1) (rest := []) de_R_greatestSequence_22 ?_
        rw [nx_max (a := g) (b := x.2.1) (by omega) (by omega)]
        refine lv_istore_n (lv' := [(1, .int (nI (max g x.2.1))), (0, .ref h), (2, .int (nI i))]) hx hb de_R_greatestSequence_25 rfl hl (by decide) rfl (fun ls hl => ?_)
        refine lv_iinc (v := nI (i + 1)) (lv' := [(2, .int (nI (i + 1))), (1, .int (nI (max g x.2.1))), (0, .ref h)]) hx hb de_R_greatestSequence_26 hl (k := 2) rfl (nx_inc i) (by decide) rfl (fun ls hl => ?_)
        refine lv_goto (tgt := 4) hx hb de_R_greatestSequence_29 (by decide) ?_
        exact ih (i + 1) (max g x.2.1) (by omega) (by omega) (by rw [ta_s hx9, mx_snoc, hg]) (by omega) _ _ hP hS _ (lv_sub hl [2, 1, 0] rfl)
  exact lp (L.length + 1) 0 0 (by omega) (Nat.zero_le _) rfl (by decide) _ _ hP hS _ (lv_sub hl [2, 1, 0] rfl)
abbrev rm_R_sortAsRun : Room := { frames := 1, cells := 0, slots := 0, locals := 21 }
set_option maxHeartbeats 4000000 in
set_option maxRecDepth 100000 in
theorem c_R_sortAsRun (l : Launch) (G : dk_G) (w : dk_H) (h t0 t1 cap : Nat) (L : List en_T) (hr0 : rw_at G w h t0 t1 cap L) (ht : t0 ≠ 0 ∧ t1 ≠ 0 ∧ t0 ≠ t1) (hok : ∀ x ∈ L, en_ok x) : dk_Mv l my_R_sortAsRun (wd_c my_R_sortAsRun mb_R_sortAsRun 4 none) rm_R_sortAsRun G w [.ref h] (fun w1 => rw_at G w1 h t0 t1 cap (so_st L) ∧ dk_fr (fun t => t = t0 ∨ t = t1) w w1) 0 0 := by
  obtain ⟨sl, f, hh, hsl, hle, hcap, hf⟩ := hr0
  obtain ⟨ht0, ht1, ht2⟩ := ht
  refine dk_enter (lv := [(0, .ref h)]) (by decide) (Nat.le_of_ble_eq_true rfl) rfl (fun p e s m args below meth c ls Q hQ C hP hS hl => ?_)
  obtain ⟨hx, hb, hr, hml, hlocks, hown, hnm, hts, hE⟩ := C
  have hK := hE.1
  have hN := hE.2.1
  refine lv_iconst (v := nI 1) hx hb de_R_sortAsRun_0 (by decide) ?_
  refine lv_istore_n (lv' := [(1, .int (nI 1)), (0, .ref h)]) hx hb de_R_sortAsRun_1 rfl hl (by decide) rfl (fun ls hl => ?_)
  have lp : ∀ (zk : Nat) (i : Nat) (g : Nat → Option Nat), L.length + 1 - i < zk → (1 ≤ i) → (i ≤ L.length + 1) → ∀ (H : Heap) (locs : List Loc) (v : dk_H), v h = some (t0, .inr (cx_R, [.ref sl, .int (nI L.length)])) → v sl = some (t1, dk_ca G 3 cap g) → (ra_ok v g (so_st (L.take i) ++ L.drop i)) → (dk_fr (fun t => t = t0 ∨ t = t1) w v) → dk_P G v H → dk_S G s.heap H locs → ∀ (ls : Array Slot), lv_has ls 4 [(0, .ref h), (1, .int (nI i))] → W p l e rm_R_sortAsRun s m args below meth c H locs 0 0 Q (F0 m 2 ls []) := by
    intro zk
    induction zk with
    | zero =>
      intro i g hk
      exact absurd hk (by omega)
    | succ zk ih =>
      intro i g hk hi hi2
      intro H locs v hh hsl hg hfr hP hS
      intro ls hl
      refine lv_iload_n hx hb de_R_sortAsRun_2 rfl (lv_at hl 1 rfl) ?_
      refine lv_aload_n hx hb de_R_sortAsRun_3 rfl (lv_at hl 0 rfl) ?_
      refine dk_get (a := h) (v := .int (nI L.length)) (C := kn_R) (T := kt_R) (N := 2) hx hb hts ki_R hown hK hP hh rfl 1 (by decide) (hts _ wi_41) (fun _ h9 => h9) rfl de_R_sortAsRun_4 ?_
      refine nx_icmp_ge (a := i) (b := L.length) (tgt := 71) hx hb (by omega) (by omega) de_R_sortAsRun_7 (by decide) (fun c_83 => ?_) (fun c_83 => ?_)
      · rw [List.take_of_length_le c_83, List.drop_eq_nil_of_le c_83, List.append_nil] at hg
        exact dk_vret hQ hx hb hr hlocks hP hS (Nat.le_refl _) (Nat.le_refl _) (⟨⟨sl, g, by rw [so_st_len]; exact hh, hsl, by rw [so_st_len]; exact hle, hcap, hg⟩, hfr⟩) de_R_sortAsRun_71
      · obtain ⟨x, hx9⟩ := ge_at c_83
        have hxi : (so_st (L.take i) ++ L.drop i)[i]? = some x := by rw [so_ci (by omega) (Nat.le_refl _)]; exact hx9
        obtain ⟨ax, hax, hax2⟩ := hg _ _ hxi
        have hxo := hok x (List.mem_of_getElem? hx9)
        have hPl := so_tl L (i := i) (by omega)
        have hsh := sh_ok.init hg
        rw [hPl] at hsh
        have hsr : sr_ok v g L i := fun j y hj hy => hg j y (by rw [so_ci (by omega) (by omega)]; exact hy)
        have hPo : ∀ j y, (so_st (L.take i))[j]? = some y → en_ok y := fun j y hy => hok y (List.mem_of_mem_take (so_st_mem.mp (List.mem_of_getElem? hy)))
        refine lv_aload_n hx hb de_R_sortAsRun_10 rfl (lv_at hl 0 rfl) ?_
        refine dk_get (a := h) (v := .ref sl) (C := kn_R) (T := kt_R) (N := 2) hx hb hts ki_R hown hK hP hh rfl 0 (by decide) (hts _ wi_40) (fun _ h9 => h9) rfl de_R_sortAsRun_11 ?_
        refine lv_iload_n hx hb de_R_sortAsRun_14 rfl (lv_at hl 1 rfl) ?_
        refine dk_aald (a := sl) (r := some ax) (C := dk_nE) hx hb hK hP hsl rfl i rfl (by omega) (by omega) hax de_R_sortAsRun_15 ?_
        refine lv_astore_n (lv' := [(2, .ref ax), (0, .ref h), (1, .int (nI i))]) hx hb de_R_sortAsRun_16 rfl hl (by decide) rfl (fun ls hl => ?_)
        refine lv_iload_n hx hb de_R_sortAsRun_17 rfl (lv_at hl 2 rfl) ?_
        refine lv_istore_n (lv' := [(3, .int (nI i)), (2, .ref ax), (0, .ref h), (1, .int (nI i))]) hx hb de_R_sortAsRun_18 rfl hl (by decide) rfl (fun ls hl => ?_)
        have lp2 : ∀ (zk2 : Nat) (p9 : Nat) (g2 : Nat → Option Nat), p9 < zk2 → (p9 ≤ i) → (∀ j y, p9 ≤ j → (so_st (L.take i))[j]? = some y → en_b x y = true) → ∀ (H : Heap) (locs : List Loc) (v2 : dk_H), v2 h = some (t0, .inr (cx_R, [.ref sl, .int (nI L.length)])) → v2 sl = some (t1, dk_ca G 3 cap g2) → (sh_ok v2 g2 (so_st (L.take i)) p9) → (sr_ok v2 g2 L i) → (en_at v2 ax x) → (dk_fr (fun t => t = t0 ∨ t = t1) w v2) → dk_P G v2 H → dk_S G s.heap H locs → ∀ (ls : Array Slot), lv_has ls 4 [(0, .ref h), (1, .int (nI i)), (2, .ref ax), (3, .int (nI p9))] → W p l e rm_R_sortAsRun s m args below meth c H locs 0 0 Q (F0 m 19 ls []) := by
          intro zk2
          induction zk2 with
          | zero =>
            intro p9 g2 hk
            exact absurd hk (by omega)
          | succ zk2 ih2 =>
            intro p9 g2 hk hp9 hal
            intro H locs v2 hh hsl hs2 hr2 hax3 hfr2 hP hS
            intro ls hl
            refine lv_iload_n hx hb de_R_sortAsRun_19 rfl (lv_at hl 3 rfl) ?_
            refine nx_if_le (a := p9) (tgt := 58) hx hb (by omega) de_R_sortAsRun_20 (by decide) (fun c_84 => ?_) (fun c_84 => ?_)
            · subst c_84
              refine lv_aload_n hx hb de_R_sortAsRun_58 rfl (lv_at hl 0 rfl) ?_
              refine dk_get (a := h) (v := .ref sl) (C := kn_R) (T := kt_R) (N := 2) hx hb hts ki_R hown hK hP hh rfl 0 (by decide) (hts _ wi_40) (fun _ h9 => h9) rfl de_R_sortAsRun_59 ?_
              refine lv_iload_n hx hb de_R_sortAsRun_62 rfl (lv_at hl 3 rfl) ?_
              refine lv_aload_n hx hb de_R_sortAsRun_63 rfl (lv_at hl 2 rfl) ?_
              refine dk_aast (a := sl) (v := ax) (r := (kn_E, kt_E, 4)) hx hb hK hP hS hsl rfl hax3 rfl 0 rfl (by omega) (by omega) de_R_sortAsRun_64 (fun H locs w_85 hw_86 hP hS => ?_)
              have h_87 : w_85 sl = some (t1, dk_ca G 3 cap (va_up g2 0 (some ax))) := dk_here hw_86
              have h_88 : w_85 h = some (t0, .inr (cx_R, [.ref sl, .int (nI L.length)])) := dk_keep hw_86 hsl hh (by omega)
              have h_89 : w_85 ax = some (0, .inr (cx_E, [.int (nI x.1), .int (nI x.2.1), .long x.2.2.1, .int (bo_i x.2.2.2)])) := dk_keep hw_86 hsl hax3 (by omega)
              have hfr3 := hfr2.tr ((dk_fr.rf).tr ((dk_fr.up (T := (fun t => t = t0 ∨ t = t1)) hsl (Or.inr rfl)).eq hw_86))
              have hra := (hs2.done hPl hr2 (so_n_of x _ 0 (Nat.zero_le _) hal (fun y h => absurd h (by omega))) hax3 c_83).fr ((dk_fr.rf).tr ((dk_fr.up (T := (fun t => t = t0 ∨ t = t1)) hsl (Or.inr rfl)).eq hw_86)) (by omega)
              rw [← so_snoc, ← ta_s hx9] at hra
              refine lv_iinc (v := nI (i + 1)) (lv' := [(1, .int (nI (i + 1))), (0, .ref h), (2, .ref ax), (3, .int (nI 0))]) hx hb de_R_sortAsRun_65 hl (k := 1) rfl (nx_inc i) (by decide) rfl (fun ls hl => ?_)
              refine lv_goto (tgt := 2) hx hb de_R_sortAsRun_68 (by decide) ?_
              exact ih (i + 1) (va_up g2 0 (some ax)) (by omega) (by omega) (by omega) _ _ _ h_88 h_87 hra hfr3 hP hS _ (lv_sub hl [1, 0] rfl)
            · obtain ⟨p9, rfl⟩ : ∃ q, p9 = q + 1 := ⟨p9 - 1, by omega⟩
              obtain ⟨y, hy9⟩ := ge_at (L := so_st (L.take i)) (i := p9) (by omega)
              obtain ⟨ay, hay, hay2⟩ := hs2.1 _ _ (by omega) hy9
              refine lv_aload_n hx hb de_R_sortAsRun_23 rfl (lv_at hl 2 rfl) ?_
              refine lv_aload_n hx hb de_R_sortAsRun_24 rfl (lv_at hl 0 rfl) ?_
              refine dk_get (a := h) (v := .ref sl) (C := kn_R) (T := kt_R) (N := 2) hx hb hts ki_R hown hK hP hh rfl 0 (by decide) (hts _ wi_40) (fun _ h9 => h9) rfl de_R_sortAsRun_25 ?_
              refine lv_iload_n hx hb de_R_sortAsRun_28 rfl (lv_at hl 3 rfl) ?_
              refine lv_iconst (v := nI 1) hx hb de_R_sortAsRun_29 (by decide) ?_
              refine nx_isub (a := p9 + 1) (b := 1) hx hb (by omega) de_R_sortAsRun_30 ?_
              refine dk_aald (a := sl) (r := some ay) (C := dk_nE) hx hb hK hP hsl rfl (p9 + 1 - 1) rfl (by omega) (by omega) hay de_R_sortAsRun_31 ?_
              refine dk_calli (va_runV (As := [.ref ay]) (rest := []) ⟨hx, hb, hml, hown, hts⟩ (c_E_standsBefore l G v2 ax ay x y hax3 hay2 hxo (hPo _ _ hy9)) (cwV 1 hts (wd_gV (C := "RunKeeper$Entry") wi_163 wi_160 wi_161 wi_162 wi_14) rfl rfl rfl (by decide +kernel) ⟨Nat.le_of_ble_eq_true rfl, Nat.le_of_ble_eq_true rfl⟩) (dk_preV (kn_E, kt_E, 4) hE hP hS hax3 rfl) rfl rfl hl.1 rfl (lv_room (Nat.le_of_ble_eq_true rfl)) de_R_sortAsRun_32 ⟨(by first | exact Nat.le_of_ble_eq_true rfl | (simp only [Nat.zero_add]; omega) | omega), (by first | exact Nat.le_of_ble_eq_true rfl | (simp only [Nat.zero_add]; omega) | omega)⟩) hS (fun r_92 w_90 H locs hq_91 hP hS => ?_)
              obtain ⟨hr_93, he_94⟩ := hq_91
              subst hr_93
              rw [he_94] at hP
              refine bo_if_eq (b := (en_b x y)) (tgt := 58) hx hb de_R_sortAsRun_35 (by decide) (fun c_95 => ?_) (fun c_95 => ?_)
              · refine lv_aload_n hx hb de_R_sortAsRun_58 rfl (lv_at hl 0 rfl) ?_
                refine dk_get (a := h) (v := .ref sl) (C := kn_R) (T := kt_R) (N := 2) hx hb hts ki_R hown hK hP hh rfl 0 (by decide) (hts _ wi_40) (fun _ h9 => h9) rfl de_R_sortAsRun_59 ?_
                refine lv_iload_n hx hb de_R_sortAsRun_62 rfl (lv_at hl 3 rfl) ?_
                refine lv_aload_n hx hb de_R_sortAsRun_63 rfl (lv_at hl 2 rfl) ?_
                refine dk_aast (a := sl) (v := ax) (r := (kn_E, kt_E, 4)) hx hb hK hP hS hsl rfl hax3 rfl (p9 + 1) rfl (by omega) (by omega) de_R_sortAsRun_64 (fun H locs w_96 hw_97 hP hS => ?_)
                have h_98 : w_96 sl = some (t1, dk_ca G 3 cap (va_up g2 (p9 + 1) (some ax))) := dk_here hw_97
                have h_99 : w_96 h = some (t0, .inr (cx_R, [.ref sl, .int (nI L.length)])) := dk_keep hw_97 hsl hh (by omega)
                have h_100 : w_96 ax = some (0, .inr (cx_E, [.int (nI x.1), .int (nI x.2.1), .long x.2.2.1, .int (bo_i x.2.2.2)])) := dk_keep hw_97 hsl hax3 (by omega)
                have hfr3 := hfr2.tr ((dk_fr.rf).tr ((dk_fr.up (T := (fun t => t = t0 ∨ t = t1)) hsl (Or.inr rfl)).eq hw_97))
                have hra := (hs2.done hPl hr2 (so_n_of x _ (p9 + 1) (by omega) hal (fun z h hz => by rw [Nat.add_sub_cancel, hy9] at hz; cases hz; exact c_95)) hax3 c_83).fr ((dk_fr.rf).tr ((dk_fr.up (T := (fun t => t = t0 ∨ t = t1)) hsl (Or.inr rfl)).eq hw_97)) (by omega)
                rw [← so_snoc, ← ta_s hx9] at hra
                refine lv_iinc (v := nI (i + 1)) (lv' := [(1, .int (nI (i + 1))), (0, .ref h), (2, .ref ax), (3, .int (nI (p9 + 1)))]) hx hb de_R_sortAsRun_65 hl (k := 1) rfl (nx_inc i) (by decide) rfl (fun ls hl => ?_)
                refine lv_goto (tgt := 2) hx hb de_R_sortAsRun_68 (by decide) ?_
                exact ih (i + 1) (va_up g2 (p9 + 1) (some ax)) (by omega) (by omega) (by omega) _ _ _ h_99 h_98 hra hfr3 hP hS _ (lv_sub hl [1, 0] rfl)
              · refine lv_aload_n hx hb de_R_sortAsRun_38 rfl (lv_at hl 0 rfl) ?_
                refine dk_get (a := h) (v := .ref sl) (C := kn_R) (T := kt_R) (N := 2) hx hb hts ki_R hown hK hP hh rfl 0 (by decide) (hts _ wi_40) (fun _ h9 => h9) rfl de_R_sortAsRun_39 ?_
                refine lv_iload_n hx hb de_R_sortAsRun_42 rfl (lv_at hl 3 rfl) ?_
                refine lv_aload_n hx hb de_R_sortAsRun_43 rfl (lv_at hl 0 rfl) ?_
                refine dk_get (a := h) (v := .ref sl) (C := kn_R) (T := kt_R) (N := 2) hx hb hts ki_R hown hK hP hh rfl 0 (by decide) (hts _ wi_40) (fun _ h9 => h9) rfl de_R_sortAsRun_44 ?_
                refine lv_iload_n hx hb de_R_sortAsRun_47 rfl (lv_at hl 3 rfl) ?_
                refine lv_iconst (v := nI 1) hx hb de_R_sortAsRun_48 (by decide) ?_
                refine nx_isub (a := p9 + 1) (b := 1) hx hb (by omega) de_R_sortAsRun_49 ?_
                refine dk_aald (a := sl) (r := some ay) (C := dk_nE) hx hb hK hP hsl rfl (p9 + 1 - 1) rfl (by omega) (by omega) hay de_R_sortAsRun_50 ?_
                refine dk_aast (a := sl) (v := ay) (r := (kn_E, kt_E, 4)) hx hb hK hP hS hsl rfl hay2 rfl (p9 + 1) rfl (by omega) (by omega) de_R_sortAsRun_51 (fun H locs w_101 hw_102 hP hS => ?_)
                have h_103 : w_101 sl = some (t1, dk_ca G 3 cap (va_up g2 (p9 + 1) (some ay))) := dk_here hw_102
                have h_104 : w_101 h = some (t0, .inr (cx_R, [.ref sl, .int (nI L.length)])) := dk_keep hw_102 hsl hh (by omega)
                have h_105 : w_101 ax = some (0, .inr (cx_E, [.int (nI x.1), .int (nI x.2.1), .long x.2.2.1, .int (bo_i x.2.2.2)])) := dk_keep hw_102 hsl hax3 (by omega)
                have h_106 : w_101 ay = some (0, .inr (cx_E, [.int (nI y.1), .int (nI y.2.1), .long y.2.2.1, .int (bo_i y.2.2.2)])) := dk_keep hw_102 hsl hay2 (by omega)
                have hfr3 := hfr2.tr ((dk_fr.rf).tr ((dk_fr.up (T := (fun t => t = t0 ∨ t = t1)) hsl (Or.inr rfl)).eq hw_102))
                have hup : va_up g2 (p9 + 1) (some ay) = va_up g2 (p9 + 1) (g2 p9) := by rw [hay]
                refine lv_iinc (v := nI (p9 + 1 - 1)) (lv' := [(3, .int (nI (p9 + 1 - 1))), (0, .ref h), (1, .int (nI i)), (2, .ref ax)]) hx hb de_R_sortAsRun_52 hl (k := 3) rfl (nx_dec (by omega)) (by decide) rfl (fun ls hl => ?_)
                refine lv_goto (tgt := 19) hx hb de_R_sortAsRun_55 (by decide) ?_
                exact ih2 p9 (va_up g2 (p9 + 1) (some ay)) (by omega) (by omega) (fun j z hj hz => by
        rcases Nat.lt_or_ge p9 j with h1 | h1
        · exact hal j z (by omega) hz
        · have : j = p9 := by omega
          subst this
          rw [hy9] at hz; cases hz; exact c_95) _ _ _ h_104 h_103 (by rw [hup]; exact ⟨fun j z hj hz => (hs2.step.1 j z hj hz).imp fun a q => ⟨q.1, q.2.fr ((dk_fr.rf).tr ((dk_fr.up (T := (fun t => t = t0 ∨ t = t1)) hsl (Or.inr rfl)).eq hw_102)) (by omega)⟩, fun j z hj hz => (hs2.step.2 j z hj hz).imp fun a q => ⟨q.1, q.2.fr ((dk_fr.rf).tr ((dk_fr.up (T := (fun t => t = t0 ∨ t = t1)) hsl (Or.inr rfl)).eq hw_102)) (by omega)⟩⟩) (fun j z hj hz => ((hr2.step (by omega)) j z hj hz).imp fun a q => ⟨q.1, q.2.fr ((dk_fr.rf).tr ((dk_fr.up (T := (fun t => t = t0 ∨ t = t1)) hsl (Or.inr rfl)).eq hw_102)) (by omega)⟩) (hax3.fr ((dk_fr.rf).tr ((dk_fr.up (T := (fun t => t = t0 ∨ t = t1)) hsl (Or.inr rfl)).eq hw_102)) (by omega)) hfr3 hP hS _ (lv_sub hl [1, 2, 3, 0] rfl)
        exact lp2 (i + 1) i g (by omega) (Nat.le_refl _) (fun j y hj hy => absurd (List.getElem?_eq_some_iff.mp hy).1 (by omega)) _ _ _ hh hsl hsh hsr hax2 hfr hP hS _ (lv_sub hl [2, 3, 1, 0] rfl)
  exact lp (L.length + 1 + 1) 1 f (by omega) (Nat.le_refl _) (by omega) _ _ _ hh hsl (by rw [so_one]; exact hf) dk_fr.rf hP hS _ (lv_sub hl [1, 0] rfl)
end
section
/-! SNAPSHOTS: six places, each with a sequence or none. Tags 13, 14, 15. -/
def sn_at (G : dk_G) (w : dk_H) (h : Nat) (sn : Nat → Option Nat) : Prop := ∃ (a1 a2 : Nat) (fs fu : Nat → Int32), w h = some (13, .inr (cx_S, [.ref a1, .ref a2])) ∧ w a1 = some (14, dk_ci G 6 fs) ∧ w a2 = some (15, dk_cz G 6 fu) ∧ ∀ j, j < 6 → fu j = bo_i (sn j).isSome ∧ ∀ s, sn j = some s → fs j = nI s ∧ s < 2 ^ 30
theorem sn_at.fr {G : dk_G} {T : Nat → Prop} {w w1 : dk_H} {h : Nat} {sn : Nat → Option Nat} (H : sn_at G w h sn) (hf : dk_fr T w w1) (h1 : ¬ T 13) (h2 : ¬ T 14) (h3 : ¬ T 15) : sn_at G w1 h sn := by
  obtain ⟨a1, a2, fs, fu, g1, g2, g3, g4⟩ := H
  exact ⟨a1, a2, fs, fu, hf _ _ _ g1 h1, hf _ _ _ g2 h2, hf _ _ _ g3 h3, g4⟩
/-- the sequence of the snapshot that an int names -/
def sn_g (sn : Nat → Option Nat) (k : Int32) : Option Nat := if k < 0 ∨ nI 6 ≤ k then none else sn k.toNatClampNeg
theorem sn_g1 {sn : Nat → Option Nat} {k : Int32} (h : k < 0) : sn_g sn k = none := if_pos (Or.inl h)
theorem sn_g2 {sn : Nat → Option Nat} {j : Nat} (h : 6 ≤ j) (hj : j < 2 ^ 31) : sn_g sn (nI j) = none := if_pos (Or.inr ((nI_leI (by decide) hj).mpr h))
theorem sn_g3 {sn : Nat → Option Nat} {j : Nat} (h : j < 6) : sn_g sn (nI j) = sn j := by
  unfold sn_g
  rw [if_neg, nI_clamp (by omega)]
  rintro (z | z)
  · exact nI_pos (by omega) z
  · exact absurd ((nI_leI (by decide) (by omega)).mp z) (by omega)
def sn_ct (sn : Nat → Option Nat) : Nat → Nat
  | 0 => 0
  | n + 1 => sn_ct sn n + (if (sn n).isSome = true then 1 else 0)
theorem sn_ctle (sn : Nat → Option Nat) (n : Nat) : sn_ct sn n ≤ n := by
  induction n with
  | zero => exact Nat.le_refl _
  | succ n ih => simp only [sn_ct]; split <;> omega
/-- a snapshot of a sequence from a on and below b -/
def sn_an (sn : Nat → Option Nat) (a b : Nat) : Nat → Bool
  | 0 => false
  | n + 1 => sn_an sn a b n || (match sn n with
    | none => false
    | some s => decide (a ≤ s) && decide (s < b))
theorem sn_any {sn : Nat → Option Nat} {a b n j s : Nat} (hj : j < n) (hs : sn j = some s) (h1 : a ≤ s) (h2 : s < b) : sn_an sn a b n = true := by
  induction n with
  | zero => exact absurd hj (by omega)
  | succ n ih =>
    by_cases e : j = n
    · subst e
      simp [sn_an, hs, h1, h2]
    · simp [sn_an, ih (by omega)]
theorem sn_an_iff {sn : Nat → Option Nat} {a b n : Nat} : sn_an sn a b n = true ↔ ∃ j s, j < n ∧ sn j = some s ∧ a ≤ s ∧ s < b := by
  constructor
  · intro h
    induction n with
    | zero => simp [sn_an] at h
    | succ n ih =>
      simp only [sn_an, Bool.or_eq_true] at h
      rcases h with h | h
      · obtain ⟨j, s, h1, h2⟩ := ih h
        exact ⟨j, s, by omega, h2⟩
      · cases hs : sn n with
        | none => rw [hs] at h; simp at h
        | some s =>
          rw [hs] at h
          simp at h
          exact ⟨n, s, by omega, hs, h.1, h.2⟩
  · rintro ⟨j, s, h1, h2, h3, h4⟩
    exact sn_any h1 h2 h3 h4
def sn_T : Nat → Prop := fun t => t = 13 ∨ t = 14 ∨ t = 15
theorem sn_no {o : Option Nat} (h : o.isSome = false) : o = none := by
  cases o with
  | none => rfl
  | some z => cases h
end
section
/-! RunKeeper$Snapshots, walked (printed by gen/c_snap.py) -/
abbrev rm_S_init : Room := { frames := 1, cells := 2, slots := 12, locals := 20 }
set_option maxHeartbeats 4000000 in
set_option maxRecDepth 100000 in
theorem c_S_init (l : Launch) (G : dk_G) (w : dk_H) (h : Nat) (hh : w h = some (13, .inr (cx_S, [.null, .null]))) : dk_Mv l my_S_init (wd_c my_S_init mb_S_init 1 none) rm_S_init G w [.ref h] (fun w1 => sn_at G w1 h (fun _ => none) ∧ dk_fr sn_T w w1) 2 12 := by
  refine dk_enter (lv := [(0, .ref h)]) (by decide) (Nat.le_of_ble_eq_true rfl) rfl (fun p e s m args below meth c ls Q hQ C hP hS hl => ?_)
  obtain ⟨hx, hb, hr, hml, hlocks, hown, hnm, hts, hE⟩ := C
  have hK := hE.1
  have hN := hE.2.1
  refine lv_aload_n hx hb de_S_init_0 rfl (lv_at hl 0 rfl) ?_
  refine W.objInit hx hb hown (hts _ wi_54) (hts _ wi_30) (hts _ wi_31) rfl (by rw [hml]; exact hl.1) rfl de_S_init_1 (Nat.le_of_ble_eq_true rfl) (Nat.le_of_ble_eq_true rfl) ?_
  refine W.eq (g2 := F0 m 4 ls []) rfl ?_
  refine lv_aload_n hx hb de_S_init_4 rfl (lv_at hl 0 rfl) ?_
  refine lv_bipush (v := nI 6) hx hb de_S_init_5 (by decide) ?_
  refine dk_newa 14 0 (atype := .int) (ty := .int) (a0 := (6, .inl (fun _ => 0))) (N' := 6) hx hb (hts _ wi_62) rfl hK hP hS hE.2.2.2 rfl (fun U cA h => h) (fun cA => rfl) rfl (by omega) (by first | decide | (simp [componentBytes]; done) | (simp [componentBytes]; omega)) (by first | exact Nat.le_of_ble_eq_true rfl | (simp only [Nat.zero_add]; omega) | omega) (by first | exact Nat.le_of_ble_eq_true rfl | (simp only [Nat.zero_add]; omega) | omega) de_S_init_7 (fun q_107 H w_108 hn_110 hw_109 hP hS => ?_)
  have h_111 : w_108 q_107 = some (14, dk_ci G 6 (fun _ => 0)) := dk_here hw_109
  have h_112 : w_108 h = some (13, .inr (cx_S, [.null, .null])) := dk_keepN hw_109 hn_110 hh
  refine dk_putF (a := h) (v := .ref q_107) (ty := (.array .int)) (C := kn_S) (T := kt_S) (N := 2) hx hb hts ki_S ky_S kk_S kd_S hown hK hP hS h_112 rfl 0 (by decide) (hts _ wi_55) (fun _ h9 => h9) rfl hnm rfl (by decide +kernel) rfl rfl (Nat.le_of_ble_eq_true rfl) de_S_init_9 (fun H locs w_113 hw_114 hP hS => ?_)
  have h_115 : w_113 h = some (13, .inr (cx_S, [.ref q_107, .null])) := dk_here hw_114
  have h_116 : w_113 q_107 = some (14, dk_ci G 6 (fun _ => 0)) := dk_keep hw_114 h_112 h_111 (by decide)
  refine lv_aload_n hx hb de_S_init_12 rfl (lv_at hl 0 rfl) ?_
  refine lv_bipush (v := nI 6) hx hb de_S_init_13 (by decide) ?_
  refine dk_newa 15 2 (atype := .boolean) (ty := .boolean) (a0 := (6, .inl (fun _ => 0))) (N' := 6) hx hb (hts _ wi_63) rfl hK hP hS hE.2.2.2 rfl (fun U cA h => h) (fun cA => rfl) rfl (by omega) (by first | decide | (simp [componentBytes]; done) | (simp [componentBytes]; omega)) (by first | exact Nat.le_of_ble_eq_true rfl | (simp only [Nat.zero_add]; omega) | omega) (by first | exact Nat.le_of_ble_eq_true rfl | (simp only [Nat.zero_add]; omega) | omega) de_S_init_15 (fun q_117 H w_118 hn_120 hw_119 hP hS => ?_)
  have h_121 : w_118 q_117 = some (15, dk_cz G 6 (fun _ => 0)) := dk_here hw_119
  have h_122 : w_118 h = some (13, .inr (cx_S, [.ref q_107, .null])) := dk_keepN hw_119 hn_120 h_115
  have h_123 : w_118 q_107 = some (14, dk_ci G 6 (fun _ => 0)) := dk_keepN hw_119 hn_120 h_116
  refine dk_putF (a := h) (v := .ref q_117) (ty := (.array .boolean)) (C := kn_S) (T := kt_S) (N := 2) hx hb hts ki_S ky_S kk_S kd_S hown hK hP hS h_122 rfl 1 (by decide) (hts _ wi_56) (fun _ h9 => h9) rfl hnm rfl (by decide +kernel) rfl rfl (Nat.le_of_ble_eq_true rfl) de_S_init_17 (fun H locs w_124 hw_125 hP hS => ?_)
  have h_126 : w_124 h = some (13, .inr (cx_S, [.ref q_107, .ref q_117])) := dk_here hw_125
  have h_127 : w_124 q_107 = some (14, dk_ci G 6 (fun _ => 0)) := dk_keep hw_125 h_122 h_123 (by decide)
  have h_128 : w_124 q_117 = some (15, dk_cz G 6 (fun _ => 0)) := dk_keep hw_125 h_122 h_121 (by decide)
  exact dk_vret hQ hx hb hr hlocks hP hS (by omega) (by omega) (⟨⟨q_107, q_117, _, _, h_126, h_127, h_128, fun j _ => ⟨rfl, fun s z => by cases z⟩⟩, ((((dk_fr.rf).tr ((dk_fr.upN hn_110).eq hw_109)).tr ((dk_fr.up (T := sn_T) h_112 (Or.inl rfl)).eq hw_114)).tr ((dk_fr.upN hn_120).eq hw_119)).tr ((dk_fr.up (T := sn_T) h_122 (Or.inl rfl)).eq hw_125)⟩) de_S_init_20
abbrev rm_S_has : Room := { frames := 0, cells := 0, slots := 0, locals := 0 }
set_option maxHeartbeats 4000000 in
set_option maxRecDepth 100000 in
theorem c_S_has (l : Launch) (G : dk_G) (w : dk_H) (h : Nat) (sn : Nat → Option Nat) (hs0 : sn_at G w h sn) (k : Int32) : dk_Mi l my_S_has (wd_c my_S_has mb_S_has 2 (some .boolean)) rm_S_has G w [.ref h, .int k] (fun r w1 => r = bo_i (sn_g sn k).isSome ∧ w1 = w) 0 0 := by
  obtain ⟨a1, a2, fs, fu, hh, h1, h2, hj⟩ := hs0
  refine dk_enter (lv := [(0, .ref h), (1, .int k)]) (by decide) (Nat.le_of_ble_eq_true rfl) rfl (fun p e s m args below meth c ls Q hQ C hP hS hl => ?_)
  obtain ⟨hx, hb, hr, hml, hlocks, hown, hnm, hts, hE⟩ := C
  have hK := hE.1
  have hN := hE.2.1
  refine lv_iload_n hx hb de_S_has_0 rfl (lv_at hl 1 rfl) ?_
  refine lv_if_lt (tgt := 23) hx hb de_S_has_1 (by decide) (fun c_129 => ?_) (fun c_129 => ?_)
  · refine lv_iconst (v := nI 0) hx hb de_S_has_23 (by decide) ?_
    exact dk_zret hQ hx hb hr hlocks hP hS (Nat.le_refl _) (Nat.le_refl _) (by decide +kernel) (⟨by rw [sn_g1 c_129]; rfl, rfl⟩) de_S_has_24
  · obtain ⟨j0, hj0, rfl⟩ := nI_of c_129
    refine lv_iload_n hx hb de_S_has_4 rfl (lv_at hl 1 rfl) ?_
    refine lv_bipush (v := nI 6) hx hb de_S_has_5 (by decide) ?_
    refine nx_icmp_ge (a := j0) (b := 6) (tgt := 23) hx hb (by omega) (by omega) de_S_has_7 (by decide) (fun c_130 => ?_) (fun c_130 => ?_)
    · refine lv_iconst (v := nI 0) hx hb de_S_has_23 (by decide) ?_
      exact dk_zret hQ hx hb hr hlocks hP hS (Nat.le_refl _) (Nat.le_refl _) (by decide +kernel) (⟨by rw [sn_g2 c_130 hj0]; rfl, rfl⟩) de_S_has_24
    · refine lv_aload_n hx hb de_S_has_10 rfl (lv_at hl 0 rfl) ?_
      refine dk_get (a := h) (v := .ref a2) (C := kn_S) (T := kt_S) (N := 2) hx hb hts ki_S hown hK hP hh rfl 1 (by decide) (hts _ wi_56) (fun _ h9 => h9) rfl de_S_has_11 ?_
      refine lv_iload_n hx hb de_S_has_14 rfl (lv_at hl 1 rfl) ?_
      refine dk_zald (a := a2) hx hb hK hP h2 j0 rfl (by omega) (by omega) de_S_has_15 ?_
      rw [(hj j0 c_130).1]
      refine bo_if_eq (b := (sn j0).isSome) (tgt := 23) hx hb de_S_has_16 (by decide) (fun c_131 => ?_) (fun c_131 => ?_)
      · refine lv_iconst (v := nI 0) hx hb de_S_has_23 (by decide) ?_
        exact dk_zret hQ hx hb hr hlocks hP hS (Nat.le_refl _) (Nat.le_refl _) (by decide +kernel) (⟨by rw [sn_g3 c_130, c_131]; rfl, rfl⟩) de_S_has_24
      · refine lv_iconst (v := nI 1) hx hb de_S_has_19 (by decide) ?_
        refine lv_goto (tgt := 24) hx hb de_S_has_20 (by decide) ?_
        exact dk_zret hQ hx hb hr hlocks hP hS (Nat.le_refl _) (Nat.le_refl _) (by decide +kernel) (⟨by rw [sn_g3 c_130, c_131]; rfl, rfl⟩) de_S_has_24
abbrev rm_S_leastFree : Room := { frames := 0, cells := 0, slots := 0, locals := 0 }
set_option maxHeartbeats 4000000 in
set_option maxRecDepth 100000 in
theorem c_S_leastFree (l : Launch) (G : dk_G) (w : dk_H) (h : Nat) (sn : Nat → Option Nat) (hs0 : sn_at G w h sn) : dk_Mi l my_S_leastFree (wd_c my_S_leastFree mb_S_leastFree 2 (some .int)) rm_S_leastFree G w [.ref h] (fun r w1 => ((∃ j, j < 6 ∧ r = nI j ∧ sn j = none ∧ ∀ i, i < j → (sn i).isSome = true) ∨ (r = -1 ∧ ∀ i, i < 6 → (sn i).isSome = true)) ∧ w1 = w) 0 0 := by
  obtain ⟨a1, a2, fs, fu, hh, h1, h2, hj⟩ := hs0
  refine dk_enter (lv := [(0, .ref h)]) (by decide) (Nat.le_of_ble_eq_true rfl) rfl (fun p e s m args below meth c ls Q hQ C hP hS hl => ?_)
  obtain ⟨hx, hb, hr, hml, hlocks, hown, hnm, hts, hE⟩ := C
  have hK := hE.1
  have hN := hE.2.1
  refine lv_iconst (v := nI 0) hx hb de_S_leastFree_0 (by decide) ?_
  refine lv_istore_n (lv' := [(1, .int (nI 0)), (0, .ref h)]) hx hb de_S_leastFree_1 rfl hl (by decide) rfl (fun ls hl => ?_)
  have lp : ∀ (zk : Nat) (i : Nat), 6 - i < zk → (i ≤ 6) → (∀ j, j < i → (sn j).isSome = true) → ∀ (ls : Array Slot), lv_has ls 2 [(0, .ref h), (1, .int (nI i))] → W p l e rm_S_leastFree s m args below meth c s.heap [] 0 0 Q (F0 m 2 ls []) := by
    intro zk
    induction zk with
    | zero =>
      intro i hk
      exact absurd hk (by omega)
    | succ zk ih =>
      intro i hk hi ha
      intro ls hl
      refine lv_iload_n hx hb de_S_leastFree_2 rfl (lv_at hl 1 rfl) ?_
      refine lv_bipush (v := nI 6) hx hb de_S_leastFree_3 (by decide) ?_
      refine nx_icmp_ge (a := i) (b := 6) (tgt := 25) hx hb (by omega) (by omega) de_S_leastFree_5 (by decide) (fun c_132 => ?_) (fun c_132 => ?_)
      · refine lv_iconst (v := (-1)) hx hb de_S_leastFree_25 (by decide) ?_
        exact dk_iret hQ hx hb hr hlocks hP hS (Nat.le_refl _) (Nat.le_refl _) (⟨Or.inr ⟨rfl, fun i9 h9 => ha i9 (by omega)⟩, rfl⟩) de_S_leastFree_26
      · refine lv_aload_n hx hb de_S_leastFree_8 rfl (lv_at hl 0 rfl) ?_
        refine dk_get (a := h) (v := .ref a2) (C := kn_S) (T := kt_S) (N := 2) hx hb hts ki_S hown hK hP hh rfl 1 (by decide) (hts _ wi_56) (fun _ h9 => h9) rfl de_S_leastFree_9 ?_
        refine lv_iload_n hx hb de_S_leastFree_12 rfl (lv_at hl 1 rfl) ?_
        refine dk_zald (a := a2) hx hb hK hP h2 i rfl (by omega) (by omega) de_S_leastFree_13 ?_
        rw [(hj i c_132).1]
        refine bo_if_ne (b := (sn i).isSome) (tgt := 19) hx hb de_S_leastFree_14 (by decide) (fun c_133 => ?_) (fun c_133 => ?_)
        · refine lv_iinc (v := nI (i + 1)) (lv' := [(1, .int (nI (i + 1))), (0, .ref h)]) hx hb de_S_leastFree_19 hl (k := 1) rfl (nx_inc i) (by decide) rfl (fun ls hl => ?_)
          refine lv_goto (tgt := 2) hx hb de_S_leastFree_22 (by decide) ?_
          exact ih (i + 1) (by omega) (by omega) (fun j9 h9 => by
        rcases Nat.lt_or_ge j9 i with h8 | h8
        · exact ha j9 h8
        · have : j9 = i := by omega
          rw [this]; exact c_133) _ (lv_sub hl [1, 0] rfl)
        · refine lv_iload_n hx hb de_S_leastFree_17 rfl (lv_at hl 1 rfl) ?_
          exact dk_iret hQ hx hb hr hlocks hP hS (Nat.le_refl _) (Nat.le_refl _) (⟨Or.inl ⟨i, c_132, rfl, Option.isSome_eq_false_iff.mp c_133 |> Option.isNone_iff_eq_none.mp, ha⟩, rfl⟩) de_S_leastFree_18
  exact lp 7 0 (by omega) (Nat.zero_le _) (fun j hj => absurd hj (by omega)) _ (lv_sub hl [1, 0] rfl)
abbrev rm_S_keep : Room := { frames := 0, cells := 0, slots := 0, locals := 0 }
set_option maxHeartbeats 4000000 in
set_option maxRecDepth 100000 in
theorem c_S_keep (l : Launch) (G : dk_G) (w : dk_H) (h : Nat) (sn : Nat → Option Nat) (hs0 : sn_at G w h sn) (k u : Nat) (hk0 : k < 6) (hu0 : u < 2 ^ 30) : dk_Mv l my_S_keep (wd_c my_S_keep mb_S_keep 3 none) rm_S_keep G w [.ref h, .int (nI k), .int (nI u)] (fun w1 => sn_at G w1 h (va_up sn k (some u)) ∧ dk_fr sn_T w w1) 0 0 := by
  obtain ⟨a1, a2, fs, fu, hh, h1, h2, hj⟩ := hs0
  refine dk_enter (lv := [(0, .ref h), (1, .int (nI k)), (2, .int (nI u))]) (by decide) (Nat.le_of_ble_eq_true rfl) rfl (fun p e s m args below meth c ls Q hQ C hP hS hl => ?_)
  obtain ⟨hx, hb, hr, hml, hlocks, hown, hnm, hts, hE⟩ := C
  have hK := hE.1
  have hN := hE.2.1
  refine lv_iload_n hx hb de_S_keep_0 rfl (lv_at hl 1 rfl) ?_
  refine nx_if_lt (a := k) (tgt := 24) hx hb (by omega) de_S_keep_1 (by decide) ?_
  refine lv_iload_n hx hb de_S_keep_4 rfl (lv_at hl 1 rfl) ?_
  refine lv_bipush (v := nI 6) hx hb de_S_keep_5 (by decide) ?_
  refine nx_icmp_ge (a := k) (b := 6) (tgt := 24) hx hb (by omega) (by omega) de_S_keep_7 (by decide) (fun c_135 => ?_) (fun c_135 => ?_)
  · exact absurd c_135 (by omega)
  · refine lv_aload_n hx hb de_S_keep_10 rfl (lv_at hl 0 rfl) ?_
    refine dk_get (a := h) (v := .ref a1) (C := kn_S) (T := kt_S) (N := 2) hx hb hts ki_S hown hK hP hh rfl 0 (by decide) (hts _ wi_55) (fun _ h9 => h9) rfl de_S_keep_11 ?_
    refine lv_iload_n hx hb de_S_keep_14 rfl (lv_at hl 1 rfl) ?_
    refine lv_iload_n hx hb de_S_keep_15 rfl (lv_at hl 2 rfl) ?_
    refine dk_iast (a := a1) (x := (nI u)) hx hb hK hP hS h1 k rfl (by omega) (by omega) de_S_keep_16 (fun H locs w_136 hw_137 hP hS => ?_)
    have h_138 : w_136 a1 = some (14, dk_ci G 6 (upd fs k (nI u))) := dk_here hw_137
    have h_139 : w_136 h = some (13, .inr (cx_S, [.ref a1, .ref a2])) := dk_keep hw_137 h1 hh (by decide)
    have h_140 : w_136 a2 = some (15, dk_cz G 6 fu) := dk_keep hw_137 h1 h2 (by decide)
    refine lv_aload_n hx hb de_S_keep_17 rfl (lv_at hl 0 rfl) ?_
    refine dk_get (a := h) (v := .ref a2) (C := kn_S) (T := kt_S) (N := 2) hx hb hts ki_S hown hK hP h_139 rfl 1 (by decide) (hts _ wi_56) (fun _ h9 => h9) rfl de_S_keep_18 ?_
    refine lv_iload_n hx hb de_S_keep_21 rfl (lv_at hl 1 rfl) ?_
    refine lv_iconst (v := nI 1) hx hb de_S_keep_22 (by decide) ?_
    refine dk_zast (a := a2) (x := (nI 1)) hx hb hK hP hS h_140 k rfl (by omega) (by omega) (by decide +kernel) de_S_keep_23 (fun H locs w_141 hw_142 hP hS => ?_)
    have h_143 : w_141 a2 = some (15, dk_cz G 6 (upd fu k (nI 1))) := dk_here hw_142
    have h_144 : w_141 h = some (13, .inr (cx_S, [.ref a1, .ref a2])) := dk_keep hw_142 h_140 h_139 (by decide)
    have h_145 : w_141 a1 = some (14, dk_ci G 6 (upd fs k (nI u))) := dk_keep hw_142 h_140 h_138 (by decide)
    refine dk_vret hQ hx hb hr hlocks hP hS (Nat.le_refl _) (Nat.le_refl _) (⟨⟨a1, a2, _, _, h_144, h_145, h_143, fun j h9 => ?_⟩, ((dk_fr.rf).tr ((dk_fr.up (T := sn_T) h1 (Or.inr (Or.inl rfl))).eq hw_137)).tr ((dk_fr.up (T := sn_T) h_140 (Or.inr (Or.inr rfl))).eq hw_142)⟩) de_S_keep_24
    by_cases e9 : j = k
    · subst e9
      exact ⟨by rw [pk_us, dk_us]; rfl, fun s9 z => by rw [dk_us] at z; cases z; exact ⟨pk_us, hu0⟩⟩
    · exact ⟨by rw [pk_un e9, dk_un e9]; exact (hj j h9).1, fun s9 z => by rw [dk_un e9] at z; rw [pk_un e9]; exact (hj j h9).2 s9 z⟩
abbrev rm_S_forget : Room := { frames := 1, cells := 0, slots := 0, locals := 21 }
set_option maxHeartbeats 4000000 in
set_option maxRecDepth 100000 in
theorem c_S_forget (l : Launch) (G : dk_G) (w : dk_H) (h : Nat) (sn : Nat → Option Nat) (hs0 : sn_at G w h sn) (k : Nat) (hk0 : k < 6) (hk1 : (sn k).isSome = true) : dk_Mv l my_S_forget (wd_c my_S_forget mb_S_forget 2 none) rm_S_forget G w [.ref h, .int (nI k)] (fun w1 => sn_at G w1 h (va_up sn k none) ∧ dk_fr sn_T w w1) 0 0 := by
  have hs1 := hs0
  obtain ⟨a1, a2, fs, fu, hh, h1, h2, hj⟩ := hs0
  refine dk_enter (lv := [(0, .ref h), (1, .int (nI k))]) (by decide) (Nat.le_of_ble_eq_true rfl) rfl (fun p e s m args below meth c ls Q hQ C hP hS hl => ?_)
  obtain ⟨hx, hb, hr, hml, hlocks, hown, hnm, hts, hE⟩ := C
  have hK := hE.1
  have hN := hE.2.1
  refine lv_aload_n hx hb de_S_forget_0 rfl (lv_at hl 0 rfl) ?_
  refine lv_iload_n hx hb de_S_forget_1 rfl (lv_at hl 1 rfl) ?_
  refine dk_calli (va_runV (As := [.int (nI k)]) (rest := []) ⟨hx, hb, hml, hown, hts⟩ (c_S_has l G w h sn hs1 (nI k)) (cwV 1 hts (wd_gV (C := "RunKeeper$Snapshots") wi_595 wi_601 wi_593 wi_594 wi_3) rfl rfl rfl (by decide +kernel) ⟨Nat.le_of_ble_eq_true rfl, Nat.le_of_ble_eq_true rfl⟩) (dk_preV (kn_S, kt_S, 2) hE hP hS hh rfl) rfl rfl hl.1 rfl (lv_room (Nat.le_of_ble_eq_true rfl)) de_S_forget_2 ⟨(by first | exact Nat.le_of_ble_eq_true rfl | (simp only [Nat.zero_add]; omega) | omega), (by first | exact Nat.le_of_ble_eq_true rfl | (simp only [Nat.zero_add]; omega) | omega)⟩) hS (fun r_148 w_146 H locs hq_147 hP hS => ?_)
  rw [sn_g3 hk0, hk1] at hq_147
  obtain ⟨hr_149, he_150⟩ := hq_147
  subst hr_149
  rw [he_150] at hP
  refine bo_if_eq (b := true) (tgt := 15) hx hb de_S_forget_5 (by decide) (fun c_151 => ?_) (fun c_151 => ?_)
  · cases c_151
  · refine lv_aload_n hx hb de_S_forget_8 rfl (lv_at hl 0 rfl) ?_
    refine dk_get (a := h) (v := .ref a2) (C := kn_S) (T := kt_S) (N := 2) hx hb hts ki_S hown hK hP hh rfl 1 (by decide) (hts _ wi_56) (fun _ h9 => h9) rfl de_S_forget_9 ?_
    refine lv_iload_n hx hb de_S_forget_12 rfl (lv_at hl 1 rfl) ?_
    refine lv_iconst (v := nI 0) hx hb de_S_forget_13 (by decide) ?_
    refine dk_zast (a := a2) (x := (nI 0)) hx hb hK hP hS h2 k rfl (by omega) (by omega) (by decide +kernel) de_S_forget_14 (fun H locs w_152 hw_153 hP hS => ?_)
    have h_154 : w_152 a2 = some (15, dk_cz G 6 (upd fu k (nI 0))) := dk_here hw_153
    have h_155 : w_152 h = some (13, .inr (cx_S, [.ref a1, .ref a2])) := dk_keep hw_153 h2 hh (by decide)
    have h_156 : w_152 a1 = some (14, dk_ci G 6 fs) := dk_keep hw_153 h2 h1 (by decide)
    refine dk_vret hQ hx hb hr hlocks hP hS (Nat.le_refl _) (Nat.le_refl _) (⟨⟨a1, a2, _, _, h_155, h_156, h_154, fun j h9 => ?_⟩, (dk_fr.rf).tr ((dk_fr.up (T := sn_T) h2 (Or.inr (Or.inr rfl))).eq hw_153)⟩) de_S_forget_15
    by_cases e9 : j = k
    · subst e9
      exact ⟨by rw [pk_us, dk_us]; rfl, fun s9 z => by rw [dk_us] at z; cases z⟩
    · exact ⟨by rw [pk_un e9, dk_un e9]; exact (hj j h9).1, fun s9 z => by rw [dk_un e9] at z; exact (hj j h9).2 s9 z⟩
abbrev rm_S_forgetAll : Room := { frames := 0, cells := 0, slots := 0, locals := 0 }
set_option maxHeartbeats 4000000 in
set_option maxRecDepth 100000 in
theorem c_S_forgetAll (l : Launch) (G : dk_G) (w : dk_H) (h : Nat) (sn : Nat → Option Nat) (hs0 : sn_at G w h sn) : dk_Mv l my_S_forgetAll (wd_c my_S_forgetAll mb_S_forgetAll 2 none) rm_S_forgetAll G w [.ref h] (fun w1 => sn_at G w1 h (fun _ => none) ∧ dk_fr sn_T w w1) 0 0 := by
  obtain ⟨a1, a2, fs, fu, hh, h1, h2, hj⟩ := hs0
  refine dk_enter (lv := [(0, .ref h)]) (by decide) (Nat.le_of_ble_eq_true rfl) rfl (fun p e s m args below meth c ls Q hQ C hP hS hl => ?_)
  obtain ⟨hx, hb, hr, hml, hlocks, hown, hnm, hts, hE⟩ := C
  have hK := hE.1
  have hN := hE.2.1
  refine lv_iconst (v := nI 0) hx hb de_S_forgetAll_0 (by decide) ?_
  refine lv_istore_n (lv' := [(1, .int (nI 0)), (0, .ref h)]) hx hb de_S_forgetAll_1 rfl hl (by decide) rfl (fun ls hl => ?_)
  have lp : ∀ (zk : Nat) (i : Nat) (g : Nat → Int32), 6 - i < zk → (i ≤ 6) → (∀ j, j < i → g j = 0) → ∀ (H : Heap) (locs : List Loc) (v : dk_H), v h = some (13, .inr (cx_S, [.ref a1, .ref a2])) → v a1 = some (14, dk_ci G 6 fs) → v a2 = some (15, dk_cz G 6 g) → (dk_fr sn_T w v) → dk_P G v H → dk_S G s.heap H locs → ∀ (ls : Array Slot), lv_has ls 2 [(0, .ref h), (1, .int (nI i))] → W p l e rm_S_forgetAll s m args below meth c H locs 0 0 Q (F0 m 2 ls []) := by
    intro zk
    induction zk with
    | zero =>
      intro i g hk
      exact absurd hk (by omega)
    | succ zk ih =>
      intro i g hk hi hg
      intro H locs v hh h1 h2 hfr hP hS
      intro ls hl
      refine lv_iload_n hx hb de_S_forgetAll_2 rfl (lv_at hl 1 rfl) ?_
      refine lv_bipush (v := nI 6) hx hb de_S_forgetAll_3 (by decide) ?_
      refine nx_icmp_ge (a := i) (b := 6) (tgt := 21) hx hb (by omega) (by omega) de_S_forgetAll_5 (by decide) (fun c_157 => ?_) (fun c_157 => ?_)
      · exact dk_vret hQ hx hb hr hlocks hP hS (Nat.le_refl _) (Nat.le_refl _) (⟨⟨a1, a2, fs, g, hh, h1, h2, fun j h9 => ⟨by rw [hg j (by omega)]; rfl, fun s9 z => by cases z⟩⟩, hfr⟩) de_S_forgetAll_21
      · refine lv_aload_n hx hb de_S_forgetAll_8 rfl (lv_at hl 0 rfl) ?_
        refine dk_get (a := h) (v := .ref a2) (C := kn_S) (T := kt_S) (N := 2) hx hb hts ki_S hown hK hP hh rfl 1 (by decide) (hts _ wi_56) (fun _ h9 => h9) rfl de_S_forgetAll_9 ?_
        refine lv_iload_n hx hb de_S_forgetAll_12 rfl (lv_at hl 1 rfl) ?_
        refine lv_iconst (v := nI 0) hx hb de_S_forgetAll_13 (by decide) ?_
        refine dk_zast (a := a2) (x := (nI 0)) hx hb hK hP hS h2 i rfl (by omega) (by omega) (by decide +kernel) de_S_forgetAll_14 (fun H locs w_158 hw_159 hP hS => ?_)
        have h_160 : w_158 a2 = some (15, dk_cz G 6 (upd g i (nI 0))) := dk_here hw_159
        have h_161 : w_158 h = some (13, .inr (cx_S, [.ref a1, .ref a2])) := dk_keep hw_159 h2 hh (by decide)
        have h_162 : w_158 a1 = some (14, dk_ci G 6 fs) := dk_keep hw_159 h2 h1 (by decide)
        refine lv_iinc (v := nI (i + 1)) (lv' := [(1, .int (nI (i + 1))), (0, .ref h)]) hx hb de_S_forgetAll_15 hl (k := 1) rfl (nx_inc i) (by decide) rfl (fun ls hl => ?_)
        refine lv_goto (tgt := 2) hx hb de_S_forgetAll_18 (by decide) ?_
        have hfr3 := hfr.tr ((dk_fr.rf).tr ((dk_fr.up (T := sn_T) h2 (Or.inr (Or.inr rfl))).eq hw_159))
        exact ih (i + 1) (upd g i (nI 0)) (by omega) (by omega) (fun j9 h9 => by
        by_cases e9 : j9 = i
        · subst e9; rw [pk_us]; rfl
        · rw [pk_un e9]; exact hg j9 (by omega)) _ _ _ h_161 h_162 h_160 hfr3 hP hS _ (lv_sub hl [1, 0] rfl)
  exact lp 7 0 fu (by omega) (Nat.zero_le _) (fun j h9 => absurd h9 (by omega)) _ _ _ hh h1 h2 dk_fr.rf hP hS _ (lv_sub hl [1, 0] rfl)
abbrev rm_S_sequenceAt : Room := { frames := 1, cells := 0, slots := 0, locals := 21 }
set_option maxHeartbeats 4000000 in
set_option maxRecDepth 100000 in
theorem c_S_sequenceAt (l : Launch) (G : dk_G) (w : dk_H) (h : Nat) (sn : Nat → Option Nat) (hs0 : sn_at G w h sn) (k : Nat) (u : Nat) (hk0 : k < 6) (hk1 : sn k = some u) : dk_Mi l my_S_sequenceAt (wd_c my_S_sequenceAt mb_S_sequenceAt 2 (some .int)) rm_S_sequenceAt G w [.ref h, .int (nI k)] (fun r w1 => r = nI u ∧ w1 = w) 0 0 := by
  have hs1 := hs0
  obtain ⟨a1, a2, fs, fu, hh, h1, h2, hj⟩ := hs0
  refine dk_enter (lv := [(0, .ref h), (1, .int (nI k))]) (by decide) (Nat.le_of_ble_eq_true rfl) rfl (fun p e s m args below meth c ls Q hQ C hP hS hl => ?_)
  obtain ⟨hx, hb, hr, hml, hlocks, hown, hnm, hts, hE⟩ := C
  have hK := hE.1
  have hN := hE.2.1
  refine lv_aload_n hx hb de_S_sequenceAt_0 rfl (lv_at hl 0 rfl) ?_
  refine lv_iload_n hx hb de_S_sequenceAt_1 rfl (lv_at hl 1 rfl) ?_
  refine dk_calli (va_runV (As := [.int (nI k)]) (rest := []) ⟨hx, hb, hml, hown, hts⟩ (c_S_has l G w h sn hs1 (nI k)) (cwV 1 hts (wd_gV (C := "RunKeeper$Snapshots") wi_595 wi_601 wi_593 wi_594 wi_3) rfl rfl rfl (by decide +kernel) ⟨Nat.le_of_ble_eq_true rfl, Nat.le_of_ble_eq_true rfl⟩) (dk_preV (kn_S, kt_S, 2) hE hP hS hh rfl) rfl rfl hl.1 rfl (lv_room (Nat.le_of_ble_eq_true rfl)) de_S_sequenceAt_2 ⟨(by first | exact Nat.le_of_ble_eq_true rfl | (simp only [Nat.zero_add]; omega) | omega), (by first | exact Nat.le_of_ble_eq_true rfl | (simp only [Nat.zero_add]; omega) | omega)⟩) hS (fun r_165 w_163 H locs hq_164 hP hS => ?_)
  rw [sn_g3 hk0, hk1] at hq_164
  obtain ⟨hr_166, he_167⟩ := hq_164
  subst hr_166
  rw [he_167] at hP
  refine bo_if_eq (b := (some u).isSome) (tgt := 17) hx hb de_S_sequenceAt_5 (by decide) (fun c_168 => ?_) (fun c_168 => ?_)
  · cases c_168
  · refine lv_aload_n hx hb de_S_sequenceAt_8 rfl (lv_at hl 0 rfl) ?_
    refine dk_get (a := h) (v := .ref a1) (C := kn_S) (T := kt_S) (N := 2) hx hb hts ki_S hown hK hP hh rfl 0 (by decide) (hts _ wi_55) (fun _ h9 => h9) rfl de_S_sequenceAt_9 ?_
    refine lv_iload_n hx hb de_S_sequenceAt_12 rfl (lv_at hl 1 rfl) ?_
    refine dk_iald (a := a1) hx hb hK hP h1 k rfl (by omega) (by omega) de_S_sequenceAt_13 ?_
    refine lv_goto (tgt := 18) hx hb de_S_sequenceAt_14 (by decide) ?_
    exact dk_iret hQ hx hb hr hlocks hP hS (Nat.le_refl _) (Nat.le_refl _) (⟨((hj k hk0).2 u hk1).1, rfl⟩) de_S_sequenceAt_18
abbrev rm_S_taken : Room := { frames := 0, cells := 0, slots := 0, locals := 0 }
set_option maxHeartbeats 4000000 in
set_option maxRecDepth 100000 in
theorem c_S_taken (l : Launch) (G : dk_G) (w : dk_H) (h : Nat) (sn : Nat → Option Nat) (hs0 : sn_at G w h sn) : dk_Mi l my_S_taken (wd_c my_S_taken mb_S_taken 3 (some .int)) rm_S_taken G w [.ref h] (fun r w1 => r = nI (sn_ct sn 6) ∧ w1 = w) 0 0 := by
  obtain ⟨a1, a2, fs, fu, hh, h1, h2, hj⟩ := hs0
  refine dk_enter (lv := [(0, .ref h)]) (by decide) (Nat.le_of_ble_eq_true rfl) rfl (fun p e s m args below meth c ls Q hQ C hP hS hl => ?_)
  obtain ⟨hx, hb, hr, hml, hlocks, hown, hnm, hts, hE⟩ := C
  have hK := hE.1
  have hN := hE.2.1
  refine lv_iconst (v := nI 0) hx hb de_S_taken_0 (by decide) ?_
  refine lv_istore_n (lv' := [(1, .int (nI 0)), (0, .ref h)]) hx hb de_S_taken_1 rfl hl (by decide) rfl (fun ls hl => ?_)
  refine lv_iconst (v := nI 0) hx hb de_S_taken_2 (by decide) ?_
  refine lv_istore_n (lv' := [(2, .int (nI 0)), (1, .int (nI 0)), (0, .ref h)]) hx hb de_S_taken_3 rfl hl (by decide) rfl (fun ls hl => ?_)
  have lp : ∀ (zk : Nat) (i : Nat), 6 - i < zk → (i ≤ 6) → ∀ (ls : Array Slot), lv_has ls 3 [(0, .ref h), (1, .int (nI (sn_ct sn i))), (2, .int (nI i))] → W p l e rm_S_taken s m args below meth c s.heap [] 0 0 Q (F0 m 4 ls []) := by
    intro zk
    induction zk with
    | zero =>
      intro i hk
      exact absurd hk (by omega)
    | succ zk ih =>
      intro i hk hi
      intro ls hl
      refine lv_iload_n hx hb de_S_taken_4 rfl (lv_at hl 2 rfl) ?_
      refine lv_bipush (v := nI 6) hx hb de_S_taken_5 (by decide) ?_
      refine nx_icmp_ge (a := i) (b := 6) (tgt := 33) hx hb (by omega) (by omega) de_S_taken_7 (by decide) (fun c_169 => ?_) (fun c_169 => ?_)
      · refine lv_iload_n hx hb de_S_taken_33 rfl (lv_at hl 1 rfl) ?_
        exact dk_iret hQ hx hb hr hlocks hP hS (Nat.le_refl _) (Nat.le_refl _) (⟨by rw [show i = 6 by omega], rfl⟩) de_S_taken_34
      · refine lv_iload_n hx hb de_S_taken_10 rfl (lv_at hl 1 rfl) ?_
        refine lv_aload_n hx hb de_S_taken_11 rfl (lv_at hl 0 rfl) ?_
        refine dk_get (a := h) (v := .ref a2) (C := kn_S) (T := kt_S) (N := 2) hx hb hts ki_S hown hK hP hh rfl 1 (by decide) (hts _ wi_56) (fun _ h9 => h9) rfl de_S_taken_12 ?_
        refine lv_iload_n hx hb de_S_taken_15 rfl (lv_at hl 2 rfl) ?_
        refine dk_zald (a := a2) hx hb hK hP h2 i rfl (by omega) (by omega) de_S_taken_16 ?_
        rw [(hj i c_169).1]
        refine bo_if_eq (b := (sn i).isSome) (tgt := 24) hx hb de_S_taken_17 (by decide) (fun c_170 => ?_) (fun c_170 => ?_)
        · refine lv_iconst (v := nI 0) hx hb de_S_taken_24 (by decide) ?_
          refine nx_iadd (a := sn_ct sn i) (b := 0) hx hb de_S_taken_25 ?_
          have e9 : sn_ct sn i + 0 = sn_ct sn (i + 1) := by simp [sn_ct, c_170]
          rw [e9]
          refine lv_istore_n (lv' := [(1, .int (nI (sn_ct sn (i + 1)))), (0, .ref h), (2, .int (nI i))]) hx hb de_S_taken_26 rfl hl (by decide) rfl (fun ls hl => ?_)
          refine lv_iinc (v := nI (i + 1)) (lv' := [(2, .int (nI (i + 1))), (1, .int (nI (sn_ct sn (i + 1)))), (0, .ref h)]) hx hb de_S_taken_27 hl (k := 2) rfl (nx_inc i) (by decide) rfl (fun ls hl => ?_)
          refine lv_goto (tgt := 4) hx hb de_S_taken_30 (by decide) ?_
          exact ih (i + 1) (by omega) (by omega) _ (lv_sub hl [2, 1, 0] rfl)
        · refine lv_iconst (v := nI 1) hx hb de_S_taken_20 (by decide) ?_
          refine lv_goto (tgt := 25) hx hb de_S_taken_21 (by decide) ?_
          refine nx_iadd (a := sn_ct sn i) (b := 1) hx hb de_S_taken_25 ?_
          have e9 : sn_ct sn i + 1 = sn_ct sn (i + 1) := by simp [sn_ct, c_170]
          rw [e9]
          refine lv_istore_n (lv' := [(1, .int (nI (sn_ct sn (i + 1)))), (0, .ref h), (2, .int (nI i))]) hx hb de_S_taken_26 rfl hl (by decide) rfl (fun ls hl => ?_)
          refine lv_iinc (v := nI (i + 1)) (lv' := [(2, .int (nI (i + 1))), (1, .int (nI (sn_ct sn (i + 1)))), (0, .ref h)]) hx hb de_S_taken_27 hl (k := 2) rfl (nx_inc i) (by decide) rfl (fun ls hl => ?_)
          refine lv_goto (tgt := 4) hx hb de_S_taken_30 (by decide) ?_
          exact ih (i + 1) (by omega) (by omega) _ (lv_sub hl [2, 1, 0] rfl)
  exact lp 7 0 (by omega) (Nat.zero_le _) _ (lv_sub hl [2, 1, 0] rfl)
abbrev rm_S_anyFromBelow : Room := { frames := 0, cells := 0, slots := 0, locals := 0 }
set_option maxHeartbeats 4000000 in
set_option maxRecDepth 100000 in
theorem c_S_anyFromBelow (l : Launch) (G : dk_G) (w : dk_H) (h : Nat) (sn : Nat → Option Nat) (hs0 : sn_at G w h sn) (a b : Nat) (ha0 : a < 2 ^ 31) (hb0 : b < 2 ^ 31) : dk_Mi l my_S_anyFromBelow (wd_c my_S_anyFromBelow mb_S_anyFromBelow 4 (some .boolean)) rm_S_anyFromBelow G w [.ref h, .int (nI a), .int (nI b)] (fun r w1 => r = bo_i (sn_an sn a b 6) ∧ w1 = w) 0 0 := by
  obtain ⟨a1, a2, fs, fu, hh, h1, h2, hj⟩ := hs0
  refine dk_enter (lv := [(0, .ref h), (1, .int (nI a)), (2, .int (nI b))]) (by decide) (Nat.le_of_ble_eq_true rfl) rfl (fun p e s m args below meth c ls Q hQ C hP hS hl => ?_)
  obtain ⟨hx, hb, hr, hml, hlocks, hown, hnm, hts, hE⟩ := C
  have hK := hE.1
  have hN := hE.2.1
  refine lv_iconst (v := nI 0) hx hb de_S_anyFromBelow_0 (by decide) ?_
  refine lv_istore_n (lv' := [(3, .int (nI 0)), (0, .ref h), (1, .int (nI a)), (2, .int (nI b))]) hx hb de_S_anyFromBelow_1 rfl hl (by decide) rfl (fun ls hl => ?_)
  have lp : ∀ (zk : Nat) (i : Nat), 6 - i < zk → (i ≤ 6) → (sn_an sn a b i = false) → ∀ (ls : Array Slot), lv_has ls 4 [(0, .ref h), (1, .int (nI a)), (2, .int (nI b)), (3, .int (nI i))] → W p l e rm_S_anyFromBelow s m args below meth c s.heap [] 0 0 Q (F0 m 2 ls []) := by
    intro zk
    induction zk with
    | zero =>
      intro i hk
      exact absurd hk (by omega)
    | succ zk ih =>
      intro i hk hi hno
      intro ls hl
      refine lv_iload_n hx hb de_S_anyFromBelow_2 rfl (lv_at hl 3 rfl) ?_
      refine lv_bipush (v := nI 6) hx hb de_S_anyFromBelow_3 (by decide) ?_
      refine nx_icmp_ge (a := i) (b := 6) (tgt := 45) hx hb (by omega) (by omega) de_S_anyFromBelow_5 (by decide) (fun c_171 => ?_) (fun c_171 => ?_)
      · refine lv_iconst (v := nI 0) hx hb de_S_anyFromBelow_45 (by decide) ?_
        rw [show i = 6 by omega] at hno
        exact dk_zret hQ hx hb hr hlocks hP hS (Nat.le_refl _) (Nat.le_refl _) (by decide +kernel) (⟨bo_of0 hno, rfl⟩) de_S_anyFromBelow_46
      · refine lv_aload_n hx hb de_S_anyFromBelow_8 rfl (lv_at hl 0 rfl) ?_
        refine dk_get (a := h) (v := .ref a2) (C := kn_S) (T := kt_S) (N := 2) hx hb hts ki_S hown hK hP hh rfl 1 (by decide) (hts _ wi_56) (fun _ h9 => h9) rfl de_S_anyFromBelow_9 ?_
        refine lv_iload_n hx hb de_S_anyFromBelow_12 rfl (lv_at hl 3 rfl) ?_
        refine dk_zald (a := a2) hx hb hK hP h2 i rfl (by omega) (by omega) de_S_anyFromBelow_13 ?_
        rw [(hj i c_171).1]
        refine bo_if_eq (b := (sn i).isSome) (tgt := 39) hx hb de_S_anyFromBelow_14 (by decide) (fun c_172 => ?_) (fun c_172 => ?_)
        · have e9 := sn_no c_172
          refine lv_iinc (v := nI (i + 1)) (lv' := [(3, .int (nI (i + 1))), (0, .ref h), (1, .int (nI a)), (2, .int (nI b))]) hx hb de_S_anyFromBelow_39 hl (k := 3) rfl (nx_inc i) (by decide) rfl (fun ls hl => ?_)
          refine lv_goto (tgt := 2) hx hb de_S_anyFromBelow_42 (by decide) ?_
          exact ih (i + 1) (by omega) (by omega) (by simp [sn_an, hno, e9]) _ (lv_sub hl [1, 2, 3, 0] rfl)
        · obtain ⟨u, hu9⟩ := Option.isSome_iff_exists.mp c_172
          have hu8 := (hj i c_171).2 u hu9
          have hu7 := hu8.2
          refine lv_iload_n hx hb de_S_anyFromBelow_17 rfl (lv_at hl 1 rfl) ?_
          refine lv_aload_n hx hb de_S_anyFromBelow_18 rfl (lv_at hl 0 rfl) ?_
          refine dk_get (a := h) (v := .ref a1) (C := kn_S) (T := kt_S) (N := 2) hx hb hts ki_S hown hK hP hh rfl 0 (by decide) (hts _ wi_55) (fun _ h9 => h9) rfl de_S_anyFromBelow_19 ?_
          refine lv_iload_n hx hb de_S_anyFromBelow_22 rfl (lv_at hl 3 rfl) ?_
          refine dk_iald (a := a1) hx hb hK hP h1 i rfl (by omega) (by omega) de_S_anyFromBelow_23 ?_
          rw [hu8.1]
          refine nx_icmp_gt (a := a) (b := u) (tgt := 39) hx hb (by omega) (by omega) de_S_anyFromBelow_24 (by decide) (fun c_173 => ?_) (fun c_173 => ?_)
          · refine lv_iinc (v := nI (i + 1)) (lv' := [(3, .int (nI (i + 1))), (0, .ref h), (1, .int (nI a)), (2, .int (nI b))]) hx hb de_S_anyFromBelow_39 hl (k := 3) rfl (nx_inc i) (by decide) rfl (fun ls hl => ?_)
            refine lv_goto (tgt := 2) hx hb de_S_anyFromBelow_42 (by decide) ?_
            exact ih (i + 1) (by omega) (by omega) (by simp [sn_an, hno, hu9]; omega) _ (lv_sub hl [1, 2, 3, 0] rfl)
          · refine lv_aload_n hx hb de_S_anyFromBelow_27 rfl (lv_at hl 0 rfl) ?_
            refine dk_get (a := h) (v := .ref a1) (C := kn_S) (T := kt_S) (N := 2) hx hb hts ki_S hown hK hP hh rfl 0 (by decide) (hts _ wi_55) (fun _ h9 => h9) rfl de_S_anyFromBelow_28 ?_
            refine lv_iload_n hx hb de_S_anyFromBelow_31 rfl (lv_at hl 3 rfl) ?_
            refine dk_iald (a := a1) hx hb hK hP h1 i rfl (by omega) (by omega) de_S_anyFromBelow_32 ?_
            rw [hu8.1]
            refine lv_iload_n hx hb de_S_anyFromBelow_33 rfl (lv_at hl 2 rfl) ?_
            refine nx_icmp_ge (a := u) (b := b) (tgt := 39) hx hb (by omega) (by omega) de_S_anyFromBelow_34 (by decide) (fun c_174 => ?_) (fun c_174 => ?_)
            · refine lv_iinc (v := nI (i + 1)) (lv' := [(3, .int (nI (i + 1))), (0, .ref h), (1, .int (nI a)), (2, .int (nI b))]) hx hb de_S_anyFromBelow_39 hl (k := 3) rfl (nx_inc i) (by decide) rfl (fun ls hl => ?_)
              refine lv_goto (tgt := 2) hx hb de_S_anyFromBelow_42 (by decide) ?_
              exact ih (i + 1) (by omega) (by omega) (by simp [sn_an, hno, hu9]; omega) _ (lv_sub hl [1, 2, 3, 0] rfl)
            · refine lv_iconst (v := nI 1) hx hb de_S_anyFromBelow_37 (by decide) ?_
              exact dk_zret hQ hx hb hr hlocks hP hS (Nat.le_refl _) (Nat.le_refl _) (by decide +kernel) (⟨bo_of1 (sn_any c_171 hu9 (by omega) (by omega)), rfl⟩) de_S_anyFromBelow_38
  exact lp 7 0 (by omega) (Nat.zero_le _) rfl _ (lv_sub hl [1, 2, 3, 0] rfl)
end
section
/-! ArrayList: its cells, and rows for arrays of Objects -/
abbrev al_c (mo : Int32) (ed n : Nat) : va_E := .inr (cx_A, [.int mo, .ref ed, .int (nI n)])
/-- the elements xs: cells of runs -/
def al_at (G : dk_G) (w : dk_H) (h t0 t1 : Nat) (xs : List Nat) : Prop := ∃ (mo : Int32) (ed : Nat), w h = some (t0, al_c mo ed xs.length) ∧ ((ed = G.2.2.2 1 ∧ xs = []) ∨ ∃ (cap : Nat) (f : Nat → Option Nat), w ed = some (t1, dk_ca G 5 cap f) ∧ xs.length ≤ cap ∧ 10 ≤ cap ∧ cap ≤ 900 ∧ ∀ i x, xs[i]? = some x → f i = some x)
def al_el (w : dk_H) (xs : List Nat) : Prop := ∀ x ∈ xs, ∃ fs, w x = some (0, .inr (cx_U, fs))
theorem al_at.fr {G : dk_G} {T : Nat → Prop} {w w1 : dk_H} {h t0 t1 : Nat} {xs : List Nat} (H : al_at G w h t0 t1 xs) (hf : dk_fr T w w1) (h0 : ¬ T t0) (h1 : ¬ T t1) : al_at G w1 h t0 t1 xs := by
  obtain ⟨mo, ed, g1, g2⟩ := H
  refine ⟨mo, ed, hf _ _ _ g1 h0, ?_⟩
  rcases g2 with g2 | ⟨cap, f, g2, g3⟩
  · exact Or.inl g2
  · exact Or.inr ⟨cap, f, hf _ _ _ g2 h1, g3⟩
theorem al_el.fr {T : Nat → Prop} {w w1 : dk_H} {xs : List Nat} (H : al_el w xs) (hf : dk_fr T w w1) (h0 : ¬ T 0) : al_el w1 xs := fun x hx => (H x hx).imp fun fs h => hf _ _ _ h h0
section ALR
variable {p : Program} {l : Launch} {e : Env} {R : Room} {s : State} {m : MethodId} {args : Array Value} {below : List Frame} {meth : Method} {c : Code} {H : Heap} {locs : List Loc} {cells slots : Nat} {Q : State → Prop}
variable {cc : ByteArray} {pc : Nat} {ls : Array Slot} {rest : List Value} {G : dk_G} {w : dk_H} {a t : Nat} {H0 : Heap}
/-- a reference into an array of a class that its own can be cast to -/
theorem dk_aastO (hexec : p.tables.exec = Jvm.exec) (hb : c.code = cc) (hK : dk_K G s) (hP : dk_P G w H) (hS : dk_S G H0 H locs) {E : String} {ka n v ci tv : Nat} {r : vw_C} {vs : List Value} {f : Nat → Option Nat} (ha : w a = some (t, dk_ca G ka n f)) (ht : (dk_tys G)[ka]? = some (G.2.1 ka, .object E)) (hca : va_Nw (.castable r.1 E) s) (hv : w v = some (tv, .inr (ci, vs))) (hc : vwCl[ci]? = some r) {i : Int32} (j : Nat) (hi : i = nI j) (hj : j < n) (hn : n < 2 ^ 31) (hdg : decode cc pc = .ok (.aastore, 1))
    (kk : ∀ (H1 : Heap) (locs1 : List Loc) (w1 : dk_H), w1 = va_up w a (some (t, dk_ca G ka n (va_up f j (some v)))) → dk_P G w1 H1 → dk_S G H0 H1 locs1 → W p l e R s m args below meth c H1 locs1 cells slots Q (F0 m (pc + 1) ls rest)) : W p l e R s m args below meth c H locs cells slots Q (F0 m pc ls (.ref v :: .int i :: .ref a :: rest)) := by
  have ec : i.toNatClampNeg = j := by rw [hi]; exact nI_clamp (by omega)
  have hge := (hP a t _ ha).1
  have hin := dk_in hi hj hn
  have hlt : i.toNatClampNeg < n := Nat.not_le.mp fun q => hin (Or.inr q)
  have h0 : ¬ i < 0 := fun q => hin (Or.inl q)
  obtain ⟨-, r', hr', cellV, g1, g2, g3, -⟩ := hP v tv _ hv
  have hcls := (hK.1 ci r hc).2
  obtain ⟨kA, comp, k1, k2, k3, -⟩ := (hK.2 ka _ ht).2
  obtain ⟨kE, hkE, -⟩ := Vm.findClass_spec k3
  obtain ⟨c0, t1, f1, f2, f3⟩ := Cond.castable_spec (va_Nw.use (A := args) rfl hca)
  cases hcls.1.symm.trans f1
  cases k3.symm.trans f2
  obtain ⟨kC, hkC, -⟩ := hcls.2
  refine W.aast hexec hb (hP a t _ ha).2 (fun q h => by cases h) (fun h => by cases h) k1 k2 rfl hkE ⟨h0, by show _ < (arrV _ _ _).slots.size; rw [arrV_size]; exact hlt⟩ g1 (fun q h => by rw [g3] at h; cases h) (by rw [g2]; exact hkC) (by rw [g2]; exact f3) rfl rfl hdg fun H1 e z oq => ?_
  refine kk H1 _ _ rfl (hP.set hge ?_ oq) (hS.put z oq hge)
  show H1[a]? = some (vp_cell _ _)
  rw [e]
  rw [vp_cell_q, vp_cell_q, arrV_store]
  congr 2
  funext q
  rw [ec]
  by_cases hq : q = j
  · subst hq
    simp [updV, va_up, va_rf]
  · simp [updV, va_up, hq]
theorem dk_any {E : String} {ci : Nat} {r : vw_C} {fs : List Value} (hK : dk_K G s) (hP : dk_P G w H) (he : w a = some (t, .inr (ci, fs))) (hc : vwCl[ci]? = some r) (hca : va_Nw (.castable r.1 E) s) : va_Any E s H a := by
  refine va_rAny hK (hP.one he) (q0 := 0) rfl hc (fun comp c0 h1 h2 => ?_)
  obtain ⟨c1, c2, f1, f2, f3⟩ := Cond.castable_spec (va_Nw.use (A := #[]) rfl hca)
  cases h2.symm.trans f1
  cases h1.symm.trans f2
  exact f3
/-- arraycopy of n first elements, in a method that has written nothing yet -/
theorem dk_copyM {ta : Nat} (hexec : p.tables.exec = Jvm.exec) (hb : c.code = cc) (hml : c.maxLocals = ls.size) {own : String} {index : Nat} (hown : s.vm.findClass own = some m.cls) (hlink : (Cond.methodLink own index arraycopyName).before args s = true) (hnat : (Cond.native arraycopyName).before args s = true) (hstat : (Cond.static arraycopyName).before args s = true) (hini : (Cond.initialized "java/lang/System").before args s = true)
    (hK : dk_K G s) (hP : dk_P G w H) (hS : dk_S G H0 H []) {a0 n0 n1 : Nat} {f g : Nat → Option Nat} (ha0 : w a0 = some (ta, dk_ca G 5 n0 f)) (ha1 : w a = some (t, dk_ca G 5 n1 g)) (hne : a0 ≠ a) (n : Nat) (hn : n < 2 ^ 31) (h4 : n ≤ n0) (h5 : n ≤ n1) (hel : ∀ i : Nat, i < n → ∀ y : Nat, f i = some y → va_Any dk_nO s H y)
    (hframes : 1 ≤ R.frames) (hlocals : (rest.map fun v => v.category).sum + (nativeFrameWords "java/lang/System" "arraycopy" 5 + 11) ≤ R.locals) (hdg : decode cc pc = .ok (.invokestatic index, 3))
    (kk : ∀ (H1 : Heap) (locs1 : List Loc) (w1 : dk_H), w1 = va_up w a (some (t, dk_ca G 5 n1 (va_cpy f g 0 0 n))) → dk_P G w1 H1 → dk_S G H0 H1 locs1 → W p l e R s m args below meth c H1 locs1 cells slots Q (F0 m (pc + 3) ls rest)) : W p l e R s m args below meth c H [] cells slots Q (F0 m pc ls (.int (nI n) :: .int (nI 0) :: .ref a :: .int (nI 0) :: .ref a0 :: rest)) := by
  have e0 : (nI 0).toNatClampNeg = 0 := nI_clamp (by decide)
  have en : (nI n).toNatClampNeg = n := nI_clamp hn
  have hP2 : va_P G.1 vwCl [(a0, dk_ca G 5 n0 f), (a, dk_ca G 5 n1 g)] H := fun k q hk => by
    match k, hk with
    | 0, hk => cases hk; exact (hP a0 ta _ ha0).2
    | 1, hk => cases hk; exact (hP a t _ ha1).2
    | k + 2, hk => simp at hk
  have hD : va_D (fun q => q = a0 ∨ q = a) [(a0, dk_ca G 5 n0 f), (a, dk_ca G 5 n1 g)] := by
    refine ⟨fun i j x y hi hj hxy => ?_, fun k q hk => ?_⟩
    · match i, j, hi, hj with
      | 0, 0, _, _ => rfl
      | 1, 1, _, _ => rfl
      | 0, 1, hi, hj => cases hi; cases hj; exact absurd hxy hne
      | 1, 0, hi, hj => cases hi; cases hj; exact absurd hxy.symm hne
      | i + 2, _, hi, _ => simp at hi
      | _, j + 2, _, hj => simp at hj
    · match k, hk with
      | 0, hk => cases hk; exact Or.inl rfl
      | 1, hk => cases hk; exact Or.inr rfl
      | k + 2, hk => simp at hk
  have hge0 := (hP a0 ta _ ha0).1
  have hge := (hP a t _ ha1).1
  refine va_copyM hexec hb hml hown hlink hnat hstat hini hK hP2 hD (va_S.rf (H0 := H)) 0 1 5 5 (E0 := dk_nO) (E1 := dk_nO) rfl rfl rfl rfl (nI_pos (by decide)) (nI_pos (by decide)) (nI_pos hn) (by rw [e0, en]; omega) (by rw [e0, en]; omega) (fun i hi y hy => hel i (by rw [en] at hi; exact hi) y (by rw [e0, Nat.zero_add] at hy; exact hy)) hframes hlocals hdg (fun H1 locs1 hP1 _ hS1 => ?_)
  rw [e0, en] at hP1
  have q0 : va_at G.1 vwCl (a0, dk_ca G 5 n0 f) H1 := hP1 0 _ rfl
  have q1 : va_at G.1 vwCl (a, dk_ca G 5 n1 (va_cpy f g 0 0 n)) H1 := hP1 1 _ rfl
  refine kk H1 locs1 _ rfl (fun b u x hb => ?_) ⟨Nat.le_trans hS.1 hS1.1, fun q z1 z2 => ?_, fun x hx => ?_⟩
  · by_cases hba : b = a
    · subst hba
      rw [dk_us] at hb
      cases hb
      exact ⟨hge, q1⟩
    · rw [dk_un hba] at hb
      by_cases hb0 : b = a0
      · subst hb0
        rw [ha0] at hb
        cases hb
        exact ⟨hge0, q0⟩
      · obtain ⟨y1, y2⟩ := hP b u x hb
        exact ⟨y1, y2.kept (hS1.2.1 b y2.lt (fun z => by rcases z with z | z; exact hb0 z; exact hba z))⟩
  · rw [hS1.2.1 q (Nat.lt_of_lt_of_le z1 hS.1) (fun z => z2 (by rcases z with z | z; rw [z]; exact hge0; rw [z]; exact hge))]
    exact hS.2.1 q z1 z2
  · rcases hS1.2.2 x hx with z | z
    · rw [z]; exact hge0
    · rw [z]; exact hge
end ALR
end
section
/-! ArrayList, walked (printed by gen/c_al.py) -/
abbrev rm_C_init : Room := { frames := 1, cells := 0, slots := 0, locals := 20 }
set_option maxHeartbeats 4000000 in
set_option maxRecDepth 100000 in
theorem c_C_init (l : Launch) (G : dk_G) (w : dk_H) (h : Nat) : dk_Mv l my_C_init (wd_c my_C_init mb_C_init 1 none) rm_C_init G w [.ref h] (fun w1 => w1 = w) 0 0 := by
  refine dk_enter (lv := [(0, .ref h)]) (by decide) (Nat.le_of_ble_eq_true rfl) rfl (fun p e s m args below meth c ls Q hQ C hP hS hl => ?_)
  obtain ⟨hx, hb, hr, hml, hlocks, hown, hnm, hts, hE⟩ := C
  have hK := hE.1
  have hN := hE.2.1
  refine lv_aload_n hx hb de_C_init_0 rfl (lv_at hl 0 rfl) ?_
  refine W.objInit hx hb hown (hts _ wi_81) (hts _ wi_30) (hts _ wi_31) rfl (by rw [hml]; exact hl.1) rfl de_C_init_1 (Nat.le_of_ble_eq_true rfl) (Nat.le_of_ble_eq_true rfl) ?_
  refine W.eq (g2 := F0 m 4 ls []) rfl ?_
  exact dk_vret hQ hx hb hr hlocks hP hS (Nat.le_refl _) (Nat.le_refl _) rfl de_C_init_4
abbrev rm_B_init : Room := { frames := 2, cells := 0, slots := 0, locals := 40 }
set_option maxHeartbeats 4000000 in
set_option maxRecDepth 100000 in
theorem c_B_init (l : Launch) (G : dk_G) (w : dk_H) (h t0 : Nat) (hh : w h = some (t0, .inr (cx_A, [.int 0, .null, .int 0]))) : dk_Mv l my_B_init (wd_c my_B_init mb_B_init 1 none) rm_B_init G w [.ref h] (fun w1 => w1 = va_up w h (some (t0, .inr (cx_A, [.int (nI 0), .null, .int 0])))) 0 0 := by
  refine dk_enter (lv := [(0, .ref h)]) (by decide) (Nat.le_of_ble_eq_true rfl) rfl (fun p e s m args below meth c ls Q hQ C hP hS hl => ?_)
  obtain ⟨hx, hb, hr, hml, hlocks, hown, hnm, hts, hE⟩ := C
  have hK := hE.1
  have hN := hE.2.1
  refine lv_aload_n hx hb de_B_init_0 rfl (lv_at hl 0 rfl) ?_
  refine dk_callv (va_runI (As := []) (rest := []) ⟨hx, hb, hml, hown, hts⟩ (c_C_init l G w h) (cwI 0 hts (wd_g wi_80) rfl rfl rfl (hts _ wi_5) (hts _ wi_78) (hts _ wi_79) rfl (by decide +kernel) ⟨Nat.le_of_ble_eq_true rfl, Nat.le_of_ble_eq_true rfl⟩) (dk_preS hE hP hS) rfl rfl hl.1 rfl (lv_room (Nat.le_of_ble_eq_true rfl)) de_B_init_1 ⟨(by first | exact Nat.le_of_ble_eq_true rfl | (simp only [Nat.zero_add]; omega) | omega), (by first | exact Nat.le_of_ble_eq_true rfl | (simp only [Nat.zero_add]; omega) | omega)⟩) hS (fun w_175 H locs hq_176 hP hS => ?_)
  rw [hq_176] at hP
  refine lv_aload_n hx hb de_B_init_4 rfl (lv_at hl 0 rfl) ?_
  refine lv_iconst (v := nI 0) hx hb de_B_init_5 (by decide) ?_
  refine dk_put (a := h) (v := .int (nI 0)) (ty := .int) (C := kn_A) (T := kt_A) (N := 3) hx hb hts ki_A ky_A kk_A kd_A hown hK hP hS hh rfl 0 (by decide) (hts _ wi_86) (fun _ h9 => h9) rfl (by decide +kernel) rfl rfl (Nat.le_of_ble_eq_true rfl) de_B_init_6 (fun H locs w_178 hw_179 hP hS => ?_)
  have h_180 : w_178 h = some (t0, .inr (cx_A, [.int (nI 0), .null, .int 0])) := dk_here hw_179
  exact dk_vret hQ hx hb hr hlocks hP hS (Nat.le_refl _) (Nat.le_refl _) (by rw [hw_179]; rfl) de_B_init_9
abbrev rm_A_init : Room := { frames := 3, cells := 0, slots := 0, locals := 60 }
set_option maxHeartbeats 4000000 in
set_option maxRecDepth 100000 in
theorem c_A_init (l : Launch) (G : dk_G) (w : dk_H) (h t0 t1 : Nat) (hh : w h = some (t0, .inr (cx_A, [.int 0, .null, .int 0]))) : dk_Mv l my_A_init (wd_c my_A_init mb_A_init 1 none) rm_A_init G w [.ref h] (fun w1 => al_at G w1 h t0 t1 [] ∧ dk_fr (fun t => t = t0) w w1) 0 0 := by
  refine dk_enter (lv := [(0, .ref h)]) (by decide) (Nat.le_of_ble_eq_true rfl) rfl (fun p e s m args below meth c ls Q hQ C hP hS hl => ?_)
  obtain ⟨hx, hb, hr, hml, hlocks, hown, hnm, hts, hE⟩ := C
  have hK := hE.1
  have hN := hE.2.1
  refine lv_aload_n hx hb de_A_init_0 rfl (lv_at hl 0 rfl) ?_
  refine dk_callv (va_runI (As := []) (rest := []) ⟨hx, hb, hml, hown, hts⟩ (c_B_init l G w h t0 hh) (cwI 0 hts (wd_g wi_77) rfl rfl rfl (hts _ wi_6) (hts _ wi_75) (hts _ wi_76) rfl (by decide +kernel) ⟨Nat.le_of_ble_eq_true rfl, Nat.le_of_ble_eq_true rfl⟩) (dk_preS hE hP hS) rfl rfl hl.1 rfl (lv_room (Nat.le_of_ble_eq_true rfl)) de_A_init_1 ⟨(by first | exact Nat.le_of_ble_eq_true rfl | (simp only [Nat.zero_add]; omega) | omega), (by first | exact Nat.le_of_ble_eq_true rfl | (simp only [Nat.zero_add]; omega) | omega)⟩) hS (fun w_181 H locs hq_182 hP hS => ?_)
  have h_184 : w_181 h = some (t0, .inr (cx_A, [.int (nI 0), .null, .int 0])) := dk_here hq_182
  refine lv_aload_n hx hb de_A_init_4 rfl (lv_at hl 0 rfl) ?_
  refine va_gets hx hb hE.2.2.1.2.1.1 hS hown (hts _ wi_82) (fun _ h9 => h9) de_A_init_5 ?_
  refine dk_put (a := h) (v := .ref (G.2.2.2 1)) (ty := (.array (.object "java/lang/Object"))) (C := kn_A) (T := kt_A) (N := 3) hx hb hts ki_A ky_A kk_A kd_A hown hK hP hS h_184 rfl 1 (by decide) (hts _ wi_84) (fun _ h9 => h9) rfl (by decide +kernel) rfl rfl (Nat.le_of_ble_eq_true rfl) de_A_init_8 (fun H locs w_185 hw_186 hP hS => ?_)
  have h_187 : w_185 h = some (t0, .inr (cx_A, [.int (nI 0), .ref (G.2.2.2 1), .int 0])) := dk_here hw_186
  exact dk_vret hQ hx hb hr hlocks hP hS (Nat.le_refl _) (Nat.le_refl _) (⟨⟨nI 0, G.2.2.2 1, h_187, Or.inl ⟨rfl, rfl⟩⟩, ((dk_fr.rf).tr ((dk_fr.up (T := fun t => t = t0) hh rfl).eq hq_182)).tr ((dk_fr.up (T := fun t => t = t0) h_184 rfl).eq hw_186)⟩) de_A_init_11
abbrev rm_A_size : Room := { frames := 0, cells := 0, slots := 0, locals := 0 }
set_option maxHeartbeats 4000000 in
set_option maxRecDepth 100000 in
theorem c_A_size (l : Launch) (G : dk_G) (w : dk_H) (h t0 t1 : Nat) (xs : List Nat) (ha0 : al_at G w h t0 t1 xs) : dk_Mi l my_A_size (wd_c my_A_size mb_A_size 1 (some .int)) rm_A_size G w [.ref h] (fun r w1 => r = nI xs.length ∧ w1 = w) 0 0 := by
  obtain ⟨mo, ed, hh, he⟩ := ha0
  refine dk_enter (lv := [(0, .ref h)]) (by decide) (Nat.le_of_ble_eq_true rfl) rfl (fun p e s m args below meth c ls Q hQ C hP hS hl => ?_)
  obtain ⟨hx, hb, hr, hml, hlocks, hown, hnm, hts, hE⟩ := C
  have hK := hE.1
  have hN := hE.2.1
  refine lv_aload_n hx hb de_A_size_0 rfl (lv_at hl 0 rfl) ?_
  refine dk_get (a := h) (v := .int (nI xs.length)) (C := kn_A) (T := kt_A) (N := 3) hx hb hts ki_A hown hK hP hh rfl 2 (by decide) (hts _ wi_85) (fun _ h9 => h9) rfl de_A_size_1 ?_
  exact dk_iret hQ hx hb hr hlocks hP hS (Nat.le_refl _) (Nat.le_refl _) (⟨rfl, rfl⟩) de_A_size_4
abbrev rm_P_checkIndex : Room := { frames := 0, cells := 0, slots := 0, locals := 0 }
set_option maxHeartbeats 4000000 in
set_option maxRecDepth 100000 in
theorem c_P_checkIndex (l : Launch) (G : dk_G) (w : dk_H) (i n : Nat) (hi : i < n) (hn : n < 2 ^ 31) : dk_Mi l my_P_checkIndex (wd_c my_P_checkIndex mb_P_checkIndex 3 (some .int)) rm_P_checkIndex G w [.int (nI i), .int (nI n), .null] (fun r w1 => r = nI i ∧ w1 = w) 0 0 := by
  refine dk_enter (lv := [(0, .int (nI i)), (1, .int (nI n)), (2, .null)]) (by decide) (Nat.le_of_ble_eq_true rfl) rfl (fun p e s m args below meth c ls Q hQ C hP hS hl => ?_)
  obtain ⟨hx, hb, hr, hml, hlocks, hown, hnm, hts, hE⟩ := C
  have hK := hE.1
  have hN := hE.2.1
  refine lv_iload_n hx hb de_P_checkIndex_0 rfl (lv_at hl 0 rfl) ?_
  refine nx_if_lt (a := i) (tgt := 9) hx hb (by omega) de_P_checkIndex_1 (by decide) ?_
  refine lv_iload_n hx hb de_P_checkIndex_4 rfl (lv_at hl 0 rfl) ?_
  refine lv_iload_n hx hb de_P_checkIndex_5 rfl (lv_at hl 1 rfl) ?_
  refine nx_icmp_lt (a := i) (b := n) (tgt := 16) hx hb (by omega) (by omega) de_P_checkIndex_6 (by decide) (fun c_189 => ?_) (fun c_189 => ?_)
  · refine lv_iload_n hx hb de_P_checkIndex_16 rfl (lv_at hl 0 rfl) ?_
    exact dk_iret hQ hx hb hr hlocks hP hS (Nat.le_refl _) (Nat.le_refl _) (⟨rfl, rfl⟩) de_P_checkIndex_17
  · exact absurd c_189 (by omega)
abbrev rm_O_checkIndex : Room := { frames := 1, cells := 0, slots := 0, locals := 22 }
set_option maxHeartbeats 4000000 in
set_option maxRecDepth 100000 in
theorem c_O_checkIndex (l : Launch) (G : dk_G) (w : dk_H) (i n : Nat) (hi : i < n) (hn : n < 2 ^ 31) : dk_Mi l my_O_checkIndex (wd_c my_O_checkIndex mb_O_checkIndex 2 (some .int)) rm_O_checkIndex G w [.int (nI i), .int (nI n)] (fun r w1 => r = nI i ∧ w1 = w) 0 0 := by
  refine dk_enter (lv := [(0, .int (nI i)), (1, .int (nI n))]) (by decide) (Nat.le_of_ble_eq_true rfl) rfl (fun p e s m args below meth c ls Q hQ C hP hS hl => ?_)
  obtain ⟨hx, hb, hr, hml, hlocks, hown, hnm, hts, hE⟩ := C
  have hK := hE.1
  have hN := hE.2.1
  refine lv_iload_n hx hb de_O_checkIndex_0 rfl (lv_at hl 0 rfl) ?_
  refine lv_iload_n hx hb de_O_checkIndex_1 rfl (lv_at hl 1 rfl) ?_
  refine lv_null hx hb de_O_checkIndex_2 ?_
  refine dk_calli (va_runS (As := [.int (nI i), .int (nI n), .null]) (rest := []) ⟨hx, hb, hml, hown, hts⟩ (c_P_checkIndex l G w i n hi hn) (va_cwS 3 hts (wd_gS wi_314 wi_312 wi_313 wi_22) rfl rfl rfl (by decide +kernel) ⟨Nat.le_of_ble_eq_true rfl, Nat.le_of_ble_eq_true rfl⟩) (dk_preS hE hP hS) rfl rfl hl.1 rfl (lv_room (Nat.le_of_ble_eq_true rfl)) de_O_checkIndex_3 ⟨(by first | exact Nat.le_of_ble_eq_true rfl | (simp only [Nat.zero_add]; omega) | omega), (by first | exact Nat.le_of_ble_eq_true rfl | (simp only [Nat.zero_add]; omega) | omega)⟩) hS (fun r_192 w_190 H locs hq_191 hP hS => ?_)
  obtain ⟨hr_193, he_194⟩ := hq_191
  subst hr_193
  rw [he_194] at hP
  exact dk_iret hQ hx hb hr hlocks hP hS (Nat.le_refl _) (Nat.le_refl _) (⟨rfl, rfl⟩) de_O_checkIndex_6
abbrev rm_A_elementData : Room := { frames := 0, cells := 0, slots := 0, locals := 0 }
set_option maxHeartbeats 4000000 in
set_option maxRecDepth 100000 in
theorem c_A_elementData (l : Launch) (G : dk_G) (w : dk_H) (h t0 t1 : Nat) (xs : List Nat) (ha0 : al_at G w h t0 t1 xs) (i x : Nat) (hx0 : xs[i]? = some x) : dk_Mq l my_A_elementData (wd_c my_A_elementData mb_A_elementData 2 (some (.object "java/lang/Object"))) rm_A_elementData G w [.ref h, .int (nI i)] (fun r w1 => r = some x ∧ w1 = w) 0 0 := by
  obtain ⟨mo, ed, hh, he⟩ := ha0
  have hil := (List.getElem?_eq_some_iff.mp hx0).1
  rcases he with ⟨h1, h2⟩ | ⟨cap, f, hed, h3, h4, h5, hf⟩
  · subst h2; simp at hx0
  refine dk_enter (lv := [(0, .ref h), (1, .int (nI i))]) (by decide) (Nat.le_of_ble_eq_true rfl) rfl (fun p e s m args below meth c ls Q hQ C hP hS hl => ?_)
  obtain ⟨hx, hb, hr, hml, hlocks, hown, hnm, hts, hE⟩ := C
  have hK := hE.1
  have hN := hE.2.1
  refine lv_aload_n hx hb de_A_elementData_0 rfl (lv_at hl 0 rfl) ?_
  refine dk_get (a := h) (v := .ref ed) (C := kn_A) (T := kt_A) (N := 3) hx hb hts ki_A hown hK hP hh rfl 1 (by decide) (hts _ wi_84) (fun _ h9 => h9) rfl de_A_elementData_1 ?_
  refine lv_iload_n hx hb de_A_elementData_4 rfl (lv_at hl 1 rfl) ?_
  refine dk_aald (a := ed) (r := some x) (C := dk_nO) hx hb hK hP hed rfl i rfl (by omega) (by omega) (hf i x hx0) de_A_elementData_5 ?_
  exact dk_aret (r := some x) hQ hx hb hr (Or.inl ⟨_, rfl⟩) hlocks hP hS (Nat.le_refl _) (Nat.le_refl _) (⟨rfl, rfl⟩) de_A_elementData_6
abbrev rm_A_get : Room := { frames := 2, cells := 0, slots := 0, locals := 43 }
set_option maxHeartbeats 4000000 in
set_option maxRecDepth 100000 in
theorem c_A_get (l : Launch) (G : dk_G) (w : dk_H) (h t0 t1 : Nat) (xs : List Nat) (ha0 : al_at G w h t0 t1 xs) (i x : Nat) (hx0 : xs[i]? = some x) (hlen : xs.length < 2 ^ 31) : dk_Mq l my_A_get (wd_c my_A_get mb_A_get 2 (some (.object "java/lang/Object"))) rm_A_get G w [.ref h, .int (nI i)] (fun r w1 => r = some x ∧ w1 = w) 0 0 := by
  have ha1 := ha0
  obtain ⟨mo, ed, hh, he⟩ := ha0
  have hil := (List.getElem?_eq_some_iff.mp hx0).1
  refine dk_enter (lv := [(0, .ref h), (1, .int (nI i))]) (by decide) (Nat.le_of_ble_eq_true rfl) rfl (fun p e s m args below meth c ls Q hQ C hP hS hl => ?_)
  obtain ⟨hx, hb, hr, hml, hlocks, hown, hnm, hts, hE⟩ := C
  have hK := hE.1
  have hN := hE.2.1
  refine lv_iload_n hx hb de_A_get_0 rfl (lv_at hl 1 rfl) ?_
  refine lv_aload_n hx hb de_A_get_1 rfl (lv_at hl 0 rfl) ?_
  refine dk_get (a := h) (v := .int (nI xs.length)) (C := kn_A) (T := kt_A) (N := 3) hx hb hts ki_A hown hK hP hh rfl 2 (by decide) (hts _ wi_85) (fun _ h9 => h9) rfl de_A_get_2 ?_
  refine dk_calli (va_runS (As := [.int (nI i), .int (nI xs.length)]) (rest := []) ⟨hx, hb, hml, hown, hts⟩ (c_O_checkIndex l G w i xs.length hil hlen) (va_cwS 2 hts (wd_gS wi_311 wi_309 wi_310 wi_21) rfl rfl rfl (by decide +kernel) ⟨Nat.le_of_ble_eq_true rfl, Nat.le_of_ble_eq_true rfl⟩) (dk_preS hE hP hS) rfl rfl hl.1 rfl (lv_room (Nat.le_of_ble_eq_true rfl)) de_A_get_5 ⟨(by first | exact Nat.le_of_ble_eq_true rfl | (simp only [Nat.zero_add]; omega) | omega), (by first | exact Nat.le_of_ble_eq_true rfl | (simp only [Nat.zero_add]; omega) | omega)⟩) hS (fun r_197 w_195 H locs hq_196 hP hS => ?_)
  obtain ⟨hr_198, he_199⟩ := hq_196
  subst hr_198
  rw [he_199] at hP
  refine lv_pop hx hb de_A_get_8 rfl ?_
  refine lv_aload_n hx hb de_A_get_9 rfl (lv_at hl 0 rfl) ?_
  refine lv_iload_n hx hb de_A_get_10 rfl (lv_at hl 1 rfl) ?_
  refine dk_callq (va_runV (As := [.int (nI i)]) (rest := []) ⟨hx, hb, hml, hown, hts⟩ (c_A_elementData l G w h t0 t1 xs ha1 i x hx0) (cwV 1 hts (wd_gV (C := "java/util/ArrayList") wi_318 wi_315 wi_316 wi_317 wi_7) rfl rfl rfl (by decide +kernel) ⟨Nat.le_of_ble_eq_true rfl, Nat.le_of_ble_eq_true rfl⟩) (dk_preV (kn_A, kt_A, 3) hE hP hS hh rfl) rfl rfl hl.1 rfl (lv_room (Nat.le_of_ble_eq_true rfl)) de_A_get_11 ⟨(by first | exact Nat.le_of_ble_eq_true rfl | (simp only [Nat.zero_add]; omega) | omega), (by first | exact Nat.le_of_ble_eq_true rfl | (simp only [Nat.zero_add]; omega) | omega)⟩) hS (fun r_202 w_200 H locs hq_201 hP hS => ?_)
  exact dk_aret (r := r_202) hQ hx hb hr (Or.inl ⟨_, rfl⟩) hlocks hP hS (Nat.le_refl _) (Nat.le_refl _) (⟨hq_201.1, hq_201.2⟩) de_A_get_14
end
section
/-! ArrayList, the rest (printed by gen/c_al2.py) -/
theorem al_snoc {xs : List Nat} {f : Nat → Option Nat} {z : Nat} (hf : ∀ i x, xs[i]? = some x → f i = some x) : ∀ i x, (xs ++ [z])[i]? = some x → va_up f xs.length (some z) i = some x := by
  intro i x h
  by_cases hi : i < xs.length
  · rw [List.getElem?_append_left hi] at h
    rw [dk_un (by omega)]
    exact hf i x h
  · rw [List.getElem?_append_right (by omega)] at h
    have hz : i - xs.length < 1 := (List.getElem?_eq_some_iff.mp h).1
    have e : i = xs.length := by omega
    subst e
    rw [Nat.sub_self] at h
    cases h
    exact dk_us
abbrev rm_D_newLength : Room := { frames := 1, cells := 0, slots := 0, locals := 24 }
set_option maxHeartbeats 4000000 in
set_option maxRecDepth 100000 in
theorem c_D_newLength (l : Launch) (G : dk_G) (w : dk_H) (n : Nat) (hn : n ≤ 600) (h10 : 10 ≤ n) : dk_Mi l my_D_newLength (wd_c my_D_newLength mb_D_newLength 4 (some .int)) rm_D_newLength G w [.int (nI n), .int (nI 1), .int (nI (n / 2))] (fun r w1 => r = nI (n + n / 2) ∧ w1 = w) 0 0 := by
  refine dk_enter (lv := [(0, .int (nI n)), (1, .int (nI 1)), (2, .int (nI (n / 2)))]) (by decide) (Nat.le_of_ble_eq_true rfl) rfl (fun p e s m args below meth c ls Q hQ C hP hS hl => ?_)
  obtain ⟨hx, hb, hr, hml, hlocks, hown, hnm, hts, hE⟩ := C
  have hK := hE.1
  have hN := hE.2.1
  refine lv_iload_n hx hb de_D_newLength_0 rfl (lv_at hl 0 rfl) ?_
  refine lv_iload_n hx hb de_D_newLength_1 rfl (lv_at hl 1 rfl) ?_
  refine lv_iload_n hx hb de_D_newLength_2 rfl (lv_at hl 2 rfl) ?_
  refine va_mmax hx hb (by rw [hml]; exact hl.1.symm) hown (hts _ wi_231) (hts _ wi_232) (hts _ wi_17) (hts _ wi_233) (Nat.le_of_ble_eq_true rfl) (Nat.le_of_ble_eq_true rfl) (by first | exact Nat.le_of_ble_eq_true rfl | (simp only [Nat.zero_add]; omega) | omega) (by first | exact Nat.le_of_ble_eq_true rfl | (simp only [Nat.zero_add]; omega) | omega) (x := nI 1) (y := nI (n / 2)) (rest := [.int (nI n)]) de_D_newLength_3 ?_
  rw [nx_max (a := 1) (b := n / 2) (by omega) (by omega)]
  refine nx_iadd (a := n) (b := max 1 (n / 2)) hx hb de_D_newLength_6 ?_
  refine lv_istore_n (lv' := [(3, .int (nI (n + (max 1 (n / 2))))), (0, .int (nI n)), (1, .int (nI 1)), (2, .int (nI (n / 2)))]) hx hb de_D_newLength_7 rfl hl (by decide) rfl (fun ls hl => ?_)
  refine lv_iconst (v := nI 0) hx hb de_D_newLength_8 (by decide) ?_
  refine lv_iload_n hx hb de_D_newLength_9 rfl (lv_at hl 0 rfl) ?_
  refine nx_icmp_ge (a := 0) (b := n + (max 1 (n / 2))) (tgt := 21) hx hb (by omega) (by omega) de_D_newLength_10 (by decide) (fun c_203 => ?_) (fun c_203 => ?_)
  · exact absurd c_203 (by omega)
  · refine lv_iload_n hx hb de_D_newLength_13 rfl (lv_at hl 0 rfl) ?_
    refine lv_ldc (v := nI 2147483639) hx hb hown (hts _ wi_234) de_D_newLength_14 ?_
    refine nx_icmp_gt (a := n + (max 1 (n / 2))) (b := 2147483639) (tgt := 21) hx hb (by omega) (by omega) de_D_newLength_16 (by decide) (fun c_204 => ?_) (fun c_204 => ?_)
    · exact absurd c_204 (by omega)
    · refine lv_iload_n hx hb de_D_newLength_19 rfl (lv_at hl 0 rfl) ?_
      exact dk_iret hQ hx hb hr hlocks hP hS (Nat.le_refl _) (Nat.le_refl _) (⟨by congr 1; omega, rfl⟩) de_D_newLength_20
abbrev rm_G_copyOf2 (n : Nat) : Room := { frames := 1, cells := 1, slots := (n + n / 2), locals := 40 }
set_option maxHeartbeats 4000000 in
set_option maxRecDepth 100000 in
theorem c_G_copyOf2 (l : Launch) (G : dk_G) (w : dk_H) (a t1 n : Nat) (f : Nat → Option Nat) (ha : w a = some (t1, dk_ca G 5 n f)) (hn : n ≤ 600) (h10 : 10 ≤ n) (hel : ∀ i, i < n → ∀ y, f i = some y → ∃ fs, w y = some (0, .inr (cx_U, fs))) : dk_Mq l my_G_copyOf2 (wd_c my_G_copyOf2 mb_G_copyOf2 4 (some (.array (.object "java/lang/Object")))) (rm_G_copyOf2 n) G w [.ref a, .int (nI (n + n / 2)), .ref (G.2.2.2 2)] (fun r w1 => ∃ q, r = some q ∧ w q = none ∧ w1 = va_up w q (some (t1, dk_ca G 5 (n + n / 2) (va_cpy f (fun _ => none) 0 0 n)))) 1 (n + n / 2) := by
  refine dk_enter (lv := [(0, .ref a), (1, .int (nI (n + n / 2))), (2, .ref (G.2.2.2 2))]) (by decide) (Nat.le_of_ble_eq_true rfl) rfl (fun p e s m args below meth c ls Q hQ C hP hS hl => ?_)
  obtain ⟨hx, hb, hr, hml, hlocks, hown, hnm, hts, hE⟩ := C
  have hK := hE.1
  have hN := hE.2.1
  refine lv_aload_n hx hb de_G_copyOf2_0 rfl (lv_at hl 2 rfl) ?_
  refine va_ldcM hx hb hown (hts _ wi_260) hE.2.2.1.2.2.2.2.2.2.1 de_G_copyOf2_1 ?_
  refine lv_acmp_ne (rx := some (G.2.2.2 2)) (ry := some (G.2.2.2 2)) (tgt := 13) hx hb de_G_copyOf2_3 (by decide) (fun z => absurd rfl z) (fun _ => ?_)
  refine lv_iload_n hx hb de_G_copyOf2_6 rfl (lv_at hl 1 rfl) ?_
  refine dk_newq t1 5 (C := "java/lang/Object") (N' := (n + n / 2)) hx hb hown (hts _ wi_262) (va_AO.use hE.2.2.1.2.2.2.2.2.2.2.2.2) hK hP hS hE.2.2.2 rfl rfl (by omega) (by omega) (by first | exact Nat.le_of_ble_eq_true rfl | (simp only [Nat.zero_add]; omega) | omega) (by first | exact Nat.le_of_ble_eq_true rfl | (simp only [Nat.zero_add]; omega) | omega) de_G_copyOf2_7 (fun q_205 H w_206 hn_208 hw_207 hP hS => ?_)
  have h_209 : w_206 q_205 = some (t1, dk_ca G 5 (n + n / 2) (fun _ => none)) := dk_here hw_207
  have h_210 : w_206 a = some (t1, dk_ca G 5 n f) := dk_keepN hw_207 hn_208 ha
  refine lv_goto (tgt := 24) hx hb de_G_copyOf2_10 (by decide) ?_
  refine lv_astore_n (lv' := [(3, .ref q_205), (0, .ref a), (1, .int (nI (n + n / 2))), (2, .ref (G.2.2.2 2))]) hx hb de_G_copyOf2_24 rfl hl (by decide) rfl (fun ls hl => ?_)
  refine lv_aload_n hx hb de_G_copyOf2_25 rfl (lv_at hl 1 rfl) ?_
  refine lv_iconst (v := nI 0) hx hb de_G_copyOf2_26 (by decide) ?_
  refine lv_aload_n hx hb de_G_copyOf2_27 rfl (lv_at hl 0 rfl) ?_
  refine lv_iconst (v := nI 0) hx hb de_G_copyOf2_28 (by decide) ?_
  refine lv_aload_n hx hb de_G_copyOf2_29 rfl (lv_at hl 1 rfl) ?_
  refine dk_alen (a := a) hx hb hK hP h_210 5 rfl de_G_copyOf2_30 ?_
  refine lv_iload_n hx hb de_G_copyOf2_31 rfl (lv_at hl 2 rfl) ?_
  refine va_mmin hx hb (by rw [hml]; exact hl.1.symm) hown (hts _ wi_263) (hts _ wi_264) (hts _ wi_17) (hts _ wi_265) (Nat.le_of_ble_eq_true rfl) (Nat.le_of_ble_eq_true rfl) (by first | exact Nat.le_of_ble_eq_true rfl | (simp only [Nat.zero_add]; omega) | omega) (by first | exact Nat.le_of_ble_eq_true rfl | (simp only [Nat.zero_add]; omega) | omega) (x := nI n) (y := nI (n + n / 2)) (rest := [.int (nI 0), .ref q_205, .int (nI 0), .ref a]) de_G_copyOf2_32 ?_
  rw [nx_min (a := n) (b := n + n / 2) (by omega) (by omega)]
  rw [show min n (n + n / 2) = n by omega]
  have hne : a ≠ q_205 := dk_nn ha hn_208
  refine dk_copyM (a := q_205) (a0 := a) hx hb (by rw [hml]; exact hl.1.symm) hown (hts _ wi_266) (hts _ wi_268) (hts _ wi_267) (hts _ wi_19) hK hP hS h_210 h_209 hne n (by omega) (by omega) (by omega) (fun i hi y hy => ?_) (Nat.le_of_ble_eq_true rfl) (Nat.le_of_ble_eq_true rfl) de_G_copyOf2_35 (fun H locs w_211 hw_212 hP hS => ?_)
  · obtain ⟨fs, hfs⟩ := hel i hi y hy
    exact dk_any hK hP (dk_keepN hw_207 hn_208 hfs) (r := (kn_U, kt_U, 2)) rfl (hN _ (dn_m 927 (by decide +kernel) rfl))
  · refine lv_aload_n hx hb de_G_copyOf2_38 rfl (lv_at hl 0 rfl) ?_
    exact dk_aret (r := some q_205) hQ hx hb hr (Or.inr ⟨_, rfl⟩) hlocks hP hS (by omega) (by omega) (⟨q_205, rfl, hn_208, by rw [hw_212, hw_207, bx_uu]⟩) de_G_copyOf2_39
abbrev rm_G_copyOf (n : Nat) : Room := { frames := 2, cells := 1, slots := (n + n / 2), locals := 63 }
set_option maxHeartbeats 4000000 in
set_option maxRecDepth 100000 in
theorem c_G_copyOf (l : Launch) (G : dk_G) (w : dk_H) (a t1 n : Nat) (f : Nat → Option Nat) (ha : w a = some (t1, dk_ca G 5 n f)) (hn : n ≤ 600) (h10 : 10 ≤ n) (hel : ∀ i, i < n → ∀ y, f i = some y → ∃ fs, w y = some (0, .inr (cx_U, fs))) : dk_Mq l my_G_copyOf (wd_c my_G_copyOf mb_G_copyOf 2 (some (.array (.object "java/lang/Object")))) (rm_G_copyOf n) G w [.ref a, .int (nI (n + n / 2))] (fun r w1 => ∃ q, r = some q ∧ w q = none ∧ w1 = va_up w q (some (t1, dk_ca G 5 (n + n / 2) (va_cpy f (fun _ => none) 0 0 n)))) 1 (n + n / 2) := by
  refine dk_enter (lv := [(0, .ref a), (1, .int (nI (n + n / 2)))]) (by decide) (Nat.le_of_ble_eq_true rfl) rfl (fun p e s m args below meth c ls Q hQ C hP hS hl => ?_)
  obtain ⟨hx, hb, hr, hml, hlocks, hown, hnm, hts, hE⟩ := C
  have hK := hE.1
  have hN := hE.2.1
  refine lv_aload_n hx hb de_G_copyOf_0 rfl (lv_at hl 0 rfl) ?_
  refine lv_iload_n hx hb de_G_copyOf_1 rfl (lv_at hl 1 rfl) ?_
  refine lv_aload_n hx hb de_G_copyOf_2 rfl (lv_at hl 0 rfl) ?_
  refine va_getC (a := a) (C := "[Ljava/lang/Object;") hx hb (by rw [hml]; exact hl.1.symm) hown (hts _ wi_241) (hN.use (dn_m 920 (by decide +kernel) rfl)) (hts _ wi_919) (hts _ wi_242) (hts _ wi_256) hE.2.2.1.2.2.2.2.2.2.1 ⟨_, (hP a t1 _ ha).2, rfl, va_nmO (hK.2 5 _ rfl).2 rfl⟩ (Nat.le_of_ble_eq_true rfl) (Nat.le_of_ble_eq_true rfl) de_G_copyOf_3 ?_
  refine dk_callq (va_runS (As := [.ref a, .int (nI (n + n / 2)), .ref (G.2.2.2 2)]) (rest := []) ⟨hx, hb, hml, hown, hts⟩ (c_G_copyOf2 l G w a t1 n f ha hn h10 hel) (va_cwS 3 hts (wd_gS wi_259 wi_257 wi_258 wi_18) rfl rfl rfl (by decide +kernel) ⟨Nat.le_of_ble_eq_true rfl, Nat.le_of_ble_eq_true rfl⟩) (dk_preS hE hP hS) rfl rfl hl.1 rfl (lv_room (Nat.le_of_ble_eq_true rfl)) de_G_copyOf_6 ⟨(by first | exact Nat.le_of_ble_eq_true rfl | (simp only [Nat.zero_add]; omega) | omega), (by first | exact Nat.le_of_ble_eq_true rfl | (simp only [Nat.zero_add]; omega) | omega)⟩) hS (fun r_215 w_213 H locs hq_214 hP hS => ?_)
  exact dk_aret (r := r_215) hQ hx hb hr (Or.inr ⟨_, rfl⟩) hlocks hP hS (by omega) (by omega) hq_214 de_G_copyOf_9
abbrev rm_A_grow2 : Room := { frames := 3, cells := 1, slots := 900, locals := 84 }
set_option maxHeartbeats 4000000 in
set_option maxRecDepth 100000 in
theorem c_A_grow2 (l : Launch) (G : dk_G) (w : dk_H) (h t0 t1 : Nat) (xs : List Nat) (mo : Int32) (ed : Nat) (ht : t0 ≠ 0 ∧ t1 ≠ 0 ∧ t0 ≠ t1) (hh : w h = some (t0, al_c mo ed xs.length)) (he : (ed = G.2.2.2 1 ∧ xs = []) ∨ ∃ f, w ed = some (t1, dk_ca G 5 xs.length f) ∧ 10 ≤ xs.length ∧ ∀ i x, xs[i]? = some x → f i = some x) (hlen : xs.length ≤ 600) (hel : al_el w xs) : dk_Mq l my_A_grow2 (wd_c my_A_grow2 mb_A_grow2 4 (some (.array (.object "java/lang/Object")))) rm_A_grow2 G w [.ref h, .int (nI (xs.length + 1))] (fun r w1 => ∃ q cap f, r = some q ∧ w1 h = some (t0, al_c mo q xs.length) ∧ w1 q = some (t1, dk_ca G 5 cap f) ∧ xs.length < cap ∧ 10 ≤ cap ∧ cap ≤ 900 ∧ (∀ i x, xs[i]? = some x → f i = some x) ∧ dk_fr (fun t => t = t0 ∨ t = t1) w w1) 1 900 := by
  obtain ⟨ht0, ht1, ht2⟩ := ht
  rcases he with ⟨h1, h2⟩ | ⟨f, hed, h10, hf⟩
  · subst h1; subst h2
    refine dk_enter (lv := [(0, .ref h), (1, .int (nI (([] : List Nat).length + 1)))]) (by decide) (Nat.le_of_ble_eq_true rfl) rfl (fun p e s m args below meth c ls Q hQ C hP hS hl => ?_)
    obtain ⟨hx, hb, hr, hml, hlocks, hown, hnm, hts, hE⟩ := C
    have hK := hE.1
    have hN := hE.2.1
    refine lv_aload_n hx hb de_A_grow2_0 rfl (lv_at hl 0 rfl) ?_
    refine dk_get (a := h) (v := .ref (G.2.2.2 1)) (C := kn_A) (T := kt_A) (N := 3) hx hb hts ki_A hown hK hP hh rfl 1 (by decide) (hts _ wi_84) (fun _ h9 => h9) rfl de_A_grow2_1 ?_
    refine va_tlen hx hb hE.2.2.1.2.1.2 hS (v := nI 0) rfl de_A_grow2_4 ?_
    refine lv_istore_n (lv' := [(2, .int (nI 0)), (0, .ref h), (1, .int (nI (([] : List Nat).length + 1)))]) hx hb de_A_grow2_5 rfl hl (by decide) rfl (fun ls hl => ?_)
    refine lv_iload_n hx hb de_A_grow2_6 rfl (lv_at hl 0 rfl) ?_
    refine nx_if_gt (a := 0) (tgt := 20) hx hb (by omega) de_A_grow2_7 (by decide) (fun c_216 => ?_) (fun c_216 => ?_)
    · exact absurd c_216 (by omega)
    · refine lv_aload_n hx hb de_A_grow2_10 rfl (lv_at hl 1 rfl) ?_
      refine dk_get (a := h) (v := .ref (G.2.2.2 1)) (C := kn_A) (T := kt_A) (N := 3) hx hb hts ki_A hown hK hP hh rfl 1 (by decide) (hts _ wi_84) (fun _ h9 => h9) rfl de_A_grow2_11 ?_
      refine va_gets hx hb hE.2.2.1.2.1.1 hS hown (hts _ wi_82) (fun _ h9 => h9) de_A_grow2_14 ?_
      refine lv_acmp_eq (rx := some (G.2.2.2 1)) (ry := some (G.2.2.2 1)) (tgt := 45) hx hb de_A_grow2_17 (by decide) (fun _ => ?_) (fun z => absurd rfl z)
      refine lv_aload_n hx hb de_A_grow2_45 rfl (lv_at hl 1 rfl) ?_
      refine lv_bipush (v := nI 10) hx hb de_A_grow2_46 (by decide) ?_
      refine lv_iload_n hx hb de_A_grow2_48 rfl (lv_at hl 2 rfl) ?_
      refine va_mmax hx hb (by rw [hml]; exact hl.1.symm) hown (hts _ wi_269) (hts _ wi_232) (hts _ wi_17) (hts _ wi_233) (Nat.le_of_ble_eq_true rfl) (Nat.le_of_ble_eq_true rfl) (by first | exact Nat.le_of_ble_eq_true rfl | (simp only [Nat.zero_add]; omega) | omega) (by first | exact Nat.le_of_ble_eq_true rfl | (simp only [Nat.zero_add]; omega) | omega) (x := nI 10) (y := nI (([] : List Nat).length + 1)) (rest := [.ref h]) de_A_grow2_49 ?_
      rw [nx_max (a := 10) (b := ([] : List Nat).length + 1) (by omega) (by omega)]
      rw [show max 10 (([] : List Nat).length + 1) = 10 from rfl]
      refine dk_newq t1 5 (C := "java/lang/Object") (N' := 10) hx hb hown (hts _ wi_270) (va_AO.use hE.2.2.1.2.2.2.2.2.2.2.2.2) hK hP hS hE.2.2.2 rfl rfl (by omega) (by omega) (by first | exact Nat.le_of_ble_eq_true rfl | (simp only [Nat.zero_add]; omega) | omega) (by first | exact Nat.le_of_ble_eq_true rfl | (simp only [Nat.zero_add]; omega) | omega) de_A_grow2_52 (fun q_217 H w_218 hn_220 hw_219 hP hS => ?_)
      have h_221 : w_218 q_217 = some (t1, dk_ca G 5 10 (fun _ => none)) := dk_here hw_219
      have h_222 : w_218 h = some (t0, .inr (cx_A, [.int mo, .ref (G.2.2.2 1), .int (nI ([] : List Nat).length)])) := dk_keepN hw_219 hn_220 hh
      refine lv_dup_x1 hx hb de_A_grow2_55 rfl rfl ?_
      refine dk_put (a := h) (v := .ref q_217) (ty := (.array (.object "java/lang/Object"))) (C := kn_A) (T := kt_A) (N := 3) hx hb hts ki_A ky_A kk_A kd_A hown hK hP hS h_222 rfl 1 (by decide) (hts _ wi_84) (fun _ h9 => h9) rfl (by decide +kernel) rfl rfl (Nat.le_of_ble_eq_true rfl) de_A_grow2_56 (fun H locs w_223 hw_224 hP hS => ?_)
      have h_225 : w_223 h = some (t0, .inr (cx_A, [.int mo, .ref q_217, .int (nI ([] : List Nat).length)])) := dk_here hw_224
      have h_226 : w_223 q_217 = some (t1, dk_ca G 5 10 (fun _ => none)) := dk_keep hw_224 h_222 h_221 (by omega)
      exact dk_aret (r := some q_217) hQ hx hb hr (Or.inr ⟨_, rfl⟩) hlocks hP hS (by omega) (by omega) (⟨q_217, 10, _, rfl, h_225, h_226, by decide, by decide, by decide, fun i x z => by simp at z, ((dk_fr.rf).tr ((dk_fr.upN hn_220).eq hw_219)).tr ((dk_fr.up (T := (fun t => t = t0 ∨ t = t1)) h_222 (Or.inl rfl)).eq hw_224)⟩) de_A_grow2_59
  · refine dk_enter (lv := [(0, .ref h), (1, .int (nI (xs.length + 1)))]) (by decide) (Nat.le_of_ble_eq_true rfl) rfl (fun p e s m args below meth c ls Q hQ C hP hS hl => ?_)
    obtain ⟨hx, hb, hr, hml, hlocks, hown, hnm, hts, hE⟩ := C
    have hK := hE.1
    have hN := hE.2.1
    refine lv_aload_n hx hb de_A_grow2_0 rfl (lv_at hl 0 rfl) ?_
    refine dk_get (a := h) (v := .ref ed) (C := kn_A) (T := kt_A) (N := 3) hx hb hts ki_A hown hK hP hh rfl 1 (by decide) (hts _ wi_84) (fun _ h9 => h9) rfl de_A_grow2_1 ?_
    refine dk_alen (a := ed) hx hb hK hP hed 5 rfl de_A_grow2_4 ?_
    refine lv_istore_n (lv' := [(2, .int (nI xs.length)), (0, .ref h), (1, .int (nI (xs.length + 1)))]) hx hb de_A_grow2_5 rfl hl (by decide) rfl (fun ls hl => ?_)
    refine lv_iload_n hx hb de_A_grow2_6 rfl (lv_at hl 0 rfl) ?_
    refine nx_if_gt (a := xs.length) (tgt := 20) hx hb (by omega) de_A_grow2_7 (by decide) (fun c_227 => ?_) (fun c_227 => ?_)
    · refine lv_iload_n hx hb de_A_grow2_20 rfl (lv_at hl 0 rfl) ?_
      refine lv_iload_n hx hb de_A_grow2_21 rfl (lv_at hl 2 rfl) ?_
      refine lv_iload_n hx hb de_A_grow2_22 rfl (lv_at hl 0 rfl) ?_
      refine nx_isub (a := xs.length + 1) (b := xs.length) hx hb (by omega) de_A_grow2_23 ?_
      refine lv_iload_n hx hb de_A_grow2_24 rfl (lv_at hl 0 rfl) ?_
      refine lv_iconst (v := nI 1) hx hb de_A_grow2_25 (by decide) ?_
      refine lv_ishr hx hb de_A_grow2_26 ?_
      rw [show nI xs.length >>> ((nI 1) &&& 31) = nI (xs.length / 2) from (pk_shrN (n := xs.length) (by omega) ((1 : Int32) &&& 31) 1 (by decide)).trans (by rw [Nat.pow_one])]
      rw [show xs.length + 1 - xs.length = 1 by omega]
      refine dk_calli (va_runS (As := [.int (nI xs.length), .int (nI 1), .int (nI (xs.length / 2))]) (rest := []) ⟨hx, hb, hml, hown, hts⟩ (c_D_newLength l G w xs.length hlen h10) (va_cwS 3 hts (wd_gS wi_230 wi_228 wi_229 wi_16) rfl rfl rfl (by decide +kernel) ⟨Nat.le_of_ble_eq_true rfl, Nat.le_of_ble_eq_true rfl⟩) (dk_preS hE hP hS) rfl rfl hl.1 rfl (lv_room (Nat.le_of_ble_eq_true rfl)) de_A_grow2_27 ⟨(by first | exact Nat.le_of_ble_eq_true rfl | (simp only [Nat.zero_add]; omega) | omega), (by first | exact Nat.le_of_ble_eq_true rfl | (simp only [Nat.zero_add]; omega) | omega)⟩) hS (fun r_230 w_228 H locs hq_229 hP hS => ?_)
      obtain ⟨hr_231, he_232⟩ := hq_229
      subst hr_231
      rw [he_232] at hP
      refine lv_istore_n (lv' := [(3, .int (nI (xs.length + xs.length / 2))), (2, .int (nI xs.length)), (0, .ref h), (1, .int (nI (xs.length + 1)))]) hx hb de_A_grow2_30 rfl hl (by decide) rfl (fun ls hl => ?_)
      refine lv_aload_n hx hb de_A_grow2_31 rfl (lv_at hl 2 rfl) ?_
      refine lv_aload_n hx hb de_A_grow2_32 rfl (lv_at hl 2 rfl) ?_
      refine dk_get (a := h) (v := .ref ed) (C := kn_A) (T := kt_A) (N := 3) hx hb hts ki_A hown hK hP hh rfl 1 (by decide) (hts _ wi_84) (fun _ h9 => h9) rfl de_A_grow2_33 ?_
      refine lv_iload_n hx hb de_A_grow2_36 rfl (lv_at hl 0 rfl) ?_
      refine dk_callq (va_runS (As := [.ref ed, .int (nI (xs.length + xs.length / 2))]) (rest := [.ref h]) ⟨hx, hb, hml, hown, hts⟩ (c_G_copyOf l G w ed t1 xs.length f hed hlen h10 (fun i hi y hy => by obtain ⟨x, hx9⟩ := ge_at hi; rw [hf i x hx9] at hy; cases hy; exact hel _ (List.mem_of_getElem? hx9))) (va_cwS 2 hts (wd_gS wi_240 wi_238 wi_239 wi_18) rfl rfl rfl (by decide +kernel) ⟨Nat.le_of_ble_eq_true rfl, Nat.le_of_ble_eq_true rfl⟩) (dk_preS hE hP hS) rfl rfl hl.1 rfl (lv_room (Nat.le_of_ble_eq_true rfl)) de_A_grow2_37 ⟨(by first | exact Nat.le_of_ble_eq_true rfl | (simp only [Nat.zero_add]; omega) | omega), (by first | exact Nat.le_of_ble_eq_true rfl | (simp only [Nat.zero_add]; omega) | omega)⟩) hS (fun r_235 w_233 H locs hq_234 hP hS => ?_)
      obtain ⟨q_c, hr_c, hq_c, hw_c⟩ := hq_234
      subst hr_c
      have h_236 : w_233 q_c = some (t1, dk_ca G 5 (xs.length + xs.length / 2) (va_cpy f (fun _ => none) 0 0 xs.length)) := dk_here hw_c
      have h_237 : w_233 h = some (t0, .inr (cx_A, [.int mo, .ref ed, .int (nI xs.length)])) := dk_keepN hw_c hq_c hh
      have h_238 : w_233 ed = some (t1, dk_ca G 5 xs.length f) := dk_keepN hw_c hq_c hed
      refine lv_dup_x1 hx hb de_A_grow2_40 rfl rfl ?_
      refine dk_put (a := h) (v := .ref q_c) (ty := (.array (.object "java/lang/Object"))) (C := kn_A) (T := kt_A) (N := 3) hx hb hts ki_A ky_A kk_A kd_A hown hK hP hS h_237 rfl 1 (by decide) (hts _ wi_84) (fun _ h9 => h9) rfl (by decide +kernel) rfl rfl (Nat.le_of_ble_eq_true rfl) de_A_grow2_41 (fun H locs w_239 hw_240 hP hS => ?_)
      have h_241 : w_239 h = some (t0, .inr (cx_A, [.int mo, .ref q_c, .int (nI xs.length)])) := dk_here hw_240
      have h_242 : w_239 ed = some (t1, dk_ca G 5 xs.length f) := dk_keep hw_240 h_237 h_238 (by omega)
      have h_243 : w_239 q_c = some (t1, dk_ca G 5 (xs.length + xs.length / 2) (va_cpy f (fun _ => none) 0 0 xs.length)) := dk_keep hw_240 h_237 h_236 (by omega)
      exact dk_aret (r := some q_c) hQ hx hb hr (Or.inr ⟨_, rfl⟩) hlocks hP hS (by omega) (by omega) (⟨q_c, _, _, rfl, h_241, h_243, by omega, by omega, by omega, fun i x z => by rw [pk_cpy_in (Nat.zero_le _) (by have := (List.getElem?_eq_some_iff.mp z).1; omega), Nat.sub_zero, Nat.zero_add]; exact hf i x z, ((dk_fr.rf).tr ((dk_fr.upN hq_c).eq hw_c)).tr ((dk_fr.up (T := (fun t => t = t0 ∨ t = t1)) h_237 (Or.inl rfl)).eq hw_240)⟩) de_A_grow2_44
    · exact absurd c_227 (by omega)
abbrev rm_A_grow : Room := { frames := 4, cells := 1, slots := 900, locals := 107 }
set_option maxHeartbeats 4000000 in
set_option maxRecDepth 100000 in
theorem c_A_grow (l : Launch) (G : dk_G) (w : dk_H) (h t0 t1 : Nat) (xs : List Nat) (mo : Int32) (ed : Nat) (ht : t0 ≠ 0 ∧ t1 ≠ 0 ∧ t0 ≠ t1) (hh : w h = some (t0, al_c mo ed xs.length)) (he : (ed = G.2.2.2 1 ∧ xs = []) ∨ ∃ f, w ed = some (t1, dk_ca G 5 xs.length f) ∧ 10 ≤ xs.length ∧ ∀ i x, xs[i]? = some x → f i = some x) (hlen : xs.length ≤ 600) (hel : al_el w xs) : dk_Mq l my_A_grow (wd_c my_A_grow mb_A_grow 1 (some (.array (.object "java/lang/Object")))) rm_A_grow G w [.ref h] (fun r w1 => ∃ q cap f, r = some q ∧ w1 h = some (t0, al_c mo q xs.length) ∧ w1 q = some (t1, dk_ca G 5 cap f) ∧ xs.length < cap ∧ 10 ≤ cap ∧ cap ≤ 900 ∧ (∀ i x, xs[i]? = some x → f i = some x) ∧ dk_fr (fun t => t = t0 ∨ t = t1) w w1) 1 900 := by
  refine dk_enter (lv := [(0, .ref h)]) (by decide) (Nat.le_of_ble_eq_true rfl) rfl (fun p e s m args below meth c ls Q hQ C hP hS hl => ?_)
  obtain ⟨hx, hb, hr, hml, hlocks, hown, hnm, hts, hE⟩ := C
  have hK := hE.1
  have hN := hE.2.1
  refine lv_aload_n hx hb de_A_grow_0 rfl (lv_at hl 0 rfl) ?_
  refine lv_aload_n hx hb de_A_grow_1 rfl (lv_at hl 0 rfl) ?_
  refine dk_get (a := h) (v := .int (nI xs.length)) (C := kn_A) (T := kt_A) (N := 3) hx hb hts ki_A hown hK hP hh rfl 2 (by decide) (hts _ wi_85) (fun _ h9 => h9) rfl de_A_grow_2 ?_
  refine lv_iconst (v := nI 1) hx hb de_A_grow_5 (by decide) ?_
  refine nx_iadd (a := xs.length) (b := 1) hx hb de_A_grow_6 ?_
  refine dk_callq (va_runV (As := [.int (nI (xs.length + 1))]) (rest := []) ⟨hx, hb, hml, hown, hts⟩ (c_A_grow2 l G w h t0 t1 xs mo ed ht hh he hlen hel) (cwV 1 hts (wd_gV (C := "java/util/ArrayList") wi_227 wi_224 wi_226 (wd_p (q := (⟨"java/util/ArrayList", "grow", "(I)[Ljava/lang/Object;"⟩, 3)) (by decide +kernel) (by decide +kernel)) wi_7) rfl rfl rfl (by decide +kernel) ⟨Nat.le_of_ble_eq_true rfl, Nat.le_of_ble_eq_true rfl⟩) (dk_preV (kn_A, kt_A, 3) hE hP hS hh rfl) rfl rfl hl.1 rfl (lv_room (Nat.le_of_ble_eq_true rfl)) de_A_grow_7 ⟨(by first | exact Nat.le_of_ble_eq_true rfl | (simp only [Nat.zero_add]; omega) | omega), (by first | exact Nat.le_of_ble_eq_true rfl | (simp only [Nat.zero_add]; omega) | omega)⟩) hS (fun r_246 w_244 H locs hq_245 hP hS => ?_)
  exact dk_aret (r := r_246) hQ hx hb hr (Or.inr ⟨_, rfl⟩) hlocks hP hS (by omega) (by omega) hq_245 de_A_grow_10
abbrev rm_A_add2 : Room := { frames := 5, cells := 1, slots := 900, locals := 127 }
set_option maxHeartbeats 4000000 in
set_option maxRecDepth 100000 in
theorem c_A_add2 (l : Launch) (G : dk_G) (w : dk_H) (h t0 t1 : Nat) (xs : List Nat) (mo : Int32) (ed : Nat) (ht : t0 ≠ 0 ∧ t1 ≠ 0 ∧ t0 ≠ t1) (hh : w h = some (t0, al_c mo ed xs.length)) (he : (ed = G.2.2.2 1 ∧ xs = []) ∨ ∃ cap f, w ed = some (t1, dk_ca G 5 cap f) ∧ xs.length ≤ cap ∧ 10 ≤ cap ∧ cap ≤ 900 ∧ ∀ i x, xs[i]? = some x → f i = some x) (hlen : xs.length ≤ 600) (hel : al_el w xs) (z : Nat) (fz : List Value) (hz : w z = some (0, .inr (cx_U, fz))) : dk_Mv l my_A_add2 (wd_c my_A_add2 mb_A_add2 4 none) rm_A_add2 G w [.ref h, .ref z, .ref ed, .int (nI xs.length)] (fun w1 => al_at G w1 h t0 t1 (xs ++ [z]) ∧ dk_fr (fun t => t = t0 ∨ t = t1) w w1) 1 900 := by
  have ht9 := ht
  obtain ⟨ht0, ht1, ht2⟩ := ht
  rcases he with ⟨h1, h2⟩ | ⟨cap, f, hed, h8, h10, h9, hf⟩
  · have h3 := h1
    have h4 := h2
    refine dk_enter (lv := [(0, .ref h), (1, .ref z), (2, .ref ed), (3, .int (nI xs.length))]) (by decide) (Nat.le_of_ble_eq_true rfl) rfl (fun p e s m args below meth c ls Q hQ C hP hS hl => ?_)
    obtain ⟨hx, hb, hr, hml, hlocks, hown, hnm, hts, hE⟩ := C
    have hK := hE.1
    have hN := hE.2.1
    refine lv_iload_n hx hb de_A_add2_0 rfl (lv_at hl 3 rfl) ?_
    refine lv_aload_n hx hb de_A_add2_1 rfl (lv_at hl 2 rfl) ?_
    rw [h3]
    refine va_tlen hx hb hE.2.2.1.2.1.2 hS (v := nI 0) rfl de_A_add2_2 ?_
    have hl0 : xs.length = 0 := by rw [h4]; rfl
    refine nx_icmp_ne (a := xs.length) (b := 0) (tgt := 11) hx hb (by omega) (by omega) de_A_add2_3 (by decide) (fun c_247 => ?_) (fun c_247 => ?_)
    · exact absurd c_247 (by omega)
    · refine lv_aload_n hx hb de_A_add2_6 rfl (lv_at hl 0 rfl) ?_
      refine dk_callq (va_runV (As := []) (rest := []) ⟨hx, hb, hml, hown, hts⟩ (c_A_grow l G w h t0 t1 xs mo ed ht9 hh (Or.inl ⟨h3, h4⟩) hlen hel) (cwV 0 hts (wd_gV (C := "java/util/ArrayList") wi_223 wi_220 wi_222 (wd_p (q := (⟨"java/util/ArrayList", "grow", "()[Ljava/lang/Object;"⟩, 3)) (by decide +kernel) (by decide +kernel)) wi_7) rfl rfl rfl (by decide +kernel) ⟨Nat.le_of_ble_eq_true rfl, Nat.le_of_ble_eq_true rfl⟩) (dk_preV (kn_A, kt_A, 3) hE hP hS hh rfl) rfl rfl hl.1 rfl (lv_room (Nat.le_of_ble_eq_true rfl)) de_A_add2_7 ⟨(by first | exact Nat.le_of_ble_eq_true rfl | (simp only [Nat.zero_add]; omega) | omega), (by first | exact Nat.le_of_ble_eq_true rfl | (simp only [Nat.zero_add]; omega) | omega)⟩) hS (fun r_250 w_248 H locs hq_249 hP hS => ?_)
      obtain ⟨qg, cg, fg, hr_c, hg1, hg2, hg3, hg4, hg5, hg6, hg7⟩ := hq_249
      subst hr_c
      have hz1 := hg7 _ _ _ hz (by omega)
      refine lv_astore_n (lv' := [(2, .ref qg), (0, .ref h), (1, .ref z), (3, .int (nI xs.length))]) hx hb de_A_add2_10 rfl hl (by decide) rfl (fun ls hl => ?_)
      refine lv_aload_n hx hb de_A_add2_11 rfl (lv_at hl 0 rfl) ?_
      refine lv_iload_n hx hb de_A_add2_12 rfl (lv_at hl 3 rfl) ?_
      refine lv_aload_n hx hb de_A_add2_13 rfl (lv_at hl 2 rfl) ?_
      refine dk_aastO (a := qg) (v := z) (r := (kn_U, kt_U, 2)) (E := dk_nO) hx hb hK hP hS hg2 rfl (hN _ (dn_m 927 (by decide +kernel) rfl)) hz1 rfl xs.length rfl (by omega) (by omega) de_A_add2_14 (fun H locs w_251 hw_252 hP hS => ?_)
      have h_253 : w_251 qg = some (t1, dk_ca G 5 cg (va_up fg xs.length (some z))) := dk_here hw_252
      have h_254 : w_251 h = some (t0, .inr (cx_A, [.int mo, .ref qg, .int (nI xs.length)])) := dk_keep hw_252 hg2 hg1 (by omega)
      refine lv_aload_n hx hb de_A_add2_15 rfl (lv_at hl 1 rfl) ?_
      refine lv_iload_n hx hb de_A_add2_16 rfl (lv_at hl 3 rfl) ?_
      refine lv_iconst (v := nI 1) hx hb de_A_add2_17 (by decide) ?_
      refine nx_iadd (a := xs.length) (b := 1) hx hb de_A_add2_18 ?_
      refine dk_put (a := h) (v := .int (nI (xs.length + 1))) (ty := .int) (C := kn_A) (T := kt_A) (N := 3) hx hb hts ki_A ky_A kk_A kd_A hown hK hP hS h_254 rfl 2 (by decide) (hts _ wi_85) (fun _ h9 => h9) rfl (by decide +kernel) rfl rfl (Nat.le_of_ble_eq_true rfl) de_A_add2_19 (fun H locs w_255 hw_256 hP hS => ?_)
      have h_257 : w_255 h = some (t0, .inr (cx_A, [.int mo, .ref qg, .int (nI (xs.length + 1))])) := dk_here hw_256
      have h_258 : w_255 qg = some (t1, dk_ca G 5 cg (va_up fg xs.length (some z))) := dk_keep hw_256 h_254 h_253 (by omega)
      exact dk_vret hQ hx hb hr hlocks hP hS (by omega) (by omega) (⟨⟨mo, qg, by rw [show (xs ++ [z]).length = xs.length + 1 by simp]; exact h_257, Or.inr ⟨cg, _, h_258, by simp; omega, hg4, hg5, al_snoc hg6⟩⟩, (((dk_fr.rf).tr (hg7)).tr ((dk_fr.up (T := (fun t => t = t0 ∨ t = t1)) hg2 (Or.inr rfl)).eq hw_252)).tr ((dk_fr.up (T := (fun t => t = t0 ∨ t = t1)) h_254 (Or.inl rfl)).eq hw_256)⟩) de_A_add2_22
  · refine dk_enter (lv := [(0, .ref h), (1, .ref z), (2, .ref ed), (3, .int (nI xs.length))]) (by decide) (Nat.le_of_ble_eq_true rfl) rfl (fun p e s m args below meth c ls Q hQ C hP hS hl => ?_)
    obtain ⟨hx, hb, hr, hml, hlocks, hown, hnm, hts, hE⟩ := C
    have hK := hE.1
    have hN := hE.2.1
    refine lv_iload_n hx hb de_A_add2_0 rfl (lv_at hl 3 rfl) ?_
    refine lv_aload_n hx hb de_A_add2_1 rfl (lv_at hl 2 rfl) ?_
    refine dk_alen (a := ed) hx hb hK hP hed 5 rfl de_A_add2_2 ?_
    refine nx_icmp_ne (a := xs.length) (b := cap) (tgt := 11) hx hb (by omega) (by omega) de_A_add2_3 (by decide) (fun c_259 => ?_) (fun c_259 => ?_)
    · refine lv_aload_n hx hb de_A_add2_11 rfl (lv_at hl 2 rfl) ?_
      refine lv_iload_n hx hb de_A_add2_12 rfl (lv_at hl 3 rfl) ?_
      refine lv_aload_n hx hb de_A_add2_13 rfl (lv_at hl 1 rfl) ?_
      refine dk_aastO (a := ed) (v := z) (r := (kn_U, kt_U, 2)) (E := dk_nO) hx hb hK hP hS hed rfl (hN _ (dn_m 927 (by decide +kernel) rfl)) hz rfl xs.length rfl (by omega) (by omega) de_A_add2_14 (fun H locs w_260 hw_261 hP hS => ?_)
      have h_262 : w_260 ed = some (t1, dk_ca G 5 cap (va_up f xs.length (some z))) := dk_here hw_261
      have h_263 : w_260 h = some (t0, .inr (cx_A, [.int mo, .ref ed, .int (nI xs.length)])) := dk_keep hw_261 hed hh (by omega)
      refine lv_aload_n hx hb de_A_add2_15 rfl (lv_at hl 0 rfl) ?_
      refine lv_iload_n hx hb de_A_add2_16 rfl (lv_at hl 3 rfl) ?_
      refine lv_iconst (v := nI 1) hx hb de_A_add2_17 (by decide) ?_
      refine nx_iadd (a := xs.length) (b := 1) hx hb de_A_add2_18 ?_
      refine dk_put (a := h) (v := .int (nI (xs.length + 1))) (ty := .int) (C := kn_A) (T := kt_A) (N := 3) hx hb hts ki_A ky_A kk_A kd_A hown hK hP hS h_263 rfl 2 (by decide) (hts _ wi_85) (fun _ h9 => h9) rfl (by decide +kernel) rfl rfl (Nat.le_of_ble_eq_true rfl) de_A_add2_19 (fun H locs w_264 hw_265 hP hS => ?_)
      have h_266 : w_264 h = some (t0, .inr (cx_A, [.int mo, .ref ed, .int (nI (xs.length + 1))])) := dk_here hw_265
      have h_267 : w_264 ed = some (t1, dk_ca G 5 cap (va_up f xs.length (some z))) := dk_keep hw_265 h_263 h_262 (by omega)
      exact dk_vret hQ hx hb hr hlocks hP hS (by omega) (by omega) (⟨⟨mo, ed, by rw [show (xs ++ [z]).length = xs.length + 1 by simp]; exact h_266, Or.inr ⟨cap, _, h_267, by simp; omega, h10, h9, al_snoc hf⟩⟩, ((dk_fr.rf).tr ((dk_fr.up (T := (fun t => t = t0 ∨ t = t1)) hed (Or.inr rfl)).eq hw_261)).tr ((dk_fr.up (T := (fun t => t = t0 ∨ t = t1)) h_263 (Or.inl rfl)).eq hw_265)⟩) de_A_add2_22
    · subst c_259
      refine lv_aload_n hx hb de_A_add2_6 rfl (lv_at hl 0 rfl) ?_
      refine dk_callq (va_runV (As := []) (rest := []) ⟨hx, hb, hml, hown, hts⟩ (c_A_grow l G w h t0 t1 xs mo ed ht9 hh (Or.inr ⟨f, hed, h10, hf⟩) hlen hel) (cwV 0 hts (wd_gV (C := "java/util/ArrayList") wi_223 wi_220 wi_222 (wd_p (q := (⟨"java/util/ArrayList", "grow", "()[Ljava/lang/Object;"⟩, 3)) (by decide +kernel) (by decide +kernel)) wi_7) rfl rfl rfl (by decide +kernel) ⟨Nat.le_of_ble_eq_true rfl, Nat.le_of_ble_eq_true rfl⟩) (dk_preV (kn_A, kt_A, 3) hE hP hS hh rfl) rfl rfl hl.1 rfl (lv_room (Nat.le_of_ble_eq_true rfl)) de_A_add2_7 ⟨(by first | exact Nat.le_of_ble_eq_true rfl | (simp only [Nat.zero_add]; omega) | omega), (by first | exact Nat.le_of_ble_eq_true rfl | (simp only [Nat.zero_add]; omega) | omega)⟩) hS (fun r_270 w_268 H locs hq_269 hP hS => ?_)
      obtain ⟨qg, cg, fg, hr_c, hg1, hg2, hg3, hg4, hg5, hg6, hg7⟩ := hq_269
      subst hr_c
      have hz1 := hg7 _ _ _ hz (by omega)
      refine lv_astore_n (lv' := [(2, .ref qg), (0, .ref h), (1, .ref z), (3, .int (nI xs.length))]) hx hb de_A_add2_10 rfl hl (by decide) rfl (fun ls hl => ?_)
      refine lv_aload_n hx hb de_A_add2_11 rfl (lv_at hl 0 rfl) ?_
      refine lv_iload_n hx hb de_A_add2_12 rfl (lv_at hl 3 rfl) ?_
      refine lv_aload_n hx hb de_A_add2_13 rfl (lv_at hl 2 rfl) ?_
      refine dk_aastO (a := qg) (v := z) (r := (kn_U, kt_U, 2)) (E := dk_nO) hx hb hK hP hS hg2 rfl (hN _ (dn_m 927 (by decide +kernel) rfl)) hz1 rfl xs.length rfl (by omega) (by omega) de_A_add2_14 (fun H locs w_271 hw_272 hP hS => ?_)
      have h_273 : w_271 qg = some (t1, dk_ca G 5 cg (va_up fg xs.length (some z))) := dk_here hw_272
      have h_274 : w_271 h = some (t0, .inr (cx_A, [.int mo, .ref qg, .int (nI xs.length)])) := dk_keep hw_272 hg2 hg1 (by omega)
      refine lv_aload_n hx hb de_A_add2_15 rfl (lv_at hl 1 rfl) ?_
      refine lv_iload_n hx hb de_A_add2_16 rfl (lv_at hl 3 rfl) ?_
      refine lv_iconst (v := nI 1) hx hb de_A_add2_17 (by decide) ?_
      refine nx_iadd (a := xs.length) (b := 1) hx hb de_A_add2_18 ?_
      refine dk_put (a := h) (v := .int (nI (xs.length + 1))) (ty := .int) (C := kn_A) (T := kt_A) (N := 3) hx hb hts ki_A ky_A kk_A kd_A hown hK hP hS h_274 rfl 2 (by decide) (hts _ wi_85) (fun _ h9 => h9) rfl (by decide +kernel) rfl rfl (Nat.le_of_ble_eq_true rfl) de_A_add2_19 (fun H locs w_275 hw_276 hP hS => ?_)
      have h_277 : w_275 h = some (t0, .inr (cx_A, [.int mo, .ref qg, .int (nI (xs.length + 1))])) := dk_here hw_276
      have h_278 : w_275 qg = some (t1, dk_ca G 5 cg (va_up fg xs.length (some z))) := dk_keep hw_276 h_274 h_273 (by omega)
      exact dk_vret hQ hx hb hr hlocks hP hS (by omega) (by omega) (⟨⟨mo, qg, by rw [show (xs ++ [z]).length = xs.length + 1 by simp]; exact h_277, Or.inr ⟨cg, _, h_278, by simp; omega, hg4, hg5, al_snoc hg6⟩⟩, (((dk_fr.rf).tr (hg7)).tr ((dk_fr.up (T := (fun t => t = t0 ∨ t = t1)) hg2 (Or.inr rfl)).eq hw_272)).tr ((dk_fr.up (T := (fun t => t = t0 ∨ t = t1)) h_274 (Or.inl rfl)).eq hw_276)⟩) de_A_add2_22
abbrev rm_A_add : Room := { frames := 6, cells := 1, slots := 900, locals := 150 }
set_option maxHeartbeats 4000000 in
set_option maxRecDepth 100000 in
theorem c_A_add (l : Launch) (G : dk_G) (w : dk_H) (h t0 t1 : Nat) (xs : List Nat) (ha0 : al_at G w h t0 t1 xs) (ht : t0 ≠ 0 ∧ t1 ≠ 0 ∧ t0 ≠ t1) (hlen : xs.length ≤ 600) (hel : al_el w xs) (z : Nat) (fz : List Value) (hz : w z = some (0, .inr (cx_U, fz))) : dk_Mi l my_A_add (wd_c my_A_add mb_A_add 2 (some .boolean)) rm_A_add G w [.ref h, .ref z] (fun r w1 => al_at G w1 h t0 t1 (xs ++ [z]) ∧ dk_fr (fun t => t = t0 ∨ t = t1) w w1) 1 900 := by
  have ht9 := ht
  obtain ⟨ht0, ht1, ht2⟩ := ht
  have h0T : ¬ ((0 : Nat) = t0 ∨ (0 : Nat) = t1) := by omega
  obtain ⟨mo, ed, hh, he⟩ := ha0
  refine dk_enter (lv := [(0, .ref h), (1, .ref z)]) (by decide) (Nat.le_of_ble_eq_true rfl) rfl (fun p e s m args below meth c ls Q hQ C hP hS hl => ?_)
  obtain ⟨hx, hb, hr, hml, hlocks, hown, hnm, hts, hE⟩ := C
  have hK := hE.1
  have hN := hE.2.1
  refine lv_aload_n hx hb de_A_add_0 rfl (lv_at hl 0 rfl) ?_
  refine lv_dup hx hb de_A_add_1 rfl ?_
  refine dk_get (a := h) (v := .int mo) (C := kn_A) (T := kt_A) (N := 3) hx hb hts ki_A hown hK hP hh rfl 0 (by decide) (hts _ wi_87) (u_same (hts _ wi_88)) rfl de_A_add_2 ?_
  refine lv_iconst (v := nI 1) hx hb de_A_add_5 (by decide) ?_
  refine lv_iadd hx hb de_A_add_6 ?_
  refine dk_put (a := h) (v := .int (mo + (nI 1))) (ty := .int) (C := kn_A) (T := kt_A) (N := 3) hx hb hts ki_A ky_A kk_A kd_A hown hK hP hS hh rfl 0 (by decide) (hts _ wi_87) (u_same (hts _ wi_88)) rfl (by decide +kernel) rfl rfl (Nat.le_of_ble_eq_true rfl) de_A_add_7 (fun H locs w_279 hw_280 hP hS => ?_)
  have h_281 : w_279 h = some (t0, .inr (cx_A, [.int (mo + (nI 1)), .ref ed, .int (nI xs.length)])) := dk_here hw_280
  refine lv_aload_n hx hb de_A_add_10 rfl (lv_at hl 0 rfl) ?_
  refine lv_aload_n hx hb de_A_add_11 rfl (lv_at hl 1 rfl) ?_
  refine lv_aload_n hx hb de_A_add_12 rfl (lv_at hl 0 rfl) ?_
  refine dk_get (a := h) (v := .ref ed) (C := kn_A) (T := kt_A) (N := 3) hx hb hts ki_A hown hK hP h_281 rfl 1 (by decide) (hts _ wi_84) (fun _ h9 => h9) rfl de_A_add_13 ?_
  refine lv_aload_n hx hb de_A_add_16 rfl (lv_at hl 0 rfl) ?_
  refine dk_get (a := h) (v := .int (nI xs.length)) (C := kn_A) (T := kt_A) (N := 3) hx hb hts ki_A hown hK hP h_281 rfl 2 (by decide) (hts _ wi_85) (fun _ h9 => h9) rfl de_A_add_17 ?_
  have hfr : dk_fr (fun t => t = t0 ∨ t = t1) w w_279 := (dk_fr.rf).tr ((dk_fr.up (T := (fun t => t = t0 ∨ t = t1)) hh (Or.inl rfl)).eq hw_280)
  have he2 : (ed = G.2.2.2 1 ∧ xs = []) ∨ ∃ cap f, w_279 ed = some (t1, dk_ca G 5 cap f) ∧ xs.length ≤ cap ∧ 10 ≤ cap ∧ cap ≤ 900 ∧ ∀ i x, xs[i]? = some x → f i = some x := by
    rcases he with he | ⟨cap, f, h1, h2⟩
    · exact Or.inl he
    · exact Or.inr ⟨cap, f, dk_keep hw_280 hh h1 (by omega), h2⟩
  refine dk_callv (va_runV (As := [.ref z, .ref ed, .int (nI xs.length)]) (rest := []) ⟨hx, hb, hml, hown, hts⟩ (c_A_add2 l G w_279 h t0 t1 xs (mo + nI 1) ed ht9 h_281 he2 hlen (hel.fr hfr h0T) z fz (hfr _ _ _ hz h0T)) (cwV 3 hts (wd_gV (C := "java/util/ArrayList") wi_219 wi_216 wi_218 (wd_p (q := (⟨"java/util/ArrayList", "add", "(Ljava/lang/Object;[Ljava/lang/Object;I)V"⟩, 3)) (by decide +kernel) (by decide +kernel)) wi_7) rfl rfl rfl (by decide +kernel) ⟨Nat.le_of_ble_eq_true rfl, Nat.le_of_ble_eq_true rfl⟩) (dk_preV (kn_A, kt_A, 3) hE hP hS h_281 rfl) rfl rfl hl.1 rfl (lv_room (Nat.le_of_ble_eq_true rfl)) de_A_add_20 ⟨(by first | exact Nat.le_of_ble_eq_true rfl | (simp only [Nat.zero_add]; omega) | omega), (by first | exact Nat.le_of_ble_eq_true rfl | (simp only [Nat.zero_add]; omega) | omega)⟩) hS (fun w_282 H locs hq_283 hP hS => ?_)
  refine lv_iconst (v := nI 1) hx hb de_A_add_23 (by decide) ?_
  exact dk_zret hQ hx hb hr hlocks hP hS (by omega) (by omega) (by decide +kernel) (⟨hq_283.1, hfr.tr hq_283.2⟩) de_A_add_24
abbrev rm_A_clear : Room := { frames := 0, cells := 0, slots := 0, locals := 0 }
set_option maxHeartbeats 4000000 in
set_option maxRecDepth 100000 in
theorem c_A_clear (l : Launch) (G : dk_G) (w : dk_H) (h t0 t1 : Nat) (xs : List Nat) (ha0 : al_at G w h t0 t1 xs) (ht : t0 ≠ 0 ∧ t1 ≠ 0 ∧ t0 ≠ t1) (hlen : xs.length < 2 ^ 31) : dk_Mv l my_A_clear (wd_c my_A_clear mb_A_clear 4 none) rm_A_clear G w [.ref h] (fun w1 => al_at G w1 h t0 t1 [] ∧ dk_fr (fun t => t = t0 ∨ t = t1) w w1) 0 0 := by
  obtain ⟨ht0, ht1, ht2⟩ := ht
  obtain ⟨mo, ed, hh, he⟩ := ha0
  rcases he with ⟨h1, h2⟩ | ⟨cap, f, hed, h8, h10, h9, hf⟩
  · subst h2
    refine dk_enter (lv := [(0, .ref h)]) (by decide) (Nat.le_of_ble_eq_true rfl) rfl (fun p e s m args below meth c ls Q hQ C hP hS hl => ?_)
    obtain ⟨hx, hb, hr, hml, hlocks, hown, hnm, hts, hE⟩ := C
    have hK := hE.1
    have hN := hE.2.1
    refine lv_aload_n hx hb de_A_clear_0 rfl (lv_at hl 0 rfl) ?_
    refine lv_dup hx hb de_A_clear_1 rfl ?_
    refine dk_get (a := h) (v := .int mo) (C := kn_A) (T := kt_A) (N := 3) hx hb hts ki_A hown hK hP hh rfl 0 (by decide) (hts _ wi_87) (u_same (hts _ wi_88)) rfl de_A_clear_2 ?_
    refine lv_iconst (v := nI 1) hx hb de_A_clear_5 (by decide) ?_
    refine lv_iadd hx hb de_A_clear_6 ?_
    refine dk_put (a := h) (v := .int (mo + (nI 1))) (ty := .int) (C := kn_A) (T := kt_A) (N := 3) hx hb hts ki_A ky_A kk_A kd_A hown hK hP hS hh rfl 0 (by decide) (hts _ wi_87) (u_same (hts _ wi_88)) rfl (by decide +kernel) rfl rfl (Nat.le_of_ble_eq_true rfl) de_A_clear_7 (fun H locs w_285 hw_286 hP hS => ?_)
    have h_287 : w_285 h = some (t0, .inr (cx_A, [.int (mo + (nI 1)), .ref ed, .int (nI ([] : List Nat).length)])) := dk_here hw_286
    refine lv_aload_n hx hb de_A_clear_10 rfl (lv_at hl 0 rfl) ?_
    refine dk_get (a := h) (v := .ref ed) (C := kn_A) (T := kt_A) (N := 3) hx hb hts ki_A hown hK hP h_287 rfl 1 (by decide) (hts _ wi_84) (fun _ h9 => h9) rfl de_A_clear_11 ?_
    refine lv_astore_n (lv' := [(1, .ref ed), (0, .ref h)]) hx hb de_A_clear_14 rfl hl (by decide) rfl (fun ls hl => ?_)
    refine lv_aload_n hx hb de_A_clear_15 rfl (lv_at hl 1 rfl) ?_
    refine dk_get (a := h) (v := .int (nI ([] : List Nat).length)) (C := kn_A) (T := kt_A) (N := 3) hx hb hts ki_A hown hK hP h_287 rfl 2 (by decide) (hts _ wi_85) (fun _ h9 => h9) rfl de_A_clear_16 ?_
    refine lv_istore_n (lv' := [(2, .int (nI ([] : List Nat).length)), (1, .ref ed), (0, .ref h)]) hx hb de_A_clear_19 rfl hl (by decide) rfl (fun ls hl => ?_)
    refine lv_aload_n hx hb de_A_clear_20 rfl (lv_at hl 2 rfl) ?_
    refine lv_iconst (v := nI 0) hx hb de_A_clear_21 (by decide) ?_
    refine lv_dup_x1 hx hb de_A_clear_22 rfl rfl ?_
    refine dk_put (a := h) (v := .int (nI 0)) (ty := .int) (C := kn_A) (T := kt_A) (N := 3) hx hb hts ki_A ky_A kk_A kd_A hown hK hP hS h_287 rfl 2 (by decide) (hts _ wi_85) (fun _ h9 => h9) rfl (by decide +kernel) rfl rfl (Nat.le_of_ble_eq_true rfl) de_A_clear_23 (fun H locs w_288 hw_289 hP hS => ?_)
    have h_290 : w_288 h = some (t0, .inr (cx_A, [.int (mo + (nI 1)), .ref ed, .int (nI 0)])) := dk_here hw_289
    refine lv_istore_n (lv' := [(3, .int (nI 0)), (2, .int (nI ([] : List Nat).length)), (1, .ref ed), (0, .ref h)]) hx hb de_A_clear_26 rfl hl (by decide) rfl (fun ls hl => ?_)
    refine lv_iload_n hx hb de_A_clear_27 rfl (lv_at hl 0 rfl) ?_
    refine lv_iload_n hx hb de_A_clear_28 rfl (lv_at hl 1 rfl) ?_
    refine nx_icmp_ge (a := 0) (b := ([] : List Nat).length) (tgt := 42) hx hb (by omega) (by omega) de_A_clear_29 (by decide) (fun c_291 => ?_) (fun c_291 => ?_)
    · exact dk_vret hQ hx hb hr hlocks hP hS (Nat.le_refl _) (Nat.le_refl _) (⟨⟨_, ed, h_290, Or.inl ⟨h1, rfl⟩⟩, ((dk_fr.rf).tr ((dk_fr.up (T := (fun t => t = t0 ∨ t = t1)) hh (Or.inl rfl)).eq hw_286)).tr ((dk_fr.up (T := (fun t => t = t0 ∨ t = t1)) h_287 (Or.inl rfl)).eq hw_289)⟩) de_A_clear_42
    · exact absurd c_291 (by simp)
  · refine dk_enter (lv := [(0, .ref h)]) (by decide) (Nat.le_of_ble_eq_true rfl) rfl (fun p e s m args below meth c ls Q hQ C hP hS hl => ?_)
    obtain ⟨hx, hb, hr, hml, hlocks, hown, hnm, hts, hE⟩ := C
    have hK := hE.1
    have hN := hE.2.1
    refine lv_aload_n hx hb de_A_clear_0 rfl (lv_at hl 0 rfl) ?_
    refine lv_dup hx hb de_A_clear_1 rfl ?_
    refine dk_get (a := h) (v := .int mo) (C := kn_A) (T := kt_A) (N := 3) hx hb hts ki_A hown hK hP hh rfl 0 (by decide) (hts _ wi_87) (u_same (hts _ wi_88)) rfl de_A_clear_2 ?_
    refine lv_iconst (v := nI 1) hx hb de_A_clear_5 (by decide) ?_
    refine lv_iadd hx hb de_A_clear_6 ?_
    refine dk_put (a := h) (v := .int (mo + (nI 1))) (ty := .int) (C := kn_A) (T := kt_A) (N := 3) hx hb hts ki_A ky_A kk_A kd_A hown hK hP hS hh rfl 0 (by decide) (hts _ wi_87) (u_same (hts _ wi_88)) rfl (by decide +kernel) rfl rfl (Nat.le_of_ble_eq_true rfl) de_A_clear_7 (fun H locs w_292 hw_293 hP hS => ?_)
    have h_294 : w_292 h = some (t0, .inr (cx_A, [.int (mo + (nI 1)), .ref ed, .int (nI xs.length)])) := dk_here hw_293
    have h_295 : w_292 ed = some (t1, dk_ca G 5 cap f) := dk_keep hw_293 hh hed (by omega)
    refine lv_aload_n hx hb de_A_clear_10 rfl (lv_at hl 0 rfl) ?_
    refine dk_get (a := h) (v := .ref ed) (C := kn_A) (T := kt_A) (N := 3) hx hb hts ki_A hown hK hP h_294 rfl 1 (by decide) (hts _ wi_84) (fun _ h9 => h9) rfl de_A_clear_11 ?_
    refine lv_astore_n (lv' := [(1, .ref ed), (0, .ref h)]) hx hb de_A_clear_14 rfl hl (by decide) rfl (fun ls hl => ?_)
    refine lv_aload_n hx hb de_A_clear_15 rfl (lv_at hl 1 rfl) ?_
    refine dk_get (a := h) (v := .int (nI xs.length)) (C := kn_A) (T := kt_A) (N := 3) hx hb hts ki_A hown hK hP h_294 rfl 2 (by decide) (hts _ wi_85) (fun _ h9 => h9) rfl de_A_clear_16 ?_
    refine lv_istore_n (lv' := [(2, .int (nI xs.length)), (1, .ref ed), (0, .ref h)]) hx hb de_A_clear_19 rfl hl (by decide) rfl (fun ls hl => ?_)
    refine lv_aload_n hx hb de_A_clear_20 rfl (lv_at hl 2 rfl) ?_
    refine lv_iconst (v := nI 0) hx hb de_A_clear_21 (by decide) ?_
    refine lv_dup_x1 hx hb de_A_clear_22 rfl rfl ?_
    refine dk_put (a := h) (v := .int (nI 0)) (ty := .int) (C := kn_A) (T := kt_A) (N := 3) hx hb hts ki_A ky_A kk_A kd_A hown hK hP hS h_294 rfl 2 (by decide) (hts _ wi_85) (fun _ h9 => h9) rfl (by decide +kernel) rfl rfl (Nat.le_of_ble_eq_true rfl) de_A_clear_23 (fun H locs w_296 hw_297 hP hS => ?_)
    have h_298 : w_296 h = some (t0, .inr (cx_A, [.int (mo + (nI 1)), .ref ed, .int (nI 0)])) := dk_here hw_297
    have h_299 : w_296 ed = some (t1, dk_ca G 5 cap f) := dk_keep hw_297 h_294 h_295 (by omega)
    refine lv_istore_n (lv' := [(3, .int (nI 0)), (2, .int (nI xs.length)), (1, .ref ed), (0, .ref h)]) hx hb de_A_clear_26 rfl hl (by decide) rfl (fun ls hl => ?_)
    have hfr0 : dk_fr (fun t => t = t0 ∨ t = t1) w w_296 := ((dk_fr.rf).tr ((dk_fr.up (T := (fun t => t = t0 ∨ t = t1)) hh (Or.inl rfl)).eq hw_293)).tr ((dk_fr.up (T := (fun t => t = t0 ∨ t = t1)) h_294 (Or.inl rfl)).eq hw_297)
    have lp : ∀ (zk : Nat) (i : Nat) (g : Nat → Option Nat), xs.length - i < zk → (i ≤ xs.length) → ∀ (H : Heap) (locs : List Loc) (v : dk_H), v h = some (t0, .inr (cx_A, [.int (mo + nI 1), .ref ed, .int (nI 0)])) → v ed = some (t1, dk_ca G 5 cap g) → (dk_fr (fun t => t = t0 ∨ t = t1) w v) → dk_P G v H → dk_S G s.heap H locs → ∀ (ls : Array Slot), lv_has ls 4 [(0, .ref h), (1, .ref ed), (2, .int (nI xs.length)), (3, .int (nI i))] → W p l e rm_A_clear s m args below meth c H locs 0 0 Q (F0 m 27 ls []) := by
      intro zk
      induction zk with
      | zero =>
        intro i g hk
        exact absurd hk (by omega)
      | succ zk ih =>
        intro i g hk hi
        intro H locs v hh hed hfr hP hS
        intro ls hl
        refine lv_iload_n hx hb de_A_clear_27 rfl (lv_at hl 3 rfl) ?_
        refine lv_iload_n hx hb de_A_clear_28 rfl (lv_at hl 2 rfl) ?_
        refine nx_icmp_ge (a := i) (b := xs.length) (tgt := 42) hx hb (by omega) (by omega) de_A_clear_29 (by decide) (fun c_300 => ?_) (fun c_300 => ?_)
        · exact dk_vret hQ hx hb hr hlocks hP hS (Nat.le_refl _) (Nat.le_refl _) (⟨⟨_, ed, hh, Or.inr ⟨cap, g, hed, Nat.zero_le _, h10, h9, fun i x z => by simp at z⟩⟩, hfr⟩) de_A_clear_42
        · refine lv_aload_n hx hb de_A_clear_32 rfl (lv_at hl 1 rfl) ?_
          refine lv_iload_n hx hb de_A_clear_33 rfl (lv_at hl 3 rfl) ?_
          refine lv_null hx hb de_A_clear_34 ?_
          refine dk_aastN (a := ed) (C := dk_nO) hx hb hK hP hS hed rfl i rfl (by omega) (by omega) de_A_clear_35 (fun H locs w_301 hw_302 hP hS => ?_)
          have h_303 : w_301 ed = some (t1, dk_ca G 5 cap (va_up g i none)) := dk_here hw_302
          have h_304 : w_301 h = some (t0, .inr (cx_A, [.int (mo + nI 1), .ref ed, .int (nI 0)])) := dk_keep hw_302 hed hh (by omega)
          have hfr3 := hfr.tr ((dk_fr.rf).tr ((dk_fr.up (T := (fun t => t = t0 ∨ t = t1)) hed (Or.inr rfl)).eq hw_302))
          refine lv_iinc (v := nI (i + 1)) (lv' := [(3, .int (nI (i + 1))), (0, .ref h), (1, .ref ed), (2, .int (nI xs.length))]) hx hb de_A_clear_36 hl (k := 3) rfl (nx_inc i) (by decide) rfl (fun ls hl => ?_)
          refine lv_goto (tgt := 27) hx hb de_A_clear_39 (by decide) ?_
          exact ih (i + 1) (va_up g i none) (by omega) (by omega) _ _ _ h_304 h_303 hfr3 hP hS _ (lv_sub hl [1, 2, 3, 0] rfl)
    exact lp (xs.length + 1) 0 f (by omega) (Nat.zero_le _) _ _ _ h_298 h_299 hfr0 hP hS _ (lv_sub hl [3, 2, 1, 0] rfl)
end
section
/-! RUNS: the filter's bits (ts_nf, ts_nt, ts_bit as kit/laws/BITS.to-paste has them) -/
theorem ts_nf {x : Bool} (h : ¬ x = false) : x = true := by cases x <;> first | rfl | exact absurd rfl h
theorem ts_nt {x : Bool} (h : ¬ x = true) : x = false := by cases x <;> first | rfl | exact absurd rfl h
theorem ts_bit {w : Int64} {s : UInt64} {j : Nat} (hj : j < 64) (hs : s.toNat = j) : ((w.toUInt64 >>> s).toInt64 &&& 1) = 0 ↔ w.toBitVec.getLsbD j = false := by
  have e : (w.toUInt64 >>> s).toInt64.toBitVec = w.toBitVec >>> j := by
    apply BitVec.eq_of_toNat_eq
    show (w.toUInt64 >>> s).toNat = _
    rw [UInt64.toNat_shiftRight, hs, Nat.mod_eq_of_lt hj, BitVec.toNat_ushiftRight]
    rfl
  rw [← Int64.toBitVec_inj, Int64.toBitVec_and, e]
  show w.toBitVec >>> j &&& 1#64 = 0#64 ↔ _
  constructor
  · intro h
    have t := congrArg (fun x => x.getLsbD 0) h
    simpa using t
  · intro h
    apply BitVec.eq_of_getLsbD_eq
    intro i hi
    cases i with
    | zero => simp [h]
    | succ i => simp
/-- a key's number for the j-th factor, before it is taken modulo the bits -/
def hv_k (k j : Nat) : Nat := (nI k * dk_fac j).toBitVec.toNat / 4096
theorem hv_lt (k j : Nat) : hv_k k j < 2 ^ 20 := by
  have := (nI k * dk_fac j).toBitVec.isLt
  unfold hv_k
  omega
theorem hv_sh (y : Int32) : (y.toUInt32 >>> ((nI 12).toUInt32 &&& Int32.toUInt32 31)).toInt32 = nI (y.toBitVec.toNat / 4096) := by
  apply Int32.toBitVec_inj.mp
  apply BitVec.eq_of_toNat_eq
  rw [pk_ushr y (nI 12) 12 (by decide)]
  rw [pk_tn (by have := y.toBitVec.isLt; omega)]
theorem sh_am : ∀ k, k < 64 → ((nI k).toInt64.toUInt64 &&& Int64.toUInt64 63).toNat = k := by decide +kernel
theorem sh_one : ∀ k, k < 64 → ((1 : Int64) <<< ((nI k).toInt64 &&& 63)).toBitVec = BitVec.twoPow 64 k := by decide +kernel
/-- bit b of the words f -/
def bt_f (f : Nat → Int64) (b : Nat) : Bool := (f (b / 64)).toBitVec.getLsbD (b % 64)
theorem bt_or {f : Nat → Int64} {b0 : Nat} {m : Int64} (hm : m.toBitVec = BitVec.twoPow 64 (b0 % 64)) (b : Nat) : bt_f (vp_updL f (b0 / 64) (f (b0 / 64) ||| m)) b = (bt_f f b || decide (b = b0)) := by
  unfold bt_f
  have h1 : b % 64 < 64 := Nat.mod_lt _ (by decide)
  by_cases hq : b / 64 = b0 / 64
  · rw [hq, pk_uLs, Int64.toBitVec_or, BitVec.getLsbD_or, hm, BitVec.getLsbD_twoPow]
    congr 1
    have e : (b0 % 64 = b % 64) ↔ b = b0 := by omega
    have h2 : b0 % 64 < 64 := Nat.mod_lt _ (by decide)
    by_cases hb : b = b0
    · subst hb; simp [h1]
    · have : ¬ b0 % 64 = b % 64 := fun z => hb (e.mp z)
      simp [hb, this]
  · rw [pk_uLn hq]
    have : b ≠ b0 := fun z => hq (by rw [z])
    simp [this]
theorem bt_0 (b : Nat) : bt_f (fun _ => 0) b = false := by simp [bt_f]
/-- the bits of a row's keys -/
def fl_x (nb k b : Nat) : Bool := decide (hv_k k 0 % nb = b) || decide (hv_k k 1 % nb = b) || decide (hv_k k 2 % nb = b)
def fl_s (nb : Nat) (L : List en_T) (b : Nat) : Bool := L.any (fun x => fl_x nb x.1 b)
def fl_p (nb : Nat) (L : List en_T) (k : Nat) : Bool := fl_s nb L (hv_k k 0 % nb) && fl_s nb L (hv_k k 1 % nb) && fl_s nb L (hv_k k 2 % nb)
def rn_w (L : List en_T) : Nat := (L.length + 7) / 8
/-- may the run have the key -/
def rn_m (L : List en_T) (k : Nat) : Bool := decide ((L.getD 0 (0, 0, 0, false)).1 ≤ k) && decide (k ≤ (L.getD (L.length - 1) (0, 0, 0, false)).1) && fl_p (64 * rn_w L) L k
def rn_at (G : dk_G) (w : dk_H) (h : Nat) (L : List en_T) : Prop := ∃ (r fl : Nat) (f : Nat → Int64), w h = some (0, .inr (cx_U, [.ref r, .ref fl])) ∧ rw_at G w r 0 0 L.length L ∧ w fl = some (0, dk_cl G (rn_w L) f) ∧ (∀ b, b < 64 * rn_w L → bt_f f b = fl_s (64 * rn_w L) L b) ∧ 0 < L.length ∧ L.length ≤ 600 ∧ ∀ x ∈ L, en_ok x
theorem rn_at.fr {G : dk_G} {T : Nat → Prop} {w w1 : dk_H} {h : Nat} {L : List en_T} (H : rn_at G w h L) (hf : dk_fr T w w1) (h0 : ¬ T 0) : rn_at G w1 h L := by
  obtain ⟨r, fl, f, g1, g2, g3, g4⟩ := H
  exact ⟨r, fl, f, hf _ _ _ g1 h0, g2.fr hf h0 h0 h0, hf _ _ _ g3 h0, g4⟩
end
section
/-! RunKeeper$Run, walked (printed by gen/c_run.py) -/
theorem fl_step {i : Nat} (hi : i < 3) (A : Bool) (P : Nat → Nat) (b : Nat) : (A || (decide (0 < i) && decide (P 0 = b) || decide (1 < i) && decide (P 1 = b) || decide (2 < i) && decide (P 2 = b)) || decide (b = P i)) = (A || (decide (0 < i + 1) && decide (P 0 = b) || decide (1 < i + 1) && decide (P 1 = b) || decide (2 < i + 1) && decide (P 2 = b))) := by
  rcases (show i = 0 ∨ i = 1 ∨ i = 2 by omega) with rfl | rfl | rfl
  · simp [eq_comm]
  · simp [eq_comm, Bool.or_assoc]
  · simp [eq_comm, Bool.or_assoc]
theorem at_in {w : dk_H} {r : Option Nat} {L : List en_T} {j : Nat} {x : en_T} (h : (r = none ∧ ∀ i, nI j = nI i → i < 2 ^ 31 → L.length ≤ i) ∨ ∃ i y, nI j = nI i ∧ L[i]? = some y ∧ en_q w r (some y)) (hj : j < 2 ^ 31) (hl : L.length < 2 ^ 31) (hx : L[j]? = some x) : ∃ a, r = some a ∧ en_at w a x := by
  have hjl := (List.getElem?_eq_some_iff.mp hx).1
  rcases h with ⟨-, h⟩ | ⟨i, y, h1, h2, h3⟩
  · exact absurd (h j rfl hj) (by omega)
  · have hil := (List.getElem?_eq_some_iff.mp h2).1
    have e := (nI_eq hj (by omega)).mp h1
    subst e
    rw [hx] at h2
    cases h2
    exact h3
theorem at_out {w : dk_H} {r : Option Nat} {L : List en_T} {k : Int32} (h : (r = none ∧ ∀ i, k = nI i → i < 2 ^ 31 → L.length ≤ i) ∨ ∃ i y, k = nI i ∧ L[i]? = some y ∧ en_q w r (some y)) (hk : ∀ i, i < L.length → k ≠ nI i) : r = none := by
  rcases h with ⟨h, -⟩ | ⟨i, y, h1, h2, -⟩
  · exact h
  · exact absurd h1 (hk i (List.getElem?_eq_some_iff.mp h2).1)
/-- a new run's four cells are frozen: their tags become 0 -/
theorem rn_freeze {G0 : dk_G} {w v : dk_H} {h q sq fl cap : Nat} {fh fr : List Value} {fq : Nat → Option Nat} {ef : va_E} {L : List en_T} (hh : v h = some (63, .inr (cx_U, fh))) (hq : v q = some (60, .inr (cx_R, fr))) (hs : v sq = some (61, dk_ca G0 3 cap fq)) (hf : v fl = some (62, ef)) (hav : dk_fr (fun t => t = 63 ∨ t = 60 ∨ t = 61 ∨ t = 62) w v) (hra : ra_ok v fq L) :
    ∃ v2 : dk_H, (∀ (G : dk_G) (H : Heap), dk_P G v H → dk_P G v2 H) ∧ (v2 h = some (0, .inr (cx_U, fh)) ∧ v2 q = some (0, .inr (cx_R, fr)) ∧ v2 sq = some (0, dk_ca G0 3 cap fq) ∧ v2 fl = some (0, ef) ∧ ra_ok v2 fq L) ∧ dk_fr (fun t => 60 ≤ t ∧ t ≤ 63) w v2 := by
  have n1 := dk_ne hh hq (by decide)
  have n2 := dk_ne hh hs (by decide)
  have n3 := dk_ne hh hf (by decide)
  have n4 := dk_ne hq hs (by decide)
  have n5 := dk_ne hq hf (by decide)
  have n6 := dk_ne hs hf (by decide)
  have kept : ∀ (a t : Nat) (e : va_E), v a = some (t, e) → ¬ (60 ≤ t ∧ t ≤ 63) → va_up (va_up (va_up (va_up v h (some (0, .inr (cx_U, fh)))) q (some (0, .inr (cx_R, fr)))) sq (some (0, dk_ca G0 3 cap fq))) fl (some (0, ef)) a = some (t, e) := by
    intro a t e ha ht
    rw [dk_un (dk_ne ha hf (by omega)), dk_un (dk_ne ha hs (by omega)), dk_un (dk_ne ha hq (by omega)), dk_un (dk_ne ha hh (by omega))]
    exact ha
  refine ⟨va_up (va_up (va_up (va_up v h (some (0, .inr (cx_U, fh)))) q (some (0, .inr (cx_R, fr)))) sq (some (0, dk_ca G0 3 cap fq))) fl (some (0, ef)), fun G H hP => ?_, ⟨?_, ?_, ?_, ?_, ?_⟩, ?_⟩
  · have p1 := hP.tag (u := 0) hh
    have p2 := p1.tag (a := q) (t := 60) (u := 0) (e := .inr (cx_R, fr)) (by rw [dk_un n1.symm]; exact hq)
    have p3 := p2.tag (a := sq) (t := 61) (u := 0) (e := dk_ca G0 3 cap fq) (by rw [dk_un n4.symm, dk_un n2.symm]; exact hs)
    exact p3.tag (a := fl) (t := 62) (u := 0) (e := ef) (by rw [dk_un n6.symm, dk_un n5.symm, dk_un n3.symm]; exact hf)
  · rw [dk_un n3, dk_un n2, dk_un n1, dk_us]
  · rw [dk_un n5, dk_un n4, dk_us]
  · rw [dk_un n6, dk_us]
  · rw [dk_us]
  · intro i x hx
    obtain ⟨a, h1, h2⟩ := hra i x hx
    exact ⟨a, h1, kept a 0 _ h2 (by omega)⟩
  · intro a t e ha ht
    exact kept a t e (hav a t e ha (by omega)) ht
theorem fl_no {nb k i : Nat} {L : List en_T} (hi : i < 3) (h : fl_s nb L (hv_k k i % nb) = false) : fl_p nb L k = false := by
  rcases (show i = 0 ∨ i = 1 ∨ i = 2 by omega) with rfl | rfl | rfl <;> simp [fl_p, h]
abbrev rm_U_bitOf : Room := { frames := 0, cells := 0, slots := 0, locals := 0 }
set_option maxHeartbeats 4000000 in
set_option maxRecDepth 100000 in
theorem c_U_bitOf (l : Launch) (G : dk_G) (w : dk_H) (k j fl t n : Nat) (f : Nat → Int64) (hfl : w fl = some (t, dk_cl G n f)) (hn : 0 < n) (hn2 : n ≤ 100) : dk_Mi l my_U_bitOf (wd_c my_U_bitOf mb_U_bitOf 4 (some .int)) rm_U_bitOf G w [.int (nI k), .int (dk_fac j), .ref fl] (fun r w1 => r = nI (hv_k k j % (n * 64)) ∧ w1 = w) 0 0 := by
  refine dk_enter (lv := [(0, .int (nI k)), (1, .int (dk_fac j)), (2, .ref fl)]) (by decide) (Nat.le_of_ble_eq_true rfl) rfl (fun p e s m args below meth c ls Q hQ C hP hS hl => ?_)
  obtain ⟨hx, hb, hr, hml, hlocks, hown, hnm, hts, hE⟩ := C
  have hK := hE.1
  have hN := hE.2.1
  refine lv_aload_n hx hb de_U_bitOf_0 rfl (lv_at hl 2 rfl) ?_
  refine dk_alen (a := fl) hx hb hK hP hfl 1 rfl de_U_bitOf_1 ?_
  refine lv_bipush (v := nI 64) hx hb de_U_bitOf_2 (by decide) ?_
  refine nx_imul (a := n) (b := 64) hx hb de_U_bitOf_4 ?_
  refine lv_istore_n (lv' := [(3, .int (nI (n * 64))), (0, .int (nI k)), (1, .int (dk_fac j)), (2, .ref fl)]) hx hb de_U_bitOf_5 rfl hl (by decide) rfl (fun ls hl => ?_)
  refine lv_iload_n hx hb de_U_bitOf_6 rfl (lv_at hl 0 rfl) ?_
  refine nx_if_ne (a := n * 64) (tgt := 14) hx hb (by omega) de_U_bitOf_7 (by decide) (fun c_305 => ?_) (fun c_305 => ?_)
  · have hv := hv_lt k j
    refine lv_iload_n hx hb de_U_bitOf_14 rfl (lv_at hl 1 rfl) ?_
    refine lv_iload_n hx hb de_U_bitOf_15 rfl (lv_at hl 2 rfl) ?_
    refine lv_imul hx hb de_U_bitOf_16 ?_
    refine lv_bipush (v := nI 12) hx hb de_U_bitOf_17 (by decide) ?_
    refine lv_iushr (v := nI (hv_k k j)) hx hb de_U_bitOf_19 (hv_sh _) ?_
    refine lv_iload_n hx hb de_U_bitOf_20 rfl (lv_at hl 0 rfl) ?_
    refine nx_irem (a := hv_k k j) (b := n * 64) hx hb (by omega) (by omega) (by omega) de_U_bitOf_21 ?_
    exact dk_iret hQ hx hb hr hlocks hP hS (Nat.le_refl _) (Nat.le_refl _) (⟨rfl, rfl⟩) de_U_bitOf_22
  · exact absurd c_305 (by omega)
abbrev rm_U_setBits : Room := { frames := 1, cells := 0, slots := 0, locals := 23 }
set_option maxHeartbeats 4000000 in
set_option maxRecDepth 100000 in
theorem c_U_setBits (l : Launch) (G : dk_G) (w : dk_H) (fl t n a : Nat) (f : Nat → Int64) (x : en_T) (hfl : w fl = some (t, dk_cl G n f)) (ht : t ≠ 0) (hn : 0 < n) (hn2 : n ≤ 100) (ha : en_at w a x) : dk_Mv l my_U_setBits (wd_c my_U_setBits mb_U_setBits 4 none) rm_U_setBits G w [.ref fl, .ref a] (fun w1 => ∃ g, w1 = va_up w fl (some (t, dk_cl G n g)) ∧ ∀ b, bt_f g b = (bt_f f b || fl_x (n * 64) x.1 b)) 0 0 := by
  refine dk_enter (lv := [(0, .ref fl), (1, .ref a)]) (by decide) (Nat.le_of_ble_eq_true rfl) rfl (fun p e s m args below meth c ls Q hQ C hP hS hl => ?_)
  obtain ⟨hx, hb, hr, hml, hlocks, hown, hnm, hts, hE⟩ := C
  have hK := hE.1
  have hN := hE.2.1
  refine lv_iconst (v := nI 0) hx hb de_U_setBits_0 (by decide) ?_
  refine lv_istore_n (lv' := [(2, .int (nI 0)), (0, .ref fl), (1, .ref a)]) hx hb de_U_setBits_1 rfl hl (by decide) rfl (fun ls hl => ?_)
  have hfl0 := hfl
  have lp : ∀ (zk : Nat) (i : Nat) (g : Nat → Int64), 3 - i < zk → (i ≤ 3) → (∀ b, bt_f g b = (bt_f f b || ((decide (0 < i) && decide (hv_k x.1 0 % (n * 64) = b)) || (decide (1 < i) && decide (hv_k x.1 1 % (n * 64) = b)) || (decide (2 < i) && decide (hv_k x.1 2 % (n * 64) = b))))) → ∀ (H : Heap) (locs : List Loc) (v : dk_H), v fl = some (t, dk_cl G n g) → (v = va_up w fl (some (t, dk_cl G n g))) → dk_P G v H → dk_S G s.heap H locs → ∀ (ls : Array Slot), lv_has ls 4 [(0, .ref fl), (1, .ref a), (2, .int (nI i))] → W p l e rm_U_setBits s m args below meth c H locs 0 0 Q (F0 m 2 ls []) := by
    intro zk
    induction zk with
    | zero =>
      intro i g hk
      exact absurd hk (by omega)
    | succ zk ih =>
      intro i g hk hi hg
      intro H locs v hfl hv hP hS
      intro ls hl
      have ha1 : en_at v a x := (dk_fr.up (T := fun z => z = t) hfl0 rfl).eq hv a 0 _ ha (fun z => ht z.symm)
      refine lv_aload_n hx hb de_U_setBits_2 rfl (lv_at hl 1 rfl) ?_
      refine lv_ifnull hx hb de_U_setBits_3 ?_
      refine lv_iload_n hx hb de_U_setBits_6 rfl (lv_at hl 2 rfl) ?_
      refine va_gets hx hb hE.2.2.1.1.1 hS hown (hts _ wi_195) (fun _ h9 => h9) de_U_setBits_7 ?_
      refine va_tlen hx hb hE.2.2.1.1.2 hS (v := nI 3) rfl de_U_setBits_10 ?_
      refine nx_icmp_ge (a := i) (b := 3) (tgt := 49) hx hb (by omega) (by omega) de_U_setBits_11 (by decide) (fun c_307 => ?_) (fun c_307 => ?_)
      · exact dk_vret hQ hx hb hr hlocks hP hS (Nat.le_refl _) (Nat.le_refl _) (⟨g, hv, fun b => by rw [hg b, show i = 3 by omega]; simp [fl_x]⟩) de_U_setBits_49
      · refine lv_aload_n hx hb de_U_setBits_14 rfl (lv_at hl 1 rfl) ?_
        refine dk_getN (a := a) (v := .int (nI x.1)) (C := kn_E) (T := kt_E) (N := 4) (host := "RunKeeper") hx hb hts ki_E hown hK hP ha1 rfl 0 (by decide) (hN.use (dn_m 445 (by decide +kernel) rfl)) (fun _ h9 => h9) rfl de_U_setBits_15 ?_
        refine va_gets hx hb hE.2.2.1.1.1 hS hown (hts _ wi_195) (fun _ h9 => h9) de_U_setBits_18 ?_
        refine lv_iload_n hx hb de_U_setBits_21 rfl (lv_at hl 2 rfl) ?_
        refine va_ti hx hb hE.2.2.1.1.2 hS (i := nI i) (vp_in_nI (by omega) (by decide)) (v := .int (dk_fac i)) (by rw [nI_clamp (by omega)]) de_U_setBits_22 ?_
        refine lv_aload_n hx hb de_U_setBits_23 rfl (lv_at hl 0 rfl) ?_
        refine dk_calli (va_runS (As := [.int (nI x.1), .int (dk_fac i), .ref fl]) (rest := []) ⟨hx, hb, hml, hown, hts⟩ (c_U_bitOf l G v x.1 i fl t n g hfl hn hn2) (va_cwS 3 hts (wd_gS wi_199 wi_197 wi_198 wi_15) rfl rfl rfl (by decide +kernel) ⟨Nat.le_of_ble_eq_true rfl, Nat.le_of_ble_eq_true rfl⟩) (dk_preS hE hP hS) rfl rfl hl.1 rfl (lv_room (Nat.le_of_ble_eq_true rfl)) de_U_setBits_24 ⟨(by first | exact Nat.le_of_ble_eq_true rfl | (simp only [Nat.zero_add]; omega) | omega), (by first | exact Nat.le_of_ble_eq_true rfl | (simp only [Nat.zero_add]; omega) | omega)⟩) hS (fun r_310 w_308 H locs hq_309 hP hS => ?_)
        obtain ⟨hr_311, he_312⟩ := hq_309
        subst hr_311
        rw [he_312] at hP
        obtain ⟨B, hB⟩ : ∃ B, B = hv_k x.1 i % (n * 64) := ⟨_, rfl⟩
        rw [← hB]
        have hi2 : i < 3 := c_307
        have hBl : B < n * 64 := by rw [hB]; exact Nat.mod_lt _ (by omega)
        refine lv_istore_n (lv' := [(3, .int (nI B)), (0, .ref fl), (1, .ref a), (2, .int (nI i))]) hx hb de_U_setBits_27 rfl hl (by decide) rfl (fun ls hl => ?_)
        refine lv_aload_n hx hb de_U_setBits_28 rfl (lv_at hl 1 rfl) ?_
        refine lv_iload_n hx hb de_U_setBits_29 rfl (lv_at hl 0 rfl) ?_
        refine lv_bipush (v := nI 64) hx hb de_U_setBits_30 (by decide) ?_
        refine nx_idiv (a := B) (b := 64) hx hb (by omega) (by omega) (by omega) de_U_setBits_32 ?_
        refine lv_dup2_11 hx hb de_U_setBits_33 rfl rfl ?_
        refine dk_lald (a := fl) hx hb hK hP hfl (B / 64) rfl (by omega) (by omega) de_U_setBits_34 ?_
        refine lv_lconst (v := 1) hx hb de_U_setBits_35 (by decide) ?_
        refine lv_iload_n hx hb de_U_setBits_36 rfl (lv_at hl 0 rfl) ?_
        refine lv_bipush (v := nI 64) hx hb de_U_setBits_37 (by decide) ?_
        refine nx_irem (a := B) (b := 64) hx hb (by omega) (by omega) (by omega) de_U_setBits_39 ?_
        refine lv_lshl (v := (1 : Int64) <<< ((nI (B % 64)).toInt64 &&& 63)) hx hb de_U_setBits_40 rfl ?_
        refine lv_lor hx hb de_U_setBits_41 ?_
        refine dk_last (a := fl) (x := ((g (B / 64)) ||| ((1 : Int64) <<< ((nI (B % 64)).toInt64 &&& 63)))) hx hb hK hP hS hfl (B / 64) rfl (by omega) (by omega) de_U_setBits_42 (fun H locs w_313 hw_314 hP hS => ?_)
        have h_315 : w_313 fl = some (t, dk_cl G n (vp_updL g (B / 64) ((g (B / 64)) ||| ((1 : Int64) <<< ((nI (B % 64)).toInt64 &&& 63))))) := dk_here hw_314
        have h_316 : w_313 a = some (0, .inr (cx_E, [.int (nI x.1), .int (nI x.2.1), .long x.2.2.1, .int (bo_i x.2.2.2)])) := dk_keep hw_314 hfl ha1 (by omega)
        refine lv_iinc (v := nI (i + 1)) (lv' := [(2, .int (nI (i + 1))), (3, .int (nI B)), (0, .ref fl), (1, .ref a)]) hx hb de_U_setBits_43 hl (k := 3) rfl (nx_inc i) (by decide) rfl (fun ls hl => ?_)
        refine lv_goto (tgt := 2) hx hb de_U_setBits_46 (by decide) ?_
        have hv2 : w_313 = va_up w fl (some (t, dk_cl G n (vp_updL g (B / 64) ((g (B / 64)) ||| ((1 : Int64) <<< ((nI (B % 64)).toInt64 &&& 63)))))) := by rw [hw_314, hv, bx_uu]
        exact ih (i + 1) (vp_updL g (B / 64) ((g (B / 64)) ||| ((1 : Int64) <<< ((nI (B % 64)).toInt64 &&& 63)))) (by omega) (by omega) (fun b => by rw [bt_or (sh_one _ (Nat.mod_lt _ (by decide))), hg b, hB]; exact fl_step hi2 _ (fun j => hv_k x.1 j % (n * 64)) b) _ _ _ h_315 hv2 hP hS _ (lv_sub hl [2, 3, 0] rfl)
  exact lp 4 0 f (by omega) (Nat.zero_le _) (fun b => by simp) _ _ _ hfl ((nx_eq hfl).symm) hP hS _ (lv_sub hl [1, 2, 0] rfl)
abbrev rm_U_entries : Room := { frames := 0, cells := 0, slots := 0, locals := 0 }
set_option maxHeartbeats 4000000 in
set_option maxRecDepth 100000 in
theorem c_U_entries (l : Launch) (G : dk_G) (w : dk_H) (h t : Nat) (r fl : Nat) (hh : w h = some (t, .inr (cx_U, [.ref r, .ref fl]))) : dk_Mq l my_U_entries (wd_c my_U_entries mb_U_entries 1 (some (.object "RunKeeper$Row"))) rm_U_entries G w [.ref h] (fun r1 w1 => r1 = some r ∧ w1 = w) 0 0 := by
  refine dk_enter (lv := [(0, .ref h)]) (by decide) (Nat.le_of_ble_eq_true rfl) rfl (fun p e s m args below meth c ls Q hQ C hP hS hl => ?_)
  obtain ⟨hx, hb, hr, hml, hlocks, hown, hnm, hts, hE⟩ := C
  have hK := hE.1
  have hN := hE.2.1
  refine lv_aload_n hx hb de_U_entries_0 rfl (lv_at hl 0 rfl) ?_
  refine dk_get (a := h) (v := .ref r) (C := kn_U) (T := kt_U) (N := 2) hx hb hts ki_U hown hK hP hh rfl 0 (by decide) (hts _ wi_200) (fun _ h9 => h9) rfl de_U_entries_1 ?_
  exact dk_aret (r := some r) hQ hx hb hr (Or.inl ⟨_, rfl⟩) hlocks hP hS (Nat.le_refl _) (Nat.le_refl _) (⟨rfl, rfl⟩) de_U_entries_4
abbrev rm_U_passesFilter : Room := { frames := 1, cells := 0, slots := 0, locals := 23 }
set_option maxHeartbeats 4000000 in
set_option maxRecDepth 100000 in
theorem c_U_passesFilter (l : Launch) (G : dk_G) (w : dk_H) (h k : Nat) (L : List en_T) (hr0 : rn_at G w h L) : dk_Mi l my_U_passesFilter (wd_c my_U_passesFilter mb_U_passesFilter 4 (some .boolean)) rm_U_passesFilter G w [.ref h, .int (nI k)] (fun r w1 => r = bo_i (fl_p (64 * rn_w L) L k) ∧ w1 = w) 0 0 := by
  obtain ⟨r, fl, f, hh, hrw, hfl, hbt, hL0, hL6, hok⟩ := hr0
  have hn : 0 < rn_w L := by unfold rn_w; omega
  have hn2 : rn_w L ≤ 100 := by unfold rn_w; omega
  refine dk_enter (lv := [(0, .ref h), (1, .int (nI k))]) (by decide) (Nat.le_of_ble_eq_true rfl) rfl (fun p e s m args below meth c ls Q hQ C hP hS hl => ?_)
  obtain ⟨hx, hb, hr, hml, hlocks, hown, hnm, hts, hE⟩ := C
  have hK := hE.1
  have hN := hE.2.1
  refine lv_iconst (v := nI 0) hx hb de_U_passesFilter_0 (by decide) ?_
  refine lv_istore_n (lv' := [(2, .int (nI 0)), (0, .ref h), (1, .int (nI k))]) hx hb de_U_passesFilter_1 rfl hl (by decide) rfl (fun ls hl => ?_)
  have lp : ∀ (zk : Nat) (i : Nat), 3 - i < zk → (i ≤ 3) → (∀ j, j < i → fl_s (64 * rn_w L) L (hv_k k j % (64 * rn_w L)) = true) → ∀ (H : Heap) (locs : List Loc), dk_P G w H → dk_S G s.heap H locs → ∀ (ls : Array Slot), lv_has ls 4 [(0, .ref h), (1, .int (nI k)), (2, .int (nI i))] → W p l e rm_U_passesFilter s m args below meth c H locs 0 0 Q (F0 m 2 ls []) := by
    intro zk
    induction zk with
    | zero =>
      intro i hk
      exact absurd hk (by omega)
    | succ zk ih =>
      intro i hk hi hg
      intro H locs hP hS
      intro ls hl
      refine lv_iload_n hx hb de_U_passesFilter_2 rfl (lv_at hl 2 rfl) ?_
      refine va_gets hx hb hE.2.2.1.1.1 hS hown (hts _ wi_195) (fun _ h9 => h9) de_U_passesFilter_3 ?_
      refine va_tlen hx hb hE.2.2.1.1.2 hS (v := nI 3) rfl de_U_passesFilter_6 ?_
      refine nx_icmp_ge (a := i) (b := 3) (tgt := 53) hx hb (by omega) (by omega) de_U_passesFilter_7 (by decide) (fun c_317 => ?_) (fun c_317 => ?_)
      · refine lv_iconst (v := nI 1) hx hb de_U_passesFilter_53 (by decide) ?_
        exact dk_zret hQ hx hb hr hlocks hP hS (Nat.le_refl _) (Nat.le_refl _) (by decide +kernel) (⟨bo_of1 (by simp [fl_p, hg 0 (by omega), hg 1 (by omega), hg 2 (by omega)]), rfl⟩) de_U_passesFilter_54
      · refine lv_iload_n hx hb de_U_passesFilter_10 rfl (lv_at hl 1 rfl) ?_
        refine va_gets hx hb hE.2.2.1.1.1 hS hown (hts _ wi_195) (fun _ h9 => h9) de_U_passesFilter_11 ?_
        refine lv_iload_n hx hb de_U_passesFilter_14 rfl (lv_at hl 2 rfl) ?_
        refine va_ti hx hb hE.2.2.1.1.2 hS (i := nI i) (vp_in_nI (by omega) (by decide)) (v := .int (dk_fac i)) (by rw [nI_clamp (by omega)]) de_U_passesFilter_15 ?_
        refine lv_aload_n hx hb de_U_passesFilter_16 rfl (lv_at hl 0 rfl) ?_
        refine dk_get (a := h) (v := .ref fl) (C := kn_U) (T := kt_U) (N := 2) hx hb hts ki_U hown hK hP hh rfl 1 (by decide) (hts _ wi_201) (fun _ h9 => h9) rfl de_U_passesFilter_17 ?_
        refine dk_calli (va_runS (As := [.int (nI k), .int (dk_fac i), .ref fl]) (rest := []) ⟨hx, hb, hml, hown, hts⟩ (c_U_bitOf l G w k i fl 0 (rn_w L) f hfl hn hn2) (va_cwS 3 hts (wd_gS wi_199 wi_197 wi_198 wi_15) rfl rfl rfl (by decide +kernel) ⟨Nat.le_of_ble_eq_true rfl, Nat.le_of_ble_eq_true rfl⟩) (dk_preS hE hP hS) rfl rfl hl.1 rfl (lv_room (Nat.le_of_ble_eq_true rfl)) de_U_passesFilter_20 ⟨(by first | exact Nat.le_of_ble_eq_true rfl | (simp only [Nat.zero_add]; omega) | omega), (by first | exact Nat.le_of_ble_eq_true rfl | (simp only [Nat.zero_add]; omega) | omega)⟩) hS (fun r_320 w_318 H locs hq_319 hP hS => ?_)
        obtain ⟨hr_321, he_322⟩ := hq_319
        subst hr_321
        rw [he_322] at hP
        obtain ⟨B, hB⟩ : ∃ B, B = hv_k k i % (rn_w L * 64) := ⟨_, rfl⟩
        rw [← hB]
        have hBl : B < rn_w L * 64 := by rw [hB]; exact Nat.mod_lt _ (by omega)
        have hbB := hbt B (by omega)
        refine lv_istore_n (lv' := [(3, .int (nI B)), (0, .ref h), (1, .int (nI k)), (2, .int (nI i))]) hx hb de_U_passesFilter_23 rfl hl (by decide) rfl (fun ls hl => ?_)
        refine lv_aload_n hx hb de_U_passesFilter_24 rfl (lv_at hl 1 rfl) ?_
        refine dk_get (a := h) (v := .ref fl) (C := kn_U) (T := kt_U) (N := 2) hx hb hts ki_U hown hK hP hh rfl 1 (by decide) (hts _ wi_201) (fun _ h9 => h9) rfl de_U_passesFilter_25 ?_
        refine lv_iload_n hx hb de_U_passesFilter_28 rfl (lv_at hl 0 rfl) ?_
        refine lv_bipush (v := nI 64) hx hb de_U_passesFilter_29 (by decide) ?_
        refine nx_idiv (a := B) (b := 64) hx hb (by omega) (by omega) (by omega) de_U_passesFilter_31 ?_
        refine dk_lald (a := fl) hx hb hK hP hfl (B / 64) rfl (by omega) (by omega) de_U_passesFilter_32 ?_
        refine lv_iload_n hx hb de_U_passesFilter_33 rfl (lv_at hl 0 rfl) ?_
        refine lv_bipush (v := nI 64) hx hb de_U_passesFilter_34 (by decide) ?_
        refine nx_irem (a := B) (b := 64) hx hb (by omega) (by omega) (by omega) de_U_passesFilter_36 ?_
        refine lv_lushr (v := ((f (B / 64)).toUInt64 >>> ((nI (B % 64)).toInt64.toUInt64 &&& Int64.toUInt64 63)).toInt64) hx hb de_U_passesFilter_37 rfl ?_
        refine lv_lconst (v := 1) hx hb de_U_passesFilter_38 (by decide) ?_
        refine lv_land hx hb de_U_passesFilter_39 ?_
        refine lv_lconst (v := 0) hx hb de_U_passesFilter_40 (by decide) ?_
        refine W.lcmp hx hb de_U_passesFilter_41 ?_
        have hts2 := (lg_cmp_eq _ _).trans (ts_bit (w := f (B / 64)) (j := B % 64) (Nat.mod_lt _ (by decide)) (sh_am _ (Nat.mod_lt _ (by decide))))
        refine lv_if_ne (tgt := 47) hx hb de_U_passesFilter_42 (by decide) (fun c_323 => ?_) (fun c_323 => ?_)
        · have h9 : bt_f f B = true := ts_nf (fun z => c_323 (hts2.mpr z))
          rw [hbB, hB, Nat.mul_comm] at h9
          refine lv_iinc (v := nI (i + 1)) (lv' := [(2, .int (nI (i + 1))), (3, .int (nI B)), (0, .ref h), (1, .int (nI k))]) hx hb de_U_passesFilter_47 hl (k := 3) rfl (nx_inc i) (by decide) rfl (fun ls hl => ?_)
          refine lv_goto (tgt := 2) hx hb de_U_passesFilter_50 (by decide) ?_
          have hg2 : ∀ j, j < i + 1 → fl_s (64 * rn_w L) L (hv_k k j % (64 * rn_w L)) = true := lt_s hg (by rw [Nat.mul_comm] at h9; exact h9)
          exact ih (i + 1) (by omega) (by omega) hg2 _ _ hP hS _ (lv_sub hl [2, 3, 0] rfl)
        · have h9 : bt_f f B = false := hts2.mp c_323
          rw [hbB, hB, Nat.mul_comm] at h9
          refine lv_iconst (v := nI 0) hx hb de_U_passesFilter_45 (by decide) ?_
          exact dk_zret hQ hx hb hr hlocks hP hS (Nat.le_refl _) (Nat.le_refl _) (by decide +kernel) (⟨bo_of0 (fl_no c_317 (by rw [Nat.mul_comm] at h9; exact h9)), rfl⟩) de_U_passesFilter_46
  exact lp 4 0 (by omega) (Nat.zero_le _) (fun j hj => absurd hj (by omega)) _ _ hP hS _ (lv_sub hl [1, 2, 0] rfl)
abbrev rm_U_mayHave : Room := { frames := 2, cells := 0, slots := 0, locals := 46 }
set_option maxHeartbeats 4000000 in
set_option maxRecDepth 100000 in
theorem c_U_mayHave (l : Launch) (G : dk_G) (w : dk_H) (h k : Nat) (L : List en_T) (hr0 : rn_at G w h L) (hk0 : k < 2 ^ 31) : dk_Mi l my_U_mayHave (wd_c my_U_mayHave mb_U_mayHave 4 (some .boolean)) rm_U_mayHave G w [.ref h, .int (nI k)] (fun r w1 => r = bo_i (rn_m L k) ∧ w1 = w) 0 0 := by
  have hr1 := hr0
  obtain ⟨r, fl, f, hh, hrw, hfl, hbt, hL0, hL6, hok⟩ := hr0
  have hrw1 := hrw
  obtain ⟨sl, fr, hrc, -⟩ := hrw
  obtain ⟨x, hx9⟩ := ge_at hL0
  obtain ⟨y, hy9⟩ := ge_at (L := L) (i := L.length - 1) (by omega)
  have hxk := (hok x (List.mem_of_getElem? hx9)).1
  have hyk := (hok y (List.mem_of_getElem? hy9)).1
  have ex : L.getD 0 (0, 0, 0, false) = x := by rw [List.getD_eq_getElem?_getD, hx9]; rfl
  have ey : L.getD (L.length - 1) (0, 0, 0, false) = y := by rw [List.getD_eq_getElem?_getD, hy9]; rfl
  refine dk_enter (lv := [(0, .ref h), (1, .int (nI k))]) (by decide) (Nat.le_of_ble_eq_true rfl) rfl (fun p e s m args below meth c ls Q hQ C hP hS hl => ?_)
  obtain ⟨hx, hb, hr, hml, hlocks, hown, hnm, hts, hE⟩ := C
  have hK := hE.1
  have hN := hE.2.1
  refine lv_aload_n hx hb de_U_mayHave_0 rfl (lv_at hl 0 rfl) ?_
  refine dk_get (a := h) (v := .ref r) (C := kn_U) (T := kt_U) (N := 2) hx hb hts ki_U hown hK hP hh rfl 0 (by decide) (hts _ wi_200) (fun _ h9 => h9) rfl de_U_mayHave_1 ?_
  refine lv_iconst (v := nI 0) hx hb de_U_mayHave_4 (by decide) ?_
  refine dk_callq (va_runV (As := [.int (nI 0)]) (rest := []) ⟨hx, hb, hml, hown, hts⟩ (c_R_at l G w r 0 0 L.length L hrw1 (nI 0)) (cwV 1 hts (wd_gV (C := "RunKeeper$Row") wi_191 wi_188 wi_189 wi_190 wi_2) rfl rfl rfl (by decide +kernel) ⟨Nat.le_of_ble_eq_true rfl, Nat.le_of_ble_eq_true rfl⟩) (dk_preV (kn_R, kt_R, 2) hE hP hS hrc rfl) rfl rfl hl.1 rfl (lv_room (Nat.le_of_ble_eq_true rfl)) de_U_mayHave_5 ⟨(by first | exact Nat.le_of_ble_eq_true rfl | (simp only [Nat.zero_add]; omega) | omega), (by first | exact Nat.le_of_ble_eq_true rfl | (simp only [Nat.zero_add]; omega) | omega)⟩) hS (fun r_326 w_324 H locs hq_325 hP hS => ?_)
  obtain ⟨a1, ha1, ha2⟩ := at_in hq_325.2 (by decide) (by omega) hx9
  rw [hq_325.1] at hP
  subst ha1
  refine lv_astore_n (lv' := [(2, .ref a1), (0, .ref h), (1, .int (nI k))]) hx hb de_U_mayHave_8 rfl hl (by decide) rfl (fun ls hl => ?_)
  refine lv_aload_n hx hb de_U_mayHave_9 rfl (lv_at hl 1 rfl) ?_
  refine dk_get (a := h) (v := .ref r) (C := kn_U) (T := kt_U) (N := 2) hx hb hts ki_U hown hK hP hh rfl 0 (by decide) (hts _ wi_200) (fun _ h9 => h9) rfl de_U_mayHave_10 ?_
  refine lv_aload_n hx hb de_U_mayHave_13 rfl (lv_at hl 1 rfl) ?_
  refine dk_get (a := h) (v := .ref r) (C := kn_U) (T := kt_U) (N := 2) hx hb hts ki_U hown hK hP hh rfl 0 (by decide) (hts _ wi_200) (fun _ h9 => h9) rfl de_U_mayHave_14 ?_
  refine dk_calli (va_runV (As := []) (rest := [.ref r]) ⟨hx, hb, hml, hown, hts⟩ (c_R_size l G w r 0 0 L.length L hrw1) (cwV 0 hts (wd_gV (C := "RunKeeper$Row") wi_147 wi_178 wi_145 wi_146 wi_2) rfl rfl rfl (by decide +kernel) ⟨Nat.le_of_ble_eq_true rfl, Nat.le_of_ble_eq_true rfl⟩) (dk_preV (kn_R, kt_R, 2) hE hP hS hrc rfl) rfl rfl hl.1 rfl (lv_room (Nat.le_of_ble_eq_true rfl)) de_U_mayHave_17 ⟨(by first | exact Nat.le_of_ble_eq_true rfl | (simp only [Nat.zero_add]; omega) | omega), (by first | exact Nat.le_of_ble_eq_true rfl | (simp only [Nat.zero_add]; omega) | omega)⟩) hS (fun r_329 w_327 H locs hq_328 hP hS => ?_)
  obtain ⟨hr_330, he_331⟩ := hq_328
  subst hr_330
  rw [he_331] at hP
  refine lv_iconst (v := nI 1) hx hb de_U_mayHave_20 (by decide) ?_
  refine nx_isub (a := L.length) (b := 1) hx hb (by omega) de_U_mayHave_21 ?_
  refine dk_callq (va_runV (As := [.int (nI (L.length - 1))]) (rest := []) ⟨hx, hb, hml, hown, hts⟩ (c_R_at l G w r 0 0 L.length L hrw1 (nI (L.length - 1))) (cwV 1 hts (wd_gV (C := "RunKeeper$Row") wi_191 wi_188 wi_189 wi_190 wi_2) rfl rfl rfl (by decide +kernel) ⟨Nat.le_of_ble_eq_true rfl, Nat.le_of_ble_eq_true rfl⟩) (dk_preV (kn_R, kt_R, 2) hE hP hS hrc rfl) rfl rfl hl.1 rfl (lv_room (Nat.le_of_ble_eq_true rfl)) de_U_mayHave_22 ⟨(by first | exact Nat.le_of_ble_eq_true rfl | (simp only [Nat.zero_add]; omega) | omega), (by first | exact Nat.le_of_ble_eq_true rfl | (simp only [Nat.zero_add]; omega) | omega)⟩) hS (fun r_334 w_332 H locs hq_333 hP hS => ?_)
  obtain ⟨a2, hb1, hb2⟩ := at_in hq_333.2 (by omega) (by omega) hy9
  rw [hq_333.1] at hP
  subst hb1
  refine lv_astore_n (lv' := [(3, .ref a2), (2, .ref a1), (0, .ref h), (1, .int (nI k))]) hx hb de_U_mayHave_25 rfl hl (by decide) rfl (fun ls hl => ?_)
  refine lv_aload_n hx hb de_U_mayHave_26 rfl (lv_at hl 1 rfl) ?_
  refine lv_ifnull hx hb de_U_mayHave_27 ?_
  refine lv_aload_n hx hb de_U_mayHave_30 rfl (lv_at hl 0 rfl) ?_
  refine lv_ifnull hx hb de_U_mayHave_31 ?_
  refine lv_aload_n hx hb de_U_mayHave_34 rfl (lv_at hl 1 rfl) ?_
  refine dk_getN (a := a1) (v := .int (nI x.1)) (C := kn_E) (T := kt_E) (N := 4) (host := "RunKeeper") hx hb hts ki_E hown hK hP ha2 rfl 0 (by decide) (hN.use (dn_m 445 (by decide +kernel) rfl)) (fun _ h9 => h9) rfl de_U_mayHave_35 ?_
  refine lv_iload_n hx hb de_U_mayHave_38 rfl (lv_at hl 3 rfl) ?_
  refine nx_icmp_gt (a := x.1) (b := k) (tgt := 62) hx hb (by omega) (by omega) de_U_mayHave_39 (by decide) (fun c_337 => ?_) (fun c_337 => ?_)
  · refine lv_iconst (v := nI 0) hx hb de_U_mayHave_62 (by decide) ?_
    exact dk_zret hQ hx hb hr hlocks hP hS (Nat.le_refl _) (Nat.le_refl _) (by decide +kernel) (⟨bo_of0 (by simp only [rn_m, ex, ey]; simp; omega), rfl⟩) de_U_mayHave_63
  · refine lv_iload_n hx hb de_U_mayHave_42 rfl (lv_at hl 3 rfl) ?_
    refine lv_aload_n hx hb de_U_mayHave_43 rfl (lv_at hl 0 rfl) ?_
    refine dk_getN (a := a2) (v := .int (nI y.1)) (C := kn_E) (T := kt_E) (N := 4) (host := "RunKeeper") hx hb hts ki_E hown hK hP hb2 rfl 0 (by decide) (hN.use (dn_m 445 (by decide +kernel) rfl)) (fun _ h9 => h9) rfl de_U_mayHave_44 ?_
    refine nx_icmp_gt (a := k) (b := y.1) (tgt := 62) hx hb (by omega) (by omega) de_U_mayHave_47 (by decide) (fun c_338 => ?_) (fun c_338 => ?_)
    · refine lv_iconst (v := nI 0) hx hb de_U_mayHave_62 (by decide) ?_
      exact dk_zret hQ hx hb hr hlocks hP hS (Nat.le_refl _) (Nat.le_refl _) (by decide +kernel) (⟨bo_of0 (by simp only [rn_m, ex, ey]; simp; omega), rfl⟩) de_U_mayHave_63
    · refine lv_aload_n hx hb de_U_mayHave_50 rfl (lv_at hl 2 rfl) ?_
      refine lv_iload_n hx hb de_U_mayHave_51 rfl (lv_at hl 3 rfl) ?_
      refine dk_calli (va_runV (As := [.int (nI k)]) (rest := []) ⟨hx, hb, hml, hown, hts⟩ (c_U_passesFilter l G w h k L hr1) (cwV 1 hts (wd_gV (C := "RunKeeper$Run") wi_646 wi_643 wi_645 (wd_p (q := (⟨"RunKeeper$Run", "passesFilter", "(I)Z"⟩, 2)) (by decide +kernel) (by decide +kernel)) wi_15) rfl rfl rfl (by decide +kernel) ⟨Nat.le_of_ble_eq_true rfl, Nat.le_of_ble_eq_true rfl⟩) (dk_preV (kn_U, kt_U, 2) hE hP hS hh rfl) rfl rfl hl.1 rfl (lv_room (Nat.le_of_ble_eq_true rfl)) de_U_mayHave_52 ⟨(by first | exact Nat.le_of_ble_eq_true rfl | (simp only [Nat.zero_add]; omega) | omega), (by first | exact Nat.le_of_ble_eq_true rfl | (simp only [Nat.zero_add]; omega) | omega)⟩) hS (fun r_341 w_339 H locs hq_340 hP hS => ?_)
      obtain ⟨hr_342, he_343⟩ := hq_340
      subst hr_342
      rw [he_343] at hP
      refine bo_if_eq (b := (fl_p (64 * rn_w L) L k)) (tgt := 62) hx hb de_U_mayHave_55 (by decide) (fun c_344 => ?_) (fun c_344 => ?_)
      · refine lv_iconst (v := nI 0) hx hb de_U_mayHave_62 (by decide) ?_
        exact dk_zret hQ hx hb hr hlocks hP hS (Nat.le_refl _) (Nat.le_refl _) (by decide +kernel) (⟨bo_of0 (by simp only [rn_m, c_344]; simp), rfl⟩) de_U_mayHave_63
      · refine lv_iconst (v := nI 1) hx hb de_U_mayHave_58 (by decide) ?_
        refine lv_goto (tgt := 63) hx hb de_U_mayHave_59 (by decide) ?_
        exact dk_zret hQ hx hb hr hlocks hP hS (Nat.le_refl _) (Nat.le_refl _) (by decide +kernel) (⟨bo_of1 (by simp only [rn_m, ex, ey, c_344]; simp; omega), rfl⟩) de_U_mayHave_63
abbrev rm_U_init (n : Nat) : Room := { frames := 2, cells := 3, slots := (n + 2 + (n + 7) / 8), locals := 46 }
set_option maxHeartbeats 4000000 in
set_option maxRecDepth 100000 in
theorem c_U_init (l : Launch) (G : dk_G) (w : dk_H) (h s0 u0 u1 cap : Nat) (L : List en_T) (hh : w h = some (63, .inr (cx_U, [.null, .null]))) (hs0 : rw_at G w s0 u0 u1 cap L) (hu : u0 ≠ 0 ∧ u1 ≠ 0 ∧ u0 < 60 ∧ u1 < 60) (hL0 : 0 < L.length) (hL6 : L.length ≤ 600) (hok : ∀ x ∈ L, en_ok x) : dk_Mv l my_U_init (wd_c my_U_init mb_U_init 3 none) (rm_U_init L.length) G w [.ref h, .ref s0] (fun w1 => rn_at G w1 h L ∧ dk_fr (fun t => 60 ≤ t ∧ t ≤ 63) w w1) 3 (L.length + 2 + (L.length + 7) / 8) := by
  obtain ⟨hu1, hu2, hu3, hu4⟩ := hu
  obtain ⟨ss, fs, hsc, -⟩ := id hs0
  refine dk_enter (lv := [(0, .ref h), (1, .ref s0)]) (by decide) (Nat.le_of_ble_eq_true rfl) rfl (fun p e s m args below meth c ls Q hQ C hP hS hl => ?_)
  obtain ⟨hx, hb, hr, hml, hlocks, hown, hnm, hts, hE⟩ := C
  have hK := hE.1
  have hN := hE.2.1
  refine lv_aload_n hx hb de_U_init_0 rfl (lv_at hl 0 rfl) ?_
  refine W.objInit hx hb hown (hts _ wi_176) (hts _ wi_30) (hts _ wi_31) rfl (by rw [hml]; exact hl.1) rfl de_U_init_1 (Nat.le_of_ble_eq_true rfl) (Nat.le_of_ble_eq_true rfl) ?_
  refine W.eq (g2 := F0 m 4 ls []) rfl ?_
  refine lv_aload_n hx hb de_U_init_4 rfl (lv_at hl 0 rfl) ?_
  refine dk_new 60 (fs := [.null, .int 0]) (C := kn_R) (T := kt_R) (N := 2) (ci := cx_R) hx hb hts ki_R ky_R kk_R hown (hts _ wi_177) (hts _ wi_33) (hts _ wi_2) hK hP hS hE.2.2.2 rfl (fun j hj => by match j, hj with | 0, _ => rfl | 1, _ => rfl | j + 2, h => exact absurd h (by omega)) (by first | exact Nat.le_of_ble_eq_true rfl | (simp only [Nat.zero_add]; omega) | omega) (by first | exact Nat.le_of_ble_eq_true rfl | (simp only [Nat.zero_add]; omega) | omega) de_U_init_5 (fun q_345 H w_346 hn_348 hw_347 hP hS => ?_)
  have h_349 : w_346 q_345 = some (60, .inr (cx_R, [.null, .int 0])) := dk_here hw_347
  have h_350 : w_346 h = some (63, .inr (cx_U, [.null, .null])) := dk_keepN hw_347 hn_348 hh
  have h_351 : w_346 s0 = some (u0, .inr (cx_R, [.ref ss, .int (nI L.length)])) := dk_keepN hw_347 hn_348 hsc
  have hs1 : rw_at G w_346 s0 u0 u1 cap L := hs0.fr (T := fun _ => False) ((dk_fr.upN hn_348).eq hw_347) (fun z => z) (fun z => z) (fun z => z)
  refine lv_dup hx hb de_U_init_8 rfl ?_
  refine lv_aload_n hx hb de_U_init_9 rfl (lv_at hl 1 rfl) ?_
  refine dk_calli (va_runV (As := []) (rest := [.ref q_345, .ref q_345, .ref h]) ⟨hx, hb, hml, hown, hts⟩ (c_R_size l G w_346 s0 u0 u1 cap L hs1) (cwV 0 hts (wd_gV (C := "RunKeeper$Row") wi_147 wi_178 wi_145 wi_146 wi_2) rfl rfl rfl (by decide +kernel) ⟨Nat.le_of_ble_eq_true rfl, Nat.le_of_ble_eq_true rfl⟩) (dk_preV (kn_R, kt_R, 2) hE hP hS h_351 rfl) rfl rfl hl.1 rfl (lv_room (Nat.le_of_ble_eq_true rfl)) de_U_init_10 ⟨(by first | exact Nat.le_of_ble_eq_true rfl | (simp only [Nat.zero_add]; omega) | omega), (by first | exact Nat.le_of_ble_eq_true rfl | (simp only [Nat.zero_add]; omega) | omega)⟩) hS (fun r_354 w_352 H locs hq_353 hP hS => ?_)
  obtain ⟨hr_355, he_356⟩ := hq_353
  subst hr_355
  rw [he_356] at hP
  refine dk_callv (va_runI (As := [.int (nI L.length)]) (rest := [.ref q_345, .ref h]) ⟨hx, hb, hml, hown, hts⟩ (c_R_init l G w_346 q_345 60 61 L.length h_349 (by decide) (by decide) (by omega)) (cwI 1 hts (wd_g wi_36) rfl rfl rfl (hts _ wi_2) (hts _ wi_179) (hts _ wi_35) rfl (by decide +kernel) ⟨Nat.le_of_ble_eq_true rfl, Nat.le_of_ble_eq_true rfl⟩) (dk_preS hE hP hS) rfl rfl hl.1 rfl (lv_room (Nat.le_of_ble_eq_true rfl)) de_U_init_13 ⟨(by first | exact Nat.le_of_ble_eq_true rfl | (simp only [Nat.zero_add]; omega) | omega), (by first | exact Nat.le_of_ble_eq_true rfl | (simp only [Nat.zero_add]; omega) | omega)⟩) hS (fun w_357 H locs hq_358 hP hS => ?_)
  obtain ⟨hrw, hfr1⟩ := hq_358
  have h_360 : w_357 h = some (63, .inr (cx_U, [.null, .null])) := hfr1 _ _ _ h_350 (by decide)
  have h_361 : w_357 s0 = some (u0, .inr (cx_R, [.ref ss, .int (nI L.length)])) := hfr1 _ _ _ h_351 (by omega)
  have hs2 := hs1.fr hfr1 (by decide) (by omega) (by omega)
  refine dk_putF (a := h) (v := .ref q_345) (ty := (.object "RunKeeper$Row")) (C := kn_U) (T := kt_U) (N := 2) hx hb hts ki_U ky_U kk_U kd_U hown hK hP hS h_360 rfl 0 (by decide) (hts _ wi_200) (fun _ h9 => h9) rfl hnm rfl (by decide +kernel) rfl rfl (Nat.le_of_ble_eq_true rfl) de_U_init_16 (fun H locs w_362 hw_363 hP hS => ?_)
  have h_364 : w_362 h = some (63, .inr (cx_U, [.ref q_345, .null])) := dk_here hw_363
  have h_365 : w_362 s0 = some (u0, .inr (cx_R, [.ref ss, .int (nI L.length)])) := dk_keep hw_363 h_360 h_361 (by omega)
  refine lv_aload_n hx hb de_U_init_19 rfl (lv_at hl 0 rfl) ?_
  refine dk_get (a := h) (v := .ref q_345) (C := kn_U) (T := kt_U) (N := 2) hx hb hts ki_U hown hK hP h_364 rfl 0 (by decide) (hts _ wi_200) (fun _ h9 => h9) rfl de_U_init_20 ?_
  refine lv_aload_n hx hb de_U_init_23 rfl (lv_at hl 1 rfl) ?_
  have hfr2 : dk_fr (fun t => t = 63) w_357 w_362 := (dk_fr.up (T := fun t => t = 63) h_360 rfl).eq hw_363
  have hs3 := hs2.fr hfr2 (by decide) (by omega) (by omega)
  have hrw2 := hrw.fr hfr2 (by decide) (by decide) (by decide)
  obtain ⟨sq, fq, hqc, -⟩ := id hrw2
  refine dk_callv (va_runV (As := [.ref s0]) (rest := []) ⟨hx, hb, hml, hown, hts⟩ (c_R_addAll l G w_362 q_345 60 61 L.length [] hrw2 ⟨by decide, by decide, by decide⟩ s0 u0 u1 cap L hs3 (by omega) (by simp)) (cwV 1 hts (wd_gV (C := "RunKeeper$Row") wi_183 wi_180 wi_181 wi_182 wi_2) rfl rfl rfl (by decide +kernel) ⟨Nat.le_of_ble_eq_true rfl, Nat.le_of_ble_eq_true rfl⟩) (dk_preV (kn_R, kt_R, 2) hE hP hS hqc rfl) rfl rfl hl.1 rfl (lv_room (Nat.le_of_ble_eq_true rfl)) de_U_init_24 ⟨(by first | exact Nat.le_of_ble_eq_true rfl | (simp only [Nat.zero_add]; omega) | omega), (by first | exact Nat.le_of_ble_eq_true rfl | (simp only [Nat.zero_add]; omega) | omega)⟩) hS (fun w_366 H locs hq_367 hP hS => ?_)
  obtain ⟨hrw3, hfr3⟩ := hq_367
  rw [List.nil_append] at hrw3
  have h_369 : w_366 h = some (63, .inr (cx_U, [.ref q_345, .null])) := hfr3 _ _ _ h_364 (by decide)
  have h_370 : w_366 s0 = some (u0, .inr (cx_R, [.ref ss, .int (nI L.length)])) := hfr3 _ _ _ h_365 (by omega)
  have hs4 := hs3.fr hfr3 (by omega) (by omega) (by omega)
  refine lv_aload_n hx hb de_U_init_27 rfl (lv_at hl 0 rfl) ?_
  refine lv_aload_n hx hb de_U_init_28 rfl (lv_at hl 1 rfl) ?_
  refine dk_calli (va_runV (As := []) (rest := [.ref h]) ⟨hx, hb, hml, hown, hts⟩ (c_R_size l G w_366 s0 u0 u1 cap L hs4) (cwV 0 hts (wd_gV (C := "RunKeeper$Row") wi_147 wi_178 wi_145 wi_146 wi_2) rfl rfl rfl (by decide +kernel) ⟨Nat.le_of_ble_eq_true rfl, Nat.le_of_ble_eq_true rfl⟩) (dk_preV (kn_R, kt_R, 2) hE hP hS h_370 rfl) rfl rfl hl.1 rfl (lv_room (Nat.le_of_ble_eq_true rfl)) de_U_init_29 ⟨(by first | exact Nat.le_of_ble_eq_true rfl | (simp only [Nat.zero_add]; omega) | omega), (by first | exact Nat.le_of_ble_eq_true rfl | (simp only [Nat.zero_add]; omega) | omega)⟩) hS (fun r_373 w_371 H locs hq_372 hP hS => ?_)
  obtain ⟨hr_374, he_375⟩ := hq_372
  subst hr_374
  rw [he_375] at hP
  refine lv_bipush (v := nI 8) hx hb de_U_init_32 (by decide) ?_
  refine nx_iadd (a := L.length) (b := 8) hx hb de_U_init_34 ?_
  refine lv_iconst (v := nI 1) hx hb de_U_init_35 (by decide) ?_
  refine nx_isub (a := L.length + 8) (b := 1) hx hb (by omega) de_U_init_36 ?_
  refine lv_bipush (v := nI 8) hx hb de_U_init_37 (by decide) ?_
  refine nx_idiv (a := L.length + 8 - 1) (b := 8) hx hb (by omega) (by omega) (by omega) de_U_init_39 ?_
  rw [show (L.length + 8 - 1) / 8 = rn_w L from rfl]
  have hw0 : 0 < rn_w L := by unfold rn_w; omega
  have hw1 : rn_w L ≤ 100 := by unfold rn_w; omega
  have hw2 : rn_w L = (L.length + 7) / 8 := rfl
  refine dk_newa 62 1 (atype := .long) (ty := .long) (a0 := (rn_w L, .inr (.inl (fun _ => 0)))) (N' := (rn_w L)) hx hb (hts _ wi_207) rfl hK hP hS hE.2.2.2 rfl (fun U cA h => h) (fun cA => rfl) rfl (by omega) (by first | decide | (simp [componentBytes]; done) | (simp [componentBytes]; omega)) (by first | exact Nat.le_of_ble_eq_true rfl | (simp only [Nat.zero_add]; omega) | omega) (by first | exact Nat.le_of_ble_eq_true rfl | (simp only [Nat.zero_add]; omega) | omega) de_U_init_40 (fun q_376 H w_377 hn_379 hw_378 hP hS => ?_)
  have h_380 : w_377 q_376 = some (62, dk_cl G (rn_w L) (fun _ => 0)) := dk_here hw_378
  have h_381 : w_377 h = some (63, .inr (cx_U, [.ref q_345, .null])) := dk_keepN hw_378 hn_379 h_369
  have h_382 : w_377 s0 = some (u0, .inr (cx_R, [.ref ss, .int (nI L.length)])) := dk_keepN hw_378 hn_379 h_370
  have hf5 : dk_fr (fun t => t = 63) _ w_377 := (dk_fr.upN hn_379).eq hw_378
  refine dk_putF (a := h) (v := .ref q_376) (ty := (.array .long)) (C := kn_U) (T := kt_U) (N := 2) hx hb hts ki_U ky_U kk_U kd_U hown hK hP hS h_381 rfl 1 (by decide) (hts _ wi_201) (fun _ h9 => h9) rfl hnm rfl (by decide +kernel) rfl rfl (Nat.le_of_ble_eq_true rfl) de_U_init_42 (fun H locs w_383 hw_384 hP hS => ?_)
  have h_385 : w_383 h = some (63, .inr (cx_U, [.ref q_345, .ref q_376])) := dk_here hw_384
  have h_386 : w_383 s0 = some (u0, .inr (cx_R, [.ref ss, .int (nI L.length)])) := dk_keep hw_384 h_381 h_382 (by omega)
  have h_387 : w_383 q_376 = some (62, dk_cl G (rn_w L) (fun _ => 0)) := dk_keep hw_384 h_381 h_380 (by decide)
  refine lv_iconst (v := nI 0) hx hb de_U_init_45 (by decide) ?_
  refine lv_istore_n (lv' := [(2, .int (nI 0)), (0, .ref h), (1, .ref s0)]) hx hb de_U_init_46 rfl hl (by decide) rfl (fun ls hl => ?_)
  have hf6 : dk_fr (fun t => t = 63) w_377 w_383 := (dk_fr.up (T := fun t => t = 63) h_381 rfl).eq hw_384
  have hs5 := (hs4.fr hf5 (by decide) (by omega) (by omega)).fr hf6 (by decide) (by omega) (by omega)
  have hrw5 := (hrw3.fr hf5 (by decide) (by decide) (by decide)).fr hf6 (by decide) (by decide) (by decide)
  have hall : dk_fr (fun t => t = 63 ∨ t = 60 ∨ t = 61 ∨ t = 62) w w_383 := ((((((dk_fr.upN (T := (fun t => t = 63 ∨ t = 60 ∨ t = 61 ∨ t = 62)) hn_348).eq hw_347).tr (hfr1.mono (fun t z => Or.inr (Or.inl z)))).tr (hfr2.mono (fun t z => Or.inl z))).tr (hfr3.mono (fun t z => Or.inr (z.elim Or.inl (fun y => Or.inr (Or.inl y)))))).tr (hf5.mono (fun t z => Or.inl z))).tr (hf6.mono (fun t z => Or.inl z))
  have lp : ∀ (zk : Nat) (i : Nat) (g : Nat → Int64), L.length - i < zk → (i ≤ L.length) → (∀ b, bt_f g b = fl_s (64 * rn_w L) (L.take i) b) → ∀ (H : Heap) (locs : List Loc) (v : dk_H), v h = some (63, .inr (cx_U, [.ref q_345, .ref q_376])) → v q_376 = some (62, dk_cl G (rn_w L) g) → (rw_at G v s0 u0 u1 cap L) → (rw_at G v q_345 60 61 L.length L) → (dk_fr (fun t => t = 63 ∨ t = 60 ∨ t = 61 ∨ t = 62) w v) → dk_P G v H → dk_S G s.heap H locs → ∀ (ls : Array Slot), lv_has ls 3 [(0, .ref h), (1, .ref s0), (2, .int (nI i))] → W p l e (rm_U_init L.length) s m args below meth c H locs (0 + 1 + 0 + 1 + 0 + 0 + 1) (0 + 2 + 0 + L.length + 0 + 0 + (rn_w L)) Q (F0 m 47 ls []) := by
    intro zk
    induction zk with
    | zero =>
      intro i g hk
      exact absurd hk (by omega)
    | succ zk ih =>
      intro i g hk hi hg
      intro H locs v hh hfl hsv hrv hav hP hS
      intro ls hl
      obtain ⟨ss, fs, hsc, hss, hls, hcs, hfs⟩ := id hsv
      refine lv_iload_n hx hb de_U_init_47 rfl (lv_at hl 2 rfl) ?_
      refine lv_aload_n hx hb de_U_init_48 rfl (lv_at hl 1 rfl) ?_
      refine dk_calli (va_runV (As := []) (rest := [.int (nI i)]) ⟨hx, hb, hml, hown, hts⟩ (c_R_size l G v s0 u0 u1 cap L hsv) (cwV 0 hts (wd_gV (C := "RunKeeper$Row") wi_147 wi_178 wi_145 wi_146 wi_2) rfl rfl rfl (by decide +kernel) ⟨Nat.le_of_ble_eq_true rfl, Nat.le_of_ble_eq_true rfl⟩) (dk_preV (kn_R, kt_R, 2) hE hP hS hsc rfl) rfl rfl hl.1 rfl (lv_room (Nat.le_of_ble_eq_true rfl)) de_U_init_49 ⟨(by first | exact Nat.le_of_ble_eq_true rfl | (simp only [Nat.zero_add]; omega) | omega), (by first | exact Nat.le_of_ble_eq_true rfl | (simp only [Nat.zero_add]; omega) | omega)⟩) hS (fun r_390 w_388 H locs hq_389 hP hS => ?_)
      obtain ⟨hr_391, he_392⟩ := hq_389
      subst hr_391
      rw [he_392] at hP
      refine nx_icmp_ge (a := i) (b := L.length) (tgt := 73) hx hb (by omega) (by omega) de_U_init_52 (by decide) (fun c_393 => ?_) (fun c_393 => ?_)
      · rw [List.take_of_length_le c_393] at hg
        obtain ⟨sq, fq, hqc, hqs, hlq, hcq, hfq⟩ := hrv
        have hz := rn_freeze hh hqc hqs hfl hav hfq
        obtain ⟨v2, hz1, hz2, hz3⟩ := hz
        have hP := hz1 G H hP
        exact dk_vret hQ hx hb hr hlocks hP hS (by omega) (by omega) (⟨⟨q_345, q_376, g, hz2.1, ⟨sq, fq, hz2.2.1, hz2.2.2.1, Nat.le_refl _, by omega, hz2.2.2.2.2⟩, hz2.2.2.2.1, fun b _ => hg b, hL0, hL6, hok⟩, hz3⟩) de_U_init_73
      · refine lv_aload_n hx hb de_U_init_55 rfl (lv_at hl 0 rfl) ?_
        refine dk_get (a := h) (v := .ref q_376) (C := kn_U) (T := kt_U) (N := 2) hx hb hts ki_U hown hK hP hh rfl 1 (by decide) (hts _ wi_201) (fun _ h9 => h9) rfl de_U_init_56 ?_
        refine lv_aload_n hx hb de_U_init_59 rfl (lv_at hl 1 rfl) ?_
        refine lv_iload_n hx hb de_U_init_60 rfl (lv_at hl 2 rfl) ?_
        obtain ⟨x, hx9⟩ := ge_at c_393
        obtain ⟨a9, ha9, ha8⟩ := hfs _ _ hx9
        refine dk_callq (va_runV (As := [.int (nI i)]) (rest := [.ref q_376]) ⟨hx, hb, hml, hown, hts⟩ (c_R_at l G v s0 u0 u1 cap L hsv (nI i)) (cwV 1 hts (wd_gV (C := "RunKeeper$Row") wi_191 wi_188 wi_189 wi_190 wi_2) rfl rfl rfl (by decide +kernel) ⟨Nat.le_of_ble_eq_true rfl, Nat.le_of_ble_eq_true rfl⟩) (dk_preV (kn_R, kt_R, 2) hE hP hS hsc rfl) rfl rfl hl.1 rfl (lv_room (Nat.le_of_ble_eq_true rfl)) de_U_init_61 ⟨(by first | exact Nat.le_of_ble_eq_true rfl | (simp only [Nat.zero_add]; omega) | omega), (by first | exact Nat.le_of_ble_eq_true rfl | (simp only [Nat.zero_add]; omega) | omega)⟩) hS (fun r_396 w_394 H locs hq_395 hP hS => ?_)
        obtain ⟨a1, ha1, ha2⟩ := at_in hq_395.2 (by omega) (by omega) hx9
        rw [hq_395.1] at hP
        subst ha1
        refine dk_callv (va_runS (As := [.ref q_376, .ref a1]) (rest := []) ⟨hx, hb, hml, hown, hts⟩ (c_U_setBits l G v q_376 62 (rn_w L) a1 g x hfl (by decide) hw0 hw1 ha2) (va_cwS 2 hts (wd_gS wi_194 wi_192 wi_193 wi_15) rfl rfl rfl (by decide +kernel) ⟨Nat.le_of_ble_eq_true rfl, Nat.le_of_ble_eq_true rfl⟩) (dk_preS hE hP hS) rfl rfl hl.1 rfl (lv_room (Nat.le_of_ble_eq_true rfl)) de_U_init_64 ⟨(by first | exact Nat.le_of_ble_eq_true rfl | (simp only [Nat.zero_add]; omega) | omega), (by first | exact Nat.le_of_ble_eq_true rfl | (simp only [Nat.zero_add]; omega) | omega)⟩) hS (fun w_397 H locs hq_398 hP hS => ?_)
        obtain ⟨g2, hg1, hg2⟩ := hq_398
        have hf9 : dk_fr (fun t => t = 62) v w_397 := (dk_fr.up (T := fun t => t = 62) hfl rfl).eq hg1
        refine lv_iinc (v := nI (i + 1)) (lv' := [(2, .int (nI (i + 1))), (0, .ref h), (1, .ref s0)]) hx hb de_U_init_67 hl (k := 2) rfl (nx_inc i) (by decide) rfl (fun ls hl => ?_)
        refine lv_goto (tgt := 47) hx hb de_U_init_70 (by decide) ?_
        exact ih (i + 1) g2 (by omega) (by omega) (fun b => by rw [hg2 b, hg b, ta_s hx9]; simp [fl_s, List.any_append, Nat.mul_comm]) _ _ _ (hf9 _ _ _ hh (by decide)) (dk_here hg1) (hsv.fr hf9 (by decide) (by omega) (by omega)) (hrv.fr hf9 (by decide) (by decide) (by decide)) (hav.tr (hf9.mono (fun t z => Or.inr (Or.inr (Or.inr z))))) hP hS _ (lv_sub hl [1, 2, 0] rfl)
  exact lp (L.length + 1) 0 (fun _ => 0) (by omega) (Nat.zero_le _) (fun b => by rw [bt_0]; rfl) _ _ _ h_385 h_387 hs5 hrw5 hall hP hS _ (lv_sub hl [1, 2, 0] rfl)
end
section
/-! LEVELS: runs, the latest last. Tags tb, tb + 1, tb + 2. -/
def le_ct : List (List en_T) → Nat
  | [] => 0
  | R :: Rs => R.length + le_ct Rs
theorem le_snoc (Rs : List (List en_T)) (R : List en_T) : le_ct (Rs ++ [R]) = le_ct Rs + R.length := by
  induction Rs with
  | nil => simp [le_ct]
  | cons A Rs ih => simp only [List.cons_append, le_ct, ih]; omega
theorem le_flat (Rs : List (List en_T)) : Rs.flatten.length = le_ct Rs := by
  induction Rs with
  | nil => rfl
  | cons A Rs ih => simp only [List.flatten_cons, List.length_append, le_ct, ih]
theorem le_tk {Rs : List (List en_T)} {i : Nat} : le_ct (Rs.take i) ≤ le_ct Rs := by
  induction Rs generalizing i with
  | nil => simp [le_ct]
  | cons A Rs ih =>
    cases i with
    | zero => simp [le_ct]
    | succ i => simp only [List.take_succ_cons, le_ct]; have := @ih i; omega
theorem le_mem {Rs : List (List en_T)} {i : Nat} {R : List en_T} (h : Rs[i]? = some R) : le_ct (Rs.take i) + R.length ≤ le_ct Rs := by
  have e := ta_s h
  have h1 := @le_tk Rs (i + 1)
  rw [e, le_snoc] at h1
  exact h1
def le_rs (G : dk_G) (w : dk_H) (xs : List Nat) (Rs : List (List en_T)) : Prop := xs.length = Rs.length ∧ ∀ (i x : Nat) (R : List en_T), xs[i]? = some x → Rs[i]? = some R → rn_at G w x R
theorem le_rs.fr {G : dk_G} {T : Nat → Prop} {w w1 : dk_H} {xs : List Nat} {Rs : List (List en_T)} (H : le_rs G w xs Rs) (hf : dk_fr T w w1) (h0 : ¬ T 0) : le_rs G w1 xs Rs := ⟨H.1, fun i x R h1 h2 => (H.2 i x R h1 h2).fr hf h0⟩
theorem le_rs.el {G : dk_G} {w : dk_H} {xs : List Nat} {Rs : List (List en_T)} (H : le_rs G w xs Rs) : al_el w xs := by
  intro x hx
  obtain ⟨i, hi⟩ := List.getElem?_of_mem hx
  have hl := (List.getElem?_eq_some_iff.mp hi).1
  obtain ⟨R, hR⟩ := ge_at (L := Rs) (i := i) (by rw [← H.1]; exact hl)
  obtain ⟨r, fl, f, g, -⟩ := H.2 i x R hi hR
  exact ⟨_, g⟩
theorem le_rs.snoc {G : dk_G} {w : dk_H} {xs : List Nat} {Rs : List (List en_T)} {x : Nat} {R : List en_T} (H : le_rs G w xs Rs) (hx : rn_at G w x R) : le_rs G w (xs ++ [x]) (Rs ++ [R]) := by
  refine ⟨by simp [H.1], fun i y S h1 h2 => ?_⟩
  by_cases hi : i < xs.length
  · rw [List.getElem?_append_left hi] at h1
    rw [List.getElem?_append_left (by rw [← H.1]; exact hi)] at h2
    exact H.2 i y S h1 h2
  · rw [List.getElem?_append_right (by omega)] at h1
    rw [List.getElem?_append_right (by rw [← H.1]; omega), ← H.1] at h2
    have hz : i - xs.length < 1 := (List.getElem?_eq_some_iff.mp h1).1
    rw [show i - xs.length = 0 by omega] at h1 h2
    cases h1
    cases h2
    exact hx
def le_at (G : dk_G) (w : dk_H) (h tb : Nat) (Rs : List (List en_T)) : Prop := ∃ (al : Nat) (xs : List Nat), w h = some (tb, .inr (cx_V, [.ref al, .int (nI (le_ct Rs))])) ∧ al_at G w al (tb + 1) (tb + 2) xs ∧ le_rs G w xs Rs ∧ Rs.length ≤ 600 ∧ le_ct Rs ≤ 600
theorem le_at.fr {G : dk_G} {T : Nat → Prop} {w w1 : dk_H} {h tb : Nat} {Rs : List (List en_T)} (H : le_at G w h tb Rs) (hf : dk_fr T w w1) (h0 : ¬ T 0) (h1 : ¬ T tb) (h2 : ¬ T (tb + 1)) (h3 : ¬ T (tb + 2)) : le_at G w1 h tb Rs := by
  obtain ⟨al, xs, g1, g2, g3, g4⟩ := H
  exact ⟨al, xs, hf _ _ _ g1 h1, g2.fr hf h2 h3, g3.fr hf h0, g4⟩
def le_T (tb : Nat) : Nat → Prop := fun t => t = tb ∨ t = tb + 1 ∨ t = tb + 2
/-- the run that an int names -/
def rn_q (G : dk_G) (w : dk_H) (Rs : List (List en_T)) (k : Int32) (r : Option Nat) : Prop := (r = none ∧ ∀ (j : Nat), k = nI j → j < 2 ^ 31 → Rs.length ≤ j) ∨ ∃ (j : Nat) (R : List en_T) (a : Nat), k = nI j ∧ Rs[j]? = some R ∧ r = some a ∧ rn_at G w a R
end
section
/-! RunKeeper$Level, walked (printed by gen/c_level.py) -/
abbrev rm_V_init : Room := { frames := 4, cells := 1, slots := 3, locals := 80 }
set_option maxHeartbeats 4000000 in
set_option maxRecDepth 100000 in
theorem c_V_init (l : Launch) (G : dk_G) (w : dk_H) (h tb : Nat) (htb : tb ≠ 0) (hh : w h = some (tb, .inr (cx_V, [.null, .int 0]))) : dk_Mv l my_V_init (wd_c my_V_init mb_V_init 1 none) rm_V_init G w [.ref h] (fun w1 => le_at G w1 h tb [] ∧ dk_fr (le_T tb) w w1) 1 3 := by
  refine dk_enter (lv := [(0, .ref h)]) (by decide) (Nat.le_of_ble_eq_true rfl) rfl (fun p e s m args below meth c ls Q hQ C hP hS hl => ?_)
  obtain ⟨hx, hb, hr, hml, hlocks, hown, hnm, hts, hE⟩ := C
  have hK := hE.1
  have hN := hE.2.1
  refine lv_aload_n hx hb de_V_init_0 rfl (lv_at hl 0 rfl) ?_
  refine W.objInit hx hb hown (hts _ wi_69) (hts _ wi_30) (hts _ wi_31) rfl (by rw [hml]; exact hl.1) rfl de_V_init_1 (Nat.le_of_ble_eq_true rfl) (Nat.le_of_ble_eq_true rfl) ?_
  refine W.eq (g2 := F0 m 4 ls []) rfl ?_
  refine lv_aload_n hx hb de_V_init_4 rfl (lv_at hl 0 rfl) ?_
  refine dk_new (tb + 1) (fs := [.int 0, .null, .int 0]) (C := kn_A) (T := kt_A) (N := 3) (ci := cx_A) hx hb hts ki_A ky_A kk_A hown (hts _ wi_70) (hts _ wi_71) (hts _ wi_7) hK hP hS hE.2.2.2 rfl (fun j hj => by match j, hj with | 0, _ => rfl | 1, _ => rfl | 2, _ => rfl | j + 3, h => exact absurd h (by omega)) (by first | exact Nat.le_of_ble_eq_true rfl | (simp only [Nat.zero_add]; omega) | omega) (by first | exact Nat.le_of_ble_eq_true rfl | (simp only [Nat.zero_add]; omega) | omega) de_V_init_5 (fun q_400 H w_401 hn_403 hw_402 hP hS => ?_)
  have h_404 : w_401 q_400 = some ((tb + 1), .inr (cx_A, [.int 0, .null, .int 0])) := dk_here hw_402
  have h_405 : w_401 h = some (tb, .inr (cx_V, [.null, .int 0])) := dk_keepN hw_402 hn_403 hh
  refine lv_dup hx hb de_V_init_8 rfl ?_
  refine dk_callv (va_runI (As := []) (rest := [.ref q_400, .ref h]) ⟨hx, hb, hml, hown, hts⟩ (c_A_init l G w_401 q_400 (tb + 1) (tb + 2) h_404) (cwI 0 hts (wd_g wi_74) rfl rfl rfl (hts _ wi_7) (hts _ wi_72) (hts _ wi_73) rfl (by decide +kernel) ⟨Nat.le_of_ble_eq_true rfl, Nat.le_of_ble_eq_true rfl⟩) (dk_preS hE hP hS) rfl rfl hl.1 rfl (lv_room (Nat.le_of_ble_eq_true rfl)) de_V_init_9 ⟨(by first | exact Nat.le_of_ble_eq_true rfl | (simp only [Nat.zero_add]; omega) | omega), (by first | exact Nat.le_of_ble_eq_true rfl | (simp only [Nat.zero_add]; omega) | omega)⟩) hS (fun w_406 H locs hq_407 hP hS => ?_)
  obtain ⟨hal, hf1⟩ := hq_407
  have h_409 : w_406 h = some (tb, .inr (cx_V, [.null, .int 0])) := hf1 _ _ _ h_405 (by omega)
  refine dk_putF (a := h) (v := .ref q_400) (ty := (.object "java/util/ArrayList")) (C := kn_V) (T := kt_V) (N := 2) hx hb hts ki_V ky_V kk_V kd_V hown hK hP hS h_409 rfl 0 (by decide) (hts _ wi_96) (fun _ h9 => h9) rfl hnm rfl (by decide +kernel) rfl rfl (Nat.le_of_ble_eq_true rfl) de_V_init_12 (fun H locs w_410 hw_411 hP hS => ?_)
  have h_412 : w_410 h = some (tb, .inr (cx_V, [.ref q_400, .int 0])) := dk_here hw_411
  refine lv_aload_n hx hb de_V_init_15 rfl (lv_at hl 0 rfl) ?_
  refine lv_iconst (v := nI 0) hx hb de_V_init_16 (by decide) ?_
  refine dk_put (a := h) (v := .int (nI 0)) (ty := .int) (C := kn_V) (T := kt_V) (N := 2) hx hb hts ki_V ky_V kk_V kd_V hown hK hP hS h_412 rfl 1 (by decide) (hts _ wi_97) (fun _ h9 => h9) rfl (by decide +kernel) rfl rfl (Nat.le_of_ble_eq_true rfl) de_V_init_17 (fun H locs w_413 hw_414 hP hS => ?_)
  have h_415 : w_413 h = some (tb, .inr (cx_V, [.ref q_400, .int (nI 0)])) := dk_here hw_414
  have hf2 : dk_fr (fun t => t = tb) w_406 w_413 := ((dk_fr.up (T := fun t => t = tb) h_409 rfl).eq hw_411).tr ((dk_fr.up (T := fun t => t = tb) h_412 rfl).eq hw_414)
  exact dk_vret hQ hx hb hr hlocks hP hS (by omega) (by omega) (⟨⟨q_400, [], h_415, hal.fr hf2 (by omega) (by omega), ⟨rfl, fun i x R z => by simp at z⟩, by simp, by simp [le_ct]⟩, ((dk_fr.upN (T := le_T tb) hn_403).eq hw_402).tr ((hf1.mono (fun t z => Or.inr (Or.inl z))).tr (hf2.mono (fun t z => Or.inl z)))⟩) de_V_init_20
abbrev rm_V_entryCount : Room := { frames := 0, cells := 0, slots := 0, locals := 0 }
set_option maxHeartbeats 4000000 in
set_option maxRecDepth 100000 in
theorem c_V_entryCount (l : Launch) (G : dk_G) (w : dk_H) (h tb : Nat) (Rs : List (List en_T)) (hl0 : le_at G w h tb Rs) : dk_Mi l my_V_entryCount (wd_c my_V_entryCount mb_V_entryCount 1 (some .int)) rm_V_entryCount G w [.ref h] (fun r w1 => r = nI (le_ct Rs) ∧ w1 = w) 0 0 := by
  obtain ⟨al, xs, hh, hal, hrs, hn6, hc6⟩ := hl0
  refine dk_enter (lv := [(0, .ref h)]) (by decide) (Nat.le_of_ble_eq_true rfl) rfl (fun p e s m args below meth c ls Q hQ C hP hS hl => ?_)
  obtain ⟨hx, hb, hr, hml, hlocks, hown, hnm, hts, hE⟩ := C
  have hK := hE.1
  have hN := hE.2.1
  obtain ⟨mo, ed, halc, -⟩ := id hal
  refine lv_aload_n hx hb de_V_entryCount_0 rfl (lv_at hl 0 rfl) ?_
  refine dk_get (a := h) (v := .int (nI (le_ct Rs))) (C := kn_V) (T := kt_V) (N := 2) hx hb hts ki_V hown hK hP hh rfl 1 (by decide) (hts _ wi_97) (fun _ h9 => h9) rfl de_V_entryCount_1 ?_
  exact dk_iret hQ hx hb hr hlocks hP hS (Nat.le_refl _) (Nat.le_refl _) (⟨rfl, rfl⟩) de_V_entryCount_4
abbrev rm_V_runCount : Room := { frames := 1, cells := 0, slots := 0, locals := 20 }
set_option maxHeartbeats 4000000 in
set_option maxRecDepth 100000 in
theorem c_V_runCount (l : Launch) (G : dk_G) (w : dk_H) (h tb : Nat) (Rs : List (List en_T)) (hl0 : le_at G w h tb Rs) : dk_Mi l my_V_runCount (wd_c my_V_runCount mb_V_runCount 1 (some .int)) rm_V_runCount G w [.ref h] (fun r w1 => r = nI Rs.length ∧ w1 = w) 0 0 := by
  obtain ⟨al, xs, hh, hal, hrs, hn6, hc6⟩ := hl0
  refine dk_enter (lv := [(0, .ref h)]) (by decide) (Nat.le_of_ble_eq_true rfl) rfl (fun p e s m args below meth c ls Q hQ C hP hS hl => ?_)
  obtain ⟨hx, hb, hr, hml, hlocks, hown, hnm, hts, hE⟩ := C
  have hK := hE.1
  have hN := hE.2.1
  obtain ⟨mo, ed, halc, -⟩ := id hal
  refine lv_aload_n hx hb de_V_runCount_0 rfl (lv_at hl 0 rfl) ?_
  refine dk_get (a := h) (v := .ref al) (C := kn_V) (T := kt_V) (N := 2) hx hb hts ki_V hown hK hP hh rfl 0 (by decide) (hts _ wi_96) (fun _ h9 => h9) rfl de_V_runCount_1 ?_
  refine dk_calli (va_runV (As := []) (rest := []) ⟨hx, hb, hml, hown, hts⟩ (c_A_size l G w al (tb + 1) (tb + 2) xs hal) (cwV 0 hts (wd_gV (C := "java/util/ArrayList") wi_304 wi_301 wi_302 wi_303 wi_7) rfl rfl rfl (by decide +kernel) ⟨Nat.le_of_ble_eq_true rfl, Nat.le_of_ble_eq_true rfl⟩) (dk_preV (kn_A, kt_A, 3) hE hP hS halc rfl) rfl rfl hl.1 rfl (lv_room (Nat.le_of_ble_eq_true rfl)) de_V_runCount_4 ⟨(by first | exact Nat.le_of_ble_eq_true rfl | (simp only [Nat.zero_add]; omega) | omega), (by first | exact Nat.le_of_ble_eq_true rfl | (simp only [Nat.zero_add]; omega) | omega)⟩) hS (fun r_418 w_416 H locs hq_417 hP hS => ?_)
  exact dk_iret hQ hx hb hr hlocks hP hS (Nat.le_refl _) (Nat.le_refl _) (⟨by rw [← hrs.1]; exact hq_417.1, hq_417.2⟩) de_V_runCount_7
abbrev rm_V_runAt : Room := { frames := 3, cells := 0, slots := 0, locals := 64 }
set_option maxHeartbeats 4000000 in
set_option maxRecDepth 100000 in
theorem c_V_runAt (l : Launch) (G : dk_G) (w : dk_H) (h tb : Nat) (Rs : List (List en_T)) (hl0 : le_at G w h tb Rs) (k : Int32) : dk_Mq l my_V_runAt (wd_c my_V_runAt mb_V_runAt 2 (some (.object "RunKeeper$Run"))) rm_V_runAt G w [.ref h, .int k] (fun r w1 => rn_q G w Rs k r ∧ w1 = w) 0 0 := by
  obtain ⟨al, xs, hh, hal, hrs, hn6, hc6⟩ := hl0
  refine dk_enter (lv := [(0, .ref h), (1, .int k)]) (by decide) (Nat.le_of_ble_eq_true rfl) rfl (fun p e s m args below meth c ls Q hQ C hP hS hl => ?_)
  obtain ⟨hx, hb, hr, hml, hlocks, hown, hnm, hts, hE⟩ := C
  have hK := hE.1
  have hN := hE.2.1
  obtain ⟨mo, ed, halc, -⟩ := id hal
  refine lv_iload_n hx hb de_V_runAt_0 rfl (lv_at hl 1 rfl) ?_
  refine lv_if_lt (tgt := 29) hx hb de_V_runAt_1 (by decide) (fun c_419 => ?_) (fun c_419 => ?_)
  · refine lv_null hx hb de_V_runAt_29 ?_
    exact dk_aret (r := none) hQ hx hb hr (Or.inl ⟨_, rfl⟩) hlocks hP hS (Nat.le_refl _) (Nat.le_refl _) (⟨Or.inl ⟨rfl, fun j hj h3 => absurd c_419 (by rw [hj]; exact nI_pos h3)⟩, rfl⟩) de_V_runAt_30
  · obtain ⟨j0, hj0, rfl⟩ := nI_of c_419
    have hxl := hrs.1
    refine lv_iload_n hx hb de_V_runAt_4 rfl (lv_at hl 1 rfl) ?_
    refine lv_aload_n hx hb de_V_runAt_5 rfl (lv_at hl 0 rfl) ?_
    refine dk_get (a := h) (v := .ref al) (C := kn_V) (T := kt_V) (N := 2) hx hb hts ki_V hown hK hP hh rfl 0 (by decide) (hts _ wi_96) (fun _ h9 => h9) rfl de_V_runAt_6 ?_
    refine dk_calli (va_runV (As := []) (rest := [.int (nI j0)]) ⟨hx, hb, hml, hown, hts⟩ (c_A_size l G w al (tb + 1) (tb + 2) xs hal) (cwV 0 hts (wd_gV (C := "java/util/ArrayList") wi_304 wi_301 wi_302 wi_303 wi_7) rfl rfl rfl (by decide +kernel) ⟨Nat.le_of_ble_eq_true rfl, Nat.le_of_ble_eq_true rfl⟩) (dk_preV (kn_A, kt_A, 3) hE hP hS halc rfl) rfl rfl hl.1 rfl (lv_room (Nat.le_of_ble_eq_true rfl)) de_V_runAt_9 ⟨(by first | exact Nat.le_of_ble_eq_true rfl | (simp only [Nat.zero_add]; omega) | omega), (by first | exact Nat.le_of_ble_eq_true rfl | (simp only [Nat.zero_add]; omega) | omega)⟩) hS (fun r_422 w_420 H locs hq_421 hP hS => ?_)
    obtain ⟨hr_423, he_424⟩ := hq_421
    subst hr_423
    rw [he_424] at hP
    refine nx_icmp_ge (a := j0) (b := xs.length) (tgt := 29) hx hb (by omega) (by omega) de_V_runAt_12 (by decide) (fun c_425 => ?_) (fun c_425 => ?_)
    · refine lv_null hx hb de_V_runAt_29 ?_
      exact dk_aret (r := none) hQ hx hb hr (Or.inl ⟨_, rfl⟩) hlocks hP hS (Nat.le_refl _) (Nat.le_refl _) (⟨Or.inl ⟨rfl, fun j hj h3 => by have := (nI_eq hj0 h3).mp hj; omega⟩, rfl⟩) de_V_runAt_30
    · refine lv_aload_n hx hb de_V_runAt_15 rfl (lv_at hl 0 rfl) ?_
      refine dk_get (a := h) (v := .ref al) (C := kn_V) (T := kt_V) (N := 2) hx hb hts ki_V hown hK hP hh rfl 0 (by decide) (hts _ wi_96) (fun _ h9 => h9) rfl de_V_runAt_16 ?_
      refine lv_iload_n hx hb de_V_runAt_19 rfl (lv_at hl 1 rfl) ?_
      obtain ⟨x9, hx9⟩ := ge_at c_425
      obtain ⟨R9, hR9⟩ := ge_at (L := Rs) (i := j0) (by omega)
      have hrn := hrs.2 j0 x9 R9 hx9 hR9
      obtain ⟨r9, fl9, f9, hrc, -⟩ := id hrn
      refine dk_callq (va_runV (As := [.int (nI j0)]) (rest := []) ⟨hx, hb, hml, hown, hts⟩ (c_A_get l G w al (tb + 1) (tb + 2) xs hal j0 x9 hx9 (by omega)) (cwV 1 hts (wd_gV (C := "java/util/ArrayList") wi_308 wi_305 wi_306 wi_307 wi_7) rfl rfl rfl (by decide +kernel) ⟨Nat.le_of_ble_eq_true rfl, Nat.le_of_ble_eq_true rfl⟩) (dk_preV (kn_A, kt_A, 3) hE hP hS halc rfl) rfl rfl hl.1 rfl (lv_room (Nat.le_of_ble_eq_true rfl)) de_V_runAt_20 ⟨(by first | exact Nat.le_of_ble_eq_true rfl | (simp only [Nat.zero_add]; omega) | omega), (by first | exact Nat.le_of_ble_eq_true rfl | (simp only [Nat.zero_add]; omega) | omega)⟩) hS (fun r_428 w_426 H locs hq_427 hP hS => ?_)
      obtain ⟨hr8, hw8⟩ := hq_427
      subst hr8
      rw [hw8] at hP
      refine va_castY (a := x9) (C := "RunKeeper$Run") hx hb hown (hts _ wi_319) (hN _ (dn_m 917 (by decide +kernel) rfl)) (dk_recv (kn_U, kt_U, 2) hK hP hrc rfl) de_V_runAt_23 ?_
      refine lv_goto (tgt := 30) hx hb de_V_runAt_26 (by decide) ?_
      exact dk_aret (r := some x9) hQ hx hb hr (Or.inl ⟨_, rfl⟩) hlocks hP hS (Nat.le_refl _) (Nat.le_refl _) (⟨Or.inr ⟨j0, R9, x9, rfl, hR9, rfl, hrn⟩, rfl⟩) de_V_runAt_30
abbrev rm_V_add : Room := { frames := 7, cells := 1, slots := 900, locals := 171 }
set_option maxHeartbeats 4000000 in
set_option maxRecDepth 100000 in
theorem c_V_add (l : Launch) (G : dk_G) (w : dk_H) (h tb : Nat) (Rs : List (List en_T)) (hl0 : le_at G w h tb Rs) (htb : tb ≠ 0) (a : Nat) (R : List en_T) (ha : rn_at G w a R) (hb6 : Rs.length < 600) (hc7 : le_ct Rs + R.length ≤ 600) : dk_Mv l my_V_add (wd_c my_V_add mb_V_add 2 none) rm_V_add G w [.ref h, .ref a] (fun w1 => le_at G w1 h tb (Rs ++ [R]) ∧ dk_fr (le_T tb) w w1) 1 900 := by
  obtain ⟨al, xs, hh, hal, hrs, hn6, hc6⟩ := hl0
  obtain ⟨r9, fl9, f9, hrc, hrw, -⟩ := id ha
  refine dk_enter (lv := [(0, .ref h), (1, .ref a)]) (by decide) (Nat.le_of_ble_eq_true rfl) rfl (fun p e s m args below meth c ls Q hQ C hP hS hl => ?_)
  obtain ⟨hx, hb, hr, hml, hlocks, hown, hnm, hts, hE⟩ := C
  have hK := hE.1
  have hN := hE.2.1
  obtain ⟨mo, ed, halc, -⟩ := id hal
  refine lv_aload_n hx hb de_V_add_0 rfl (lv_at hl 0 rfl) ?_
  refine dk_get (a := h) (v := .ref al) (C := kn_V) (T := kt_V) (N := 2) hx hb hts ki_V hown hK hP hh rfl 0 (by decide) (hts _ wi_96) (fun _ h9 => h9) rfl de_V_add_1 ?_
  refine lv_aload_n hx hb de_V_add_4 rfl (lv_at hl 1 rfl) ?_
  refine dk_calli (va_runV (As := [.ref a]) (rest := []) ⟨hx, hb, hml, hown, hts⟩ (c_A_add l G w al (tb + 1) (tb + 2) xs hal ⟨by omega, by omega, by omega⟩ (by have := hrs.1; omega) hrs.el a _ hrc) (cwV 1 hts (wd_gV (C := "java/util/ArrayList") wi_215 wi_212 wi_213 wi_214 wi_7) rfl rfl rfl (by decide +kernel) ⟨Nat.le_of_ble_eq_true rfl, Nat.le_of_ble_eq_true rfl⟩) (dk_preV (kn_A, kt_A, 3) hE hP hS halc rfl) rfl rfl hl.1 rfl (lv_room (Nat.le_of_ble_eq_true rfl)) de_V_add_5 ⟨(by first | exact Nat.le_of_ble_eq_true rfl | (simp only [Nat.zero_add]; omega) | omega), (by first | exact Nat.le_of_ble_eq_true rfl | (simp only [Nat.zero_add]; omega) | omega)⟩) hS (fun r_431 w_429 H locs hq_430 hP hS => ?_)
  obtain ⟨hal2, hf1⟩ := hq_430
  have h_432 : w_429 h = some (tb, .inr (cx_V, [.ref al, .int (nI (le_ct Rs))])) := hf1 _ _ _ hh (by omega)
  have h_433 : w_429 a = some (0, .inr (cx_U, [.ref r9, .ref fl9])) := hf1 _ _ _ hrc (by omega)
  have ha2 := ha.fr hf1 (by omega)
  have hrw2 := hrw.fr hf1 (by omega) (by omega) (by omega)
  obtain ⟨sl9, g9, hrc2, -⟩ := id hrw2
  refine lv_pop hx hb de_V_add_8 rfl ?_
  refine lv_aload_n hx hb de_V_add_9 rfl (lv_at hl 0 rfl) ?_
  refine lv_dup hx hb de_V_add_10 rfl ?_
  refine dk_get (a := h) (v := .int (nI (le_ct Rs))) (C := kn_V) (T := kt_V) (N := 2) hx hb hts ki_V hown hK hP h_432 rfl 1 (by decide) (hts _ wi_97) (fun _ h9 => h9) rfl de_V_add_11 ?_
  refine lv_aload_n hx hb de_V_add_14 rfl (lv_at hl 1 rfl) ?_
  refine dk_callq (va_runV (As := []) (rest := [.int (nI (le_ct Rs)), .ref h]) ⟨hx, hb, hml, hown, hts⟩ (c_U_entries l G w_429 a 0 r9 fl9 h_433) (cwV 0 hts (wd_gV (C := "RunKeeper$Run") wi_274 wi_271 wi_272 wi_273 wi_15) rfl rfl rfl (by decide +kernel) ⟨Nat.le_of_ble_eq_true rfl, Nat.le_of_ble_eq_true rfl⟩) (dk_preV (kn_U, kt_U, 2) hE hP hS h_433 rfl) rfl rfl hl.1 rfl (lv_room (Nat.le_of_ble_eq_true rfl)) de_V_add_15 ⟨(by first | exact Nat.le_of_ble_eq_true rfl | (simp only [Nat.zero_add]; omega) | omega), (by first | exact Nat.le_of_ble_eq_true rfl | (simp only [Nat.zero_add]; omega) | omega)⟩) hS (fun r_436 w_434 H locs hq_435 hP hS => ?_)
  obtain ⟨hr8, hw8⟩ := hq_435
  subst hr8
  rw [hw8] at hP
  refine dk_calli (va_runV (As := []) (rest := [.int (nI (le_ct Rs)), .ref h]) ⟨hx, hb, hml, hown, hts⟩ (c_R_size l G w_429 r9 0 0 R.length R hrw2) (cwV 0 hts (wd_gV (C := "RunKeeper$Row") wi_147 wi_275 wi_145 wi_146 wi_2) rfl rfl rfl (by decide +kernel) ⟨Nat.le_of_ble_eq_true rfl, Nat.le_of_ble_eq_true rfl⟩) (dk_preV (kn_R, kt_R, 2) hE hP hS hrc2 rfl) rfl rfl hl.1 rfl (lv_room (Nat.le_of_ble_eq_true rfl)) de_V_add_18 ⟨(by first | exact Nat.le_of_ble_eq_true rfl | (simp only [Nat.zero_add]; omega) | omega), (by first | exact Nat.le_of_ble_eq_true rfl | (simp only [Nat.zero_add]; omega) | omega)⟩) hS (fun r_439 w_437 H locs hq_438 hP hS => ?_)
  obtain ⟨hr_440, he_441⟩ := hq_438
  subst hr_440
  rw [he_441] at hP
  refine nx_iadd (a := le_ct Rs) (b := R.length) hx hb de_V_add_21 ?_
  refine dk_put (a := h) (v := .int (nI (le_ct Rs + R.length))) (ty := .int) (C := kn_V) (T := kt_V) (N := 2) hx hb hts ki_V ky_V kk_V kd_V hown hK hP hS h_432 rfl 1 (by decide) (hts _ wi_97) (fun _ h9 => h9) rfl (by decide +kernel) rfl rfl (Nat.le_of_ble_eq_true rfl) de_V_add_22 (fun H locs w_442 hw_443 hP hS => ?_)
  have h_444 : w_442 h = some (tb, .inr (cx_V, [.ref al, .int (nI (le_ct Rs + R.length))])) := dk_here hw_443
  have h_445 : w_442 a = some (0, .inr (cx_U, [.ref r9, .ref fl9])) := dk_keep hw_443 h_432 h_433 (by omega)
  have h_446 : w_442 r9 = some (0, .inr (cx_R, [.ref sl9, .int (nI R.length)])) := dk_keep hw_443 h_432 hrc2 (by omega)
  have hf2 : dk_fr (fun t => t = tb) w_429 w_442 := (dk_fr.up (T := fun t => t = tb) h_432 rfl).eq hw_443
  exact dk_vret hQ hx hb hr hlocks hP hS (by omega) (by omega) (⟨⟨al, xs ++ [a], by rw [le_snoc]; exact h_444, hal2.fr hf2 (by omega) (by omega), ((hrs.fr hf1 (by omega)).snoc ha2).fr hf2 (by omega), by simp; omega, by rw [le_snoc]; omega⟩, (hf1.mono (fun t z => Or.inr z)).tr (hf2.mono (fun t z => Or.inl z))⟩) de_V_add_25
abbrev rm_V_clear : Room := { frames := 1, cells := 0, slots := 0, locals := 23 }
set_option maxHeartbeats 4000000 in
set_option maxRecDepth 100000 in
theorem c_V_clear (l : Launch) (G : dk_G) (w : dk_H) (h tb : Nat) (Rs : List (List en_T)) (hl0 : le_at G w h tb Rs) (htb : tb ≠ 0) : dk_Mv l my_V_clear (wd_c my_V_clear mb_V_clear 1 none) rm_V_clear G w [.ref h] (fun w1 => le_at G w1 h tb [] ∧ dk_fr (le_T tb) w w1) 0 0 := by
  obtain ⟨al, xs, hh, hal, hrs, hn6, hc6⟩ := hl0
  refine dk_enter (lv := [(0, .ref h)]) (by decide) (Nat.le_of_ble_eq_true rfl) rfl (fun p e s m args below meth c ls Q hQ C hP hS hl => ?_)
  obtain ⟨hx, hb, hr, hml, hlocks, hown, hnm, hts, hE⟩ := C
  have hK := hE.1
  have hN := hE.2.1
  obtain ⟨mo, ed, halc, -⟩ := id hal
  refine lv_aload_n hx hb de_V_clear_0 rfl (lv_at hl 0 rfl) ?_
  refine dk_get (a := h) (v := .ref al) (C := kn_V) (T := kt_V) (N := 2) hx hb hts ki_V hown hK hP hh rfl 0 (by decide) (hts _ wi_96) (fun _ h9 => h9) rfl de_V_clear_1 ?_
  refine dk_callv (va_runV (As := []) (rest := []) ⟨hx, hb, hml, hown, hts⟩ (c_A_clear l G w al (tb + 1) (tb + 2) xs hal ⟨by omega, by omega, by omega⟩ (by have := hrs.1; omega)) (cwV 0 hts (wd_gV (C := "java/util/ArrayList") wi_568 wi_565 wi_566 wi_567 wi_7) rfl rfl rfl (by decide +kernel) ⟨Nat.le_of_ble_eq_true rfl, Nat.le_of_ble_eq_true rfl⟩) (dk_preV (kn_A, kt_A, 3) hE hP hS halc rfl) rfl rfl hl.1 rfl (lv_room (Nat.le_of_ble_eq_true rfl)) de_V_clear_4 ⟨(by first | exact Nat.le_of_ble_eq_true rfl | (simp only [Nat.zero_add]; omega) | omega), (by first | exact Nat.le_of_ble_eq_true rfl | (simp only [Nat.zero_add]; omega) | omega)⟩) hS (fun w_447 H locs hq_448 hP hS => ?_)
  obtain ⟨hal2, hf1⟩ := hq_448
  have h_450 : w_447 h = some (tb, .inr (cx_V, [.ref al, .int (nI (le_ct Rs))])) := hf1 _ _ _ hh (by omega)
  refine lv_aload_n hx hb de_V_clear_7 rfl (lv_at hl 0 rfl) ?_
  refine lv_iconst (v := nI 0) hx hb de_V_clear_8 (by decide) ?_
  refine dk_put (a := h) (v := .int (nI 0)) (ty := .int) (C := kn_V) (T := kt_V) (N := 2) hx hb hts ki_V ky_V kk_V kd_V hown hK hP hS h_450 rfl 1 (by decide) (hts _ wi_97) (fun _ h9 => h9) rfl (by decide +kernel) rfl rfl (Nat.le_of_ble_eq_true rfl) de_V_clear_9 (fun H locs w_451 hw_452 hP hS => ?_)
  have h_453 : w_451 h = some (tb, .inr (cx_V, [.ref al, .int (nI 0)])) := dk_here hw_452
  have hf2 : dk_fr (fun t => t = tb) w_447 w_451 := (dk_fr.up (T := fun t => t = tb) h_450 rfl).eq hw_452
  exact dk_vret hQ hx hb hr hlocks hP hS (Nat.le_refl _) (Nat.le_refl _) (⟨⟨al, [], h_453, hal2.fr hf2 (by omega) (by omega), ⟨rfl, fun i x R z => by simp at z⟩, by simp, by simp [le_ct]⟩, (hf1.mono (fun t z => Or.inr z)).tr (hf2.mono (fun t z => Or.inl z))⟩) de_V_clear_12
abbrev rm_V_copyTo : Room := { frames := 3, cells := 0, slots := 0, locals := 64 }
set_option maxHeartbeats 4000000 in
set_option maxRecDepth 100000 in
theorem c_V_copyTo (l : Launch) (G : dk_G) (w : dk_H) (h tb : Nat) (Rs : List (List en_T)) (hl0 : le_at G w h tb Rs) (htb : tb ≠ 0) (h2 t0 t1 cap : Nat) (L : List en_T) (hr0 : rw_at G w h2 t0 t1 cap L) (ht : t0 ≠ 0 ∧ t1 ≠ 0 ∧ t0 ≠ t1) (hne : ∀ t, t = t0 ∨ t = t1 → ¬ le_T tb t) (hc7 : L.length + le_ct Rs ≤ cap) : dk_Mv l my_V_copyTo (wd_c my_V_copyTo mb_V_copyTo 3 none) rm_V_copyTo G w [.ref h, .ref h2] (fun w1 => rw_at G w1 h2 t0 t1 cap (L ++ Rs.flatten) ∧ dk_fr (fun t => t = t0 ∨ t = t1) w w1) 0 0 := by
  have hl1 := hl0
  have ht9 := ht
  obtain ⟨ht0, ht1, ht2⟩ := ht
  have hcap : cap ≤ 1024 := hr0.choose_spec.choose_spec.2.2.2.1
  have hb1 : ¬ (tb = t0 ∨ tb = t1) := fun z => hne tb z (Or.inl rfl)
  have hb2 : ¬ (tb + 1 = t0 ∨ tb + 1 = t1) := fun z => hne _ z (Or.inr (Or.inl rfl))
  have hb3 : ¬ (tb + 2 = t0 ∨ tb + 2 = t1) := fun z => hne _ z (Or.inr (Or.inr rfl))
  refine dk_enter (lv := [(0, .ref h), (1, .ref h2)]) (by decide) (Nat.le_of_ble_eq_true rfl) rfl (fun p e s m args below meth c ls Q hQ C hP hS hl => ?_)
  obtain ⟨hx, hb, hr, hml, hlocks, hown, hnm, hts, hE⟩ := C
  have hK := hE.1
  have hN := hE.2.1
  refine lv_iconst (v := nI 0) hx hb de_V_copyTo_0 (by decide) ?_
  refine lv_istore_n (lv' := [(2, .int (nI 0)), (0, .ref h), (1, .ref h2)]) hx hb de_V_copyTo_1 rfl hl (by decide) rfl (fun ls hl => ?_)
  have lp : ∀ (zk : Nat) (i : Nat), Rs.length - i < zk → (i ≤ Rs.length) → ∀ (H : Heap) (locs : List Loc) (v : dk_H), (rw_at G v h2 t0 t1 cap (L ++ (Rs.take i).flatten)) → (dk_fr (fun t => t = t0 ∨ t = t1) w v) → dk_P G v H → dk_S G s.heap H locs → ∀ (ls : Array Slot), lv_has ls 3 [(0, .ref h), (1, .ref h2), (2, .int (nI i))] → W p l e rm_V_copyTo s m args below meth c H locs 0 0 Q (F0 m 2 ls []) := by
    intro zk
    induction zk with
    | zero =>
      intro i hk
      exact absurd hk (by omega)
    | succ zk ih =>
      intro i hk hi
      intro H locs v hv hg hP hS
      intro ls hl
      obtain ⟨al, xs, hh, hal, hrs, hn6, hc6⟩ := hl1.fr hg (by omega) hb1 hb2 hb3
      obtain ⟨mo, ed, halc, -⟩ := id hal
      have hxl := hrs.1
      refine lv_iload_n hx hb de_V_copyTo_2 rfl (lv_at hl 2 rfl) ?_
      refine lv_aload_n hx hb de_V_copyTo_3 rfl (lv_at hl 0 rfl) ?_
      refine dk_get (a := h) (v := .ref al) (C := kn_V) (T := kt_V) (N := 2) hx hb hts ki_V hown hK hP hh rfl 0 (by decide) (hts _ wi_96) (fun _ h9 => h9) rfl de_V_copyTo_4 ?_
      refine dk_calli (va_runV (As := []) (rest := [.int (nI i)]) ⟨hx, hb, hml, hown, hts⟩ (c_A_size l G v al (tb + 1) (tb + 2) xs hal) (cwV 0 hts (wd_gV (C := "java/util/ArrayList") wi_304 wi_301 wi_302 wi_303 wi_7) rfl rfl rfl (by decide +kernel) ⟨Nat.le_of_ble_eq_true rfl, Nat.le_of_ble_eq_true rfl⟩) (dk_preV (kn_A, kt_A, 3) hE hP hS halc rfl) rfl rfl hl.1 rfl (lv_room (Nat.le_of_ble_eq_true rfl)) de_V_copyTo_7 ⟨(by first | exact Nat.le_of_ble_eq_true rfl | (simp only [Nat.zero_add]; omega) | omega), (by first | exact Nat.le_of_ble_eq_true rfl | (simp only [Nat.zero_add]; omega) | omega)⟩) hS (fun r_456 w_454 H locs hq_455 hP hS => ?_)
      obtain ⟨hr_457, he_458⟩ := hq_455
      subst hr_457
      rw [he_458] at hP
      refine nx_icmp_ge (a := i) (b := xs.length) (tgt := 37) hx hb (by omega) (by omega) de_V_copyTo_10 (by decide) (fun c_459 => ?_) (fun c_459 => ?_)
      · have e9 : Rs.take i = Rs := List.take_of_length_le (by omega)
        rw [e9] at hv
        exact dk_vret hQ hx hb hr hlocks hP hS (Nat.le_refl _) (Nat.le_refl _) (⟨hv, hg⟩) de_V_copyTo_37
      · refine lv_aload_n hx hb de_V_copyTo_13 rfl (lv_at hl 1 rfl) ?_
        refine lv_aload_n hx hb de_V_copyTo_14 rfl (lv_at hl 0 rfl) ?_
        refine dk_get (a := h) (v := .ref al) (C := kn_V) (T := kt_V) (N := 2) hx hb hts ki_V hown hK hP hh rfl 0 (by decide) (hts _ wi_96) (fun _ h9 => h9) rfl de_V_copyTo_15 ?_
        refine lv_iload_n hx hb de_V_copyTo_18 rfl (lv_at hl 2 rfl) ?_
        obtain ⟨x9, hx9⟩ := ge_at c_459
        obtain ⟨R9, hR9⟩ := ge_at (L := Rs) (i := i) (by omega)
        have hrn := hrs.2 i x9 R9 hx9 hR9
        obtain ⟨r9, fl9, f9, hrc, hrw, -⟩ := id hrn
        refine dk_callq (va_runV (As := [.int (nI i)]) (rest := [.ref h2]) ⟨hx, hb, hml, hown, hts⟩ (c_A_get l G v al (tb + 1) (tb + 2) xs hal i x9 hx9 (by omega)) (cwV 1 hts (wd_gV (C := "java/util/ArrayList") wi_308 wi_305 wi_306 wi_307 wi_7) rfl rfl rfl (by decide +kernel) ⟨Nat.le_of_ble_eq_true rfl, Nat.le_of_ble_eq_true rfl⟩) (dk_preV (kn_A, kt_A, 3) hE hP hS halc rfl) rfl rfl hl.1 rfl (lv_room (Nat.le_of_ble_eq_true rfl)) de_V_copyTo_19 ⟨(by first | exact Nat.le_of_ble_eq_true rfl | (simp only [Nat.zero_add]; omega) | omega), (by first | exact Nat.le_of_ble_eq_true rfl | (simp only [Nat.zero_add]; omega) | omega)⟩) hS (fun r_462 w_460 H locs hq_461 hP hS => ?_)
        obtain ⟨hr8, hw8⟩ := hq_461
        subst hr8
        rw [hw8] at hP
        refine va_castY (a := x9) (C := "RunKeeper$Run") hx hb hown (hts _ wi_319) (hN _ (dn_m 917 (by decide +kernel) rfl)) (dk_recv (kn_U, kt_U, 2) hK hP hrc rfl) de_V_copyTo_22 ?_
        refine dk_callq (va_runV (As := []) (rest := [.ref h2]) ⟨hx, hb, hml, hown, hts⟩ (c_U_entries l G v x9 0 r9 fl9 hrc) (cwV 0 hts (wd_gV (C := "RunKeeper$Run") wi_274 wi_271 wi_272 wi_273 wi_15) rfl rfl rfl (by decide +kernel) ⟨Nat.le_of_ble_eq_true rfl, Nat.le_of_ble_eq_true rfl⟩) (dk_preV (kn_U, kt_U, 2) hE hP hS hrc rfl) rfl rfl hl.1 rfl (lv_room (Nat.le_of_ble_eq_true rfl)) de_V_copyTo_25 ⟨(by first | exact Nat.le_of_ble_eq_true rfl | (simp only [Nat.zero_add]; omega) | omega), (by first | exact Nat.le_of_ble_eq_true rfl | (simp only [Nat.zero_add]; omega) | omega)⟩) hS (fun r_465 w_463 H locs hq_464 hP hS => ?_)
        obtain ⟨hr8, hw8⟩ := hq_464
        subst hr8
        rw [hw8] at hP
        obtain ⟨sl9, g9, hrc2, -⟩ := id hv
        have hle9 := le_mem hR9
        refine dk_callv (va_runV (As := [.ref r9]) (rest := []) ⟨hx, hb, hml, hown, hts⟩ (c_R_addAll l G v h2 t0 t1 cap _ hv ht9 r9 0 0 R9.length R9 hrw ⟨by omega, by omega, by omega, by omega⟩ (by rw [List.length_append, le_flat]; omega)) (cwV 1 hts (wd_gV (C := "RunKeeper$Row") wi_183 wi_320 wi_181 wi_182 wi_2) rfl rfl rfl (by decide +kernel) ⟨Nat.le_of_ble_eq_true rfl, Nat.le_of_ble_eq_true rfl⟩) (dk_preV (kn_R, kt_R, 2) hE hP hS hrc2 rfl) rfl rfl hl.1 rfl (lv_room (Nat.le_of_ble_eq_true rfl)) de_V_copyTo_28 ⟨(by first | exact Nat.le_of_ble_eq_true rfl | (simp only [Nat.zero_add]; omega) | omega), (by first | exact Nat.le_of_ble_eq_true rfl | (simp only [Nat.zero_add]; omega) | omega)⟩) hS (fun w_466 H locs hq_467 hP hS => ?_)
        refine lv_iinc (v := nI (i + 1)) (lv' := [(2, .int (nI (i + 1))), (0, .ref h), (1, .ref h2)]) hx hb de_V_copyTo_31 hl (k := 2) rfl (nx_inc i) (by decide) rfl (fun ls hl => ?_)
        refine lv_goto (tgt := 2) hx hb de_V_copyTo_34 (by decide) ?_
        have e9 : L ++ (Rs.take (i + 1)).flatten = L ++ (Rs.take i).flatten ++ R9 := by rw [ta_s hR9]; simp [List.append_assoc]
        exact ih (i + 1) (by omega) (by omega) _ _ _ (by rw [e9]; exact hq_467.1) (hg.tr hq_467.2) hP hS _ (lv_sub hl [1, 2, 0] rfl)
  exact lp (Rs.length + 1) 0 (by omega) (Nat.zero_le _) _ _ _ (by simpa using hr0) dk_fr.rf hP hS _ (lv_sub hl [1, 2, 0] rfl)
end
section
/-! decode rows (printed by gen/mk_names.py) -/
theorem de_K_init_0 : decode mb_K_init 0 = .ok (.aload_n 0, 1) := by decide +kernel
theorem de_K_init_1 : decode mb_K_init 1 = .ok (.invokespecial 1, 3) := by decide +kernel
theorem de_K_init_4 : decode mb_K_init 4 = .ok (.aload_n 0, 1) := by decide +kernel
theorem de_K_init_5 : decode mb_K_init 5 = .ok (.new 7, 3) := by decide +kernel
theorem de_K_init_8 : decode mb_K_init 8 = .ok (.dup, 1) := by decide +kernel
theorem de_K_init_9 : decode mb_K_init 9 = .ok (.bipush 40, 2) := by decide +kernel
theorem de_K_init_11 : decode mb_K_init 11 = .ok (.invokespecial 11, 3) := by decide +kernel
theorem de_K_init_14 : decode mb_K_init 14 = .ok (.putfield 14, 3) := by decide +kernel
theorem de_K_init_17 : decode mb_K_init 17 = .ok (.aload_n 0, 1) := by decide +kernel
theorem de_K_init_18 : decode mb_K_init 18 = .ok (.new 7, 3) := by decide +kernel
theorem de_K_init_21 : decode mb_K_init 21 = .ok (.dup, 1) := by decide +kernel
theorem de_K_init_22 : decode mb_K_init 22 = .ok (.bipush 16, 2) := by decide +kernel
theorem de_K_init_24 : decode mb_K_init 24 = .ok (.invokespecial 11, 3) := by decide +kernel
theorem de_K_init_27 : decode mb_K_init 27 = .ok (.putfield 18, 3) := by decide +kernel
theorem de_K_init_30 : decode mb_K_init 30 = .ok (.aload_n 0, 1) := by decide +kernel
theorem de_K_init_31 : decode mb_K_init 31 = .ok (.bipush 6, 2) := by decide +kernel
theorem de_K_init_33 : decode mb_K_init 33 = .ok (.anewarray 21, 3) := by decide +kernel
theorem de_K_init_36 : decode mb_K_init 36 = .ok (.putfield 23, 3) := by decide +kernel
theorem de_K_init_39 : decode mb_K_init 39 = .ok (.aload_n 0, 1) := by decide +kernel
theorem de_K_init_40 : decode mb_K_init 40 = .ok (.new 27, 3) := by decide +kernel
theorem de_K_init_43 : decode mb_K_init 43 = .ok (.dup, 1) := by decide +kernel
theorem de_K_init_44 : decode mb_K_init 44 = .ok (.invokespecial 29, 3) := by decide +kernel
theorem de_K_init_47 : decode mb_K_init 47 = .ok (.putfield 30, 3) := by decide +kernel
theorem de_K_init_50 : decode mb_K_init 50 = .ok (.aload_n 0, 1) := by decide +kernel
theorem de_K_init_51 : decode mb_K_init 51 = .ok (.new 7, 3) := by decide +kernel
theorem de_K_init_54 : decode mb_K_init 54 = .ok (.dup, 1) := by decide +kernel
theorem de_K_init_55 : decode mb_K_init 55 = .ok (.sipush 600, 3) := by decide +kernel
theorem de_K_init_58 : decode mb_K_init 58 = .ok (.invokespecial 11, 3) := by decide +kernel
theorem de_K_init_61 : decode mb_K_init 61 = .ok (.putfield 34, 3) := by decide +kernel
theorem de_K_init_64 : decode mb_K_init 64 = .ok (.aload_n 0, 1) := by decide +kernel
theorem de_K_init_65 : decode mb_K_init 65 = .ok (.new 7, 3) := by decide +kernel
theorem de_K_init_68 : decode mb_K_init 68 = .ok (.dup, 1) := by decide +kernel
theorem de_K_init_69 : decode mb_K_init 69 = .ok (.sipush 600, 3) := by decide +kernel
theorem de_K_init_72 : decode mb_K_init 72 = .ok (.invokespecial 11, 3) := by decide +kernel
theorem de_K_init_75 : decode mb_K_init 75 = .ok (.putfield 37, 3) := by decide +kernel
theorem de_K_init_78 : decode mb_K_init 78 = .ok (.aload_n 0, 1) := by decide +kernel
theorem de_K_init_79 : decode mb_K_init 79 = .ok (.sipush 1024, 3) := by decide +kernel
theorem de_K_init_82 : decode mb_K_init 82 = .ok (.anewarray 40, 3) := by decide +kernel
theorem de_K_init_85 : decode mb_K_init 85 = .ok (.putfield 42, 3) := by decide +kernel
theorem de_K_init_88 : decode mb_K_init 88 = .ok (.aload_n 0, 1) := by decide +kernel
theorem de_K_init_89 : decode mb_K_init 89 = .ok (.iconst 0, 1) := by decide +kernel
theorem de_K_init_90 : decode mb_K_init 90 = .ok (.putfield 46, 3) := by decide +kernel
theorem de_K_init_93 : decode mb_K_init 93 = .ok (.aload_n 0, 1) := by decide +kernel
theorem de_K_init_94 : decode mb_K_init 94 = .ok (.iconst 0, 1) := by decide +kernel
theorem de_K_init_95 : decode mb_K_init 95 = .ok (.putfield 50, 3) := by decide +kernel
theorem de_K_init_98 : decode mb_K_init 98 = .ok (.aload_n 0, 1) := by decide +kernel
theorem de_K_init_99 : decode mb_K_init 99 = .ok (.iconst 0, 1) := by decide +kernel
theorem de_K_init_100 : decode mb_K_init 100 = .ok (.putfield 54, 3) := by decide +kernel
theorem de_K_init_103 : decode mb_K_init 103 = .ok (.aload_n 0, 1) := by decide +kernel
theorem de_K_init_104 : decode mb_K_init 104 = .ok (.iconst 0, 1) := by decide +kernel
theorem de_K_init_105 : decode mb_K_init 105 = .ok (.putfield 57, 3) := by decide +kernel
theorem de_K_init_108 : decode mb_K_init 108 = .ok (.aload_n 0, 1) := by decide +kernel
theorem de_K_init_109 : decode mb_K_init 109 = .ok (.iconst 0, 1) := by decide +kernel
theorem de_K_init_110 : decode mb_K_init 110 = .ok (.putfield 60, 3) := by decide +kernel
theorem de_K_init_113 : decode mb_K_init 113 = .ok (.iconst 0, 1) := by decide +kernel
theorem de_K_init_114 : decode mb_K_init 114 = .ok (.istore_n 1, 1) := by decide +kernel
theorem de_K_init_115 : decode mb_K_init 115 = .ok (.iload_n 1, 1) := by decide +kernel
theorem de_K_init_116 : decode mb_K_init 116 = .ok (.bipush 6, 2) := by decide +kernel
theorem de_K_init_118 : decode mb_K_init 118 = .ok (.if_icmp .ge 22, 3) := by decide +kernel
theorem de_K_init_121 : decode mb_K_init 121 = .ok (.aload_n 0, 1) := by decide +kernel
theorem de_K_init_122 : decode mb_K_init 122 = .ok (.getfield 23, 3) := by decide +kernel
theorem de_K_init_125 : decode mb_K_init 125 = .ok (.iload_n 1, 1) := by decide +kernel
theorem de_K_init_126 : decode mb_K_init 126 = .ok (.new 21, 3) := by decide +kernel
theorem de_K_init_129 : decode mb_K_init 129 = .ok (.dup, 1) := by decide +kernel
theorem de_K_init_130 : decode mb_K_init 130 = .ok (.invokespecial 63, 3) := by decide +kernel
theorem de_K_init_133 : decode mb_K_init 133 = .ok (.aastore, 1) := by decide +kernel
theorem de_K_init_134 : decode mb_K_init 134 = .ok (.iinc 1 1, 3) := by decide +kernel
theorem de_K_init_137 : decode mb_K_init 137 = .ok (.goto (-22), 3) := by decide +kernel
theorem de_K_init_140 : decode mb_K_init 140 = .ok (.return_, 1) := by decide +kernel
theorem de_K_sync_0 : decode mb_K_sync 0 = .ok (.aload_n 0, 1) := by decide +kernel
theorem de_K_sync_1 : decode mb_K_sync 1 = .ok (.aload_n 0, 1) := by decide +kernel
theorem de_K_sync_2 : decode mb_K_sync 2 = .ok (.getfield 14, 3) := by decide +kernel
theorem de_K_sync_5 : decode mb_K_sync 5 = .ok (.invokevirtual 77, 3) := by decide +kernel
theorem de_K_sync_8 : decode mb_K_sync 8 = .ok (.putfield 46, 3) := by decide +kernel
theorem de_K_sync_11 : decode mb_K_sync 11 = .ok (.aload_n 0, 1) := by decide +kernel
theorem de_K_sync_12 : decode mb_K_sync 12 = .ok (.getfield 46, 3) := by decide +kernel
theorem de_K_sync_15 : decode mb_K_sync 15 = .ok (.ireturn, 1) := by decide +kernel
theorem de_K_flush_0 : decode mb_K_flush 0 = .ok (.aload_n 0, 1) := by decide +kernel
theorem de_K_flush_1 : decode mb_K_flush 1 = .ok (.getfield 14, 3) := by decide +kernel
theorem de_K_flush_4 : decode mb_K_flush 4 = .ok (.invokevirtual 77, 3) := by decide +kernel
theorem de_K_flush_7 : decode mb_K_flush 7 = .ok (.istore_n 1, 1) := by decide +kernel
theorem de_K_flush_8 : decode mb_K_flush 8 = .ok (.aload_n 0, 1) := by decide +kernel
theorem de_K_flush_9 : decode mb_K_flush 9 = .ok (.iconst 1, 1) := by decide +kernel
theorem de_K_flush_10 : decode mb_K_flush 10 = .ok (.invokevirtual 97, 3) := by decide +kernel
theorem de_K_flush_13 : decode mb_K_flush 13 = .ok (.iload_n 1, 1) := by decide +kernel
theorem de_K_flush_14 : decode mb_K_flush 14 = .ok (.ireturn, 1) := by decide +kernel
theorem de_K_flushTableIfItHas_0 : decode mb_K_flushTableIfItHas 0 = .ok (.aload_n 0, 1) := by decide +kernel
theorem de_K_flushTableIfItHas_1 : decode mb_K_flushTableIfItHas 1 = .ok (.getfield 14, 3) := by decide +kernel
theorem de_K_flushTableIfItHas_4 : decode mb_K_flushTableIfItHas 4 = .ok (.invokevirtual 77, 3) := by decide +kernel
theorem de_K_flushTableIfItHas_7 : decode mb_K_flushTableIfItHas 7 = .ok (.iload_n 1, 1) := by decide +kernel
theorem de_K_flushTableIfItHas_8 : decode mb_K_flushTableIfItHas 8 = .ok (.if_icmp .lt 32, 3) := by decide +kernel
theorem de_K_flushTableIfItHas_11 : decode mb_K_flushTableIfItHas 11 = .ok (.aload_n 0, 1) := by decide +kernel
theorem de_K_flushTableIfItHas_12 : decode mb_K_flushTableIfItHas 12 = .ok (.getfield 14, 3) := by decide +kernel
theorem de_K_flushTableIfItHas_15 : decode mb_K_flushTableIfItHas 15 = .ok (.invokevirtual 218, 3) := by decide +kernel
theorem de_K_flushTableIfItHas_18 : decode mb_K_flushTableIfItHas 18 = .ok (.aload_n 0, 1) := by decide +kernel
theorem de_K_flushTableIfItHas_19 : decode mb_K_flushTableIfItHas 19 = .ok (.iconst 0, 1) := by decide +kernel
theorem de_K_flushTableIfItHas_20 : decode mb_K_flushTableIfItHas 20 = .ok (.aload_n 0, 1) := by decide +kernel
theorem de_K_flushTableIfItHas_21 : decode mb_K_flushTableIfItHas 21 = .ok (.getfield 14, 3) := by decide +kernel
theorem de_K_flushTableIfItHas_24 : decode mb_K_flushTableIfItHas 24 = .ok (.invokevirtual 221, 3) := by decide +kernel
theorem de_K_flushTableIfItHas_27 : decode mb_K_flushTableIfItHas 27 = .ok (.aload_n 0, 1) := by decide +kernel
theorem de_K_flushTableIfItHas_28 : decode mb_K_flushTableIfItHas 28 = .ok (.getfield 14, 3) := by decide +kernel
theorem de_K_flushTableIfItHas_31 : decode mb_K_flushTableIfItHas 31 = .ok (.iconst 0, 1) := by decide +kernel
theorem de_K_flushTableIfItHas_32 : decode mb_K_flushTableIfItHas 32 = .ok (.invokevirtual 112, 3) := by decide +kernel
theorem de_K_flushTableIfItHas_35 : decode mb_K_flushTableIfItHas 35 = .ok (.aload_n 0, 1) := by decide +kernel
theorem de_K_flushTableIfItHas_36 : decode mb_K_flushTableIfItHas 36 = .ok (.iconst 0, 1) := by decide +kernel
theorem de_K_flushTableIfItHas_37 : decode mb_K_flushTableIfItHas 37 = .ok (.putfield 46, 3) := by decide +kernel
theorem de_K_flushTableIfItHas_40 : decode mb_K_flushTableIfItHas 40 = .ok (.return_, 1) := by decide +kernel
theorem de_K_addRun_0 : decode mb_K_addRun 0 = .ok (.iload_n 1, 1) := by decide +kernel
theorem de_K_addRun_1 : decode mb_K_addRun 1 = .ok (.invokestatic 168, 3) := by decide +kernel
theorem de_K_addRun_4 : decode mb_K_addRun 4 = .ok (.ifCond .eq 27, 3) := by decide +kernel
theorem de_K_addRun_7 : decode mb_K_addRun 7 = .ok (.aload_n 2, 1) := by decide +kernel
theorem de_K_addRun_8 : decode mb_K_addRun 8 = .ok (.invokevirtual 77, 3) := by decide +kernel
theorem de_K_addRun_11 : decode mb_K_addRun 11 = .ok (.ifCond .le 20, 3) := by decide +kernel
theorem de_K_addRun_14 : decode mb_K_addRun 14 = .ok (.aload_n 0, 1) := by decide +kernel
theorem de_K_addRun_15 : decode mb_K_addRun 15 = .ok (.getfield 23, 3) := by decide +kernel
theorem de_K_addRun_18 : decode mb_K_addRun 18 = .ok (.iload_n 1, 1) := by decide +kernel
theorem de_K_addRun_19 : decode mb_K_addRun 19 = .ok (.aaload, 1) := by decide +kernel
theorem de_K_addRun_20 : decode mb_K_addRun 20 = .ok (.new 178, 3) := by decide +kernel
theorem de_K_addRun_23 : decode mb_K_addRun 23 = .ok (.dup, 1) := by decide +kernel
theorem de_K_addRun_24 : decode mb_K_addRun 24 = .ok (.aload_n 2, 1) := by decide +kernel
theorem de_K_addRun_25 : decode mb_K_addRun 25 = .ok (.invokespecial 225, 3) := by decide +kernel
theorem de_K_addRun_28 : decode mb_K_addRun 28 = .ok (.invokevirtual 228, 3) := by decide +kernel
theorem de_K_addRun_31 : decode mb_K_addRun 31 = .ok (.return_, 1) := by decide +kernel
theorem de_K_isLevel_0 : decode mb_K_isLevel 0 = .ok (.iload_n 0, 1) := by decide +kernel
theorem de_K_isLevel_1 : decode mb_K_isLevel 1 = .ok (.ifCond .lt 13, 3) := by decide +kernel
theorem de_K_isLevel_4 : decode mb_K_isLevel 4 = .ok (.iload_n 0, 1) := by decide +kernel
theorem de_K_isLevel_5 : decode mb_K_isLevel 5 = .ok (.bipush 6, 2) := by decide +kernel
theorem de_K_isLevel_7 : decode mb_K_isLevel 7 = .ok (.if_icmp .ge 7, 3) := by decide +kernel
theorem de_K_isLevel_10 : decode mb_K_isLevel 10 = .ok (.iconst 1, 1) := by decide +kernel
theorem de_K_isLevel_11 : decode mb_K_isLevel 11 = .ok (.goto 4, 3) := by decide +kernel
theorem de_K_isLevel_14 : decode mb_K_isLevel 14 = .ok (.iconst 0, 1) := by decide +kernel
theorem de_K_isLevel_15 : decode mb_K_isLevel 15 = .ok (.ireturn, 1) := by decide +kernel
theorem de_K_crash_0 : decode mb_K_crash 0 = .ok (.aload_n 0, 1) := by decide +kernel
theorem de_K_crash_1 : decode mb_K_crash 1 = .ok (.getfield 14, 3) := by decide +kernel
theorem de_K_crash_4 : decode mb_K_crash 4 = .ok (.aload_n 0, 1) := by decide +kernel
theorem de_K_crash_5 : decode mb_K_crash 5 = .ok (.getfield 46, 3) := by decide +kernel
theorem de_K_crash_8 : decode mb_K_crash 8 = .ok (.invokevirtual 112, 3) := by decide +kernel
theorem de_K_crash_11 : decode mb_K_crash 11 = .ok (.aload_n 0, 1) := by decide +kernel
theorem de_K_crash_12 : decode mb_K_crash 12 = .ok (.invokevirtual 100, 3) := by decide +kernel
theorem de_K_crash_15 : decode mb_K_crash 15 = .ok (.aload_n 0, 1) := by decide +kernel
theorem de_K_crash_16 : decode mb_K_crash 16 = .ok (.getfield 30, 3) := by decide +kernel
theorem de_K_crash_19 : decode mb_K_crash 19 = .ok (.invokevirtual 115, 3) := by decide +kernel
theorem de_K_crash_22 : decode mb_K_crash 22 = .ok (.aload_n 0, 1) := by decide +kernel
theorem de_K_crash_23 : decode mb_K_crash 23 = .ok (.invokevirtual 118, 3) := by decide +kernel
theorem de_K_crash_26 : decode mb_K_crash 26 = .ok (.aload_n 0, 1) := by decide +kernel
theorem de_K_crash_27 : decode mb_K_crash 27 = .ok (.aload_n 0, 1) := by decide +kernel
theorem de_K_crash_28 : decode mb_K_crash 28 = .ok (.getfield 34, 3) := by decide +kernel
theorem de_K_crash_31 : decode mb_K_crash 31 = .ok (.invokevirtual 121, 3) := by decide +kernel
theorem de_K_crash_34 : decode mb_K_crash 34 = .ok (.putfield 54, 3) := by decide +kernel
theorem de_K_crash_37 : decode mb_K_crash 37 = .ok (.aload_n 0, 1) := by decide +kernel
theorem de_K_crash_38 : decode mb_K_crash 38 = .ok (.getfield 14, 3) := by decide +kernel
theorem de_K_crash_41 : decode mb_K_crash 41 = .ok (.invokevirtual 77, 3) := by decide +kernel
theorem de_K_crash_44 : decode mb_K_crash 44 = .ok (.ireturn, 1) := by decide +kernel
theorem de_K_dropBatch_0 : decode mb_K_dropBatch 0 = .ok (.aload_n 0, 1) := by decide +kernel
theorem de_K_dropBatch_1 : decode mb_K_dropBatch 1 = .ok (.iconst 0, 1) := by decide +kernel
theorem de_K_dropBatch_2 : decode mb_K_dropBatch 2 = .ok (.putfield 50, 3) := by decide +kernel
theorem de_K_dropBatch_5 : decode mb_K_dropBatch 5 = .ok (.aload_n 0, 1) := by decide +kernel
theorem de_K_dropBatch_6 : decode mb_K_dropBatch 6 = .ok (.getfield 18, 3) := by decide +kernel
theorem de_K_dropBatch_9 : decode mb_K_dropBatch 9 = .ok (.iconst 0, 1) := by decide +kernel
theorem de_K_dropBatch_10 : decode mb_K_dropBatch 10 = .ok (.invokevirtual 112, 3) := by decide +kernel
theorem de_K_dropBatch_13 : decode mb_K_dropBatch 13 = .ok (.return_, 1) := by decide +kernel
theorem de_K_gatherEverything_0 : decode mb_K_gatherEverything 0 = .ok (.aload_n 0, 1) := by decide +kernel
theorem de_K_gatherEverything_1 : decode mb_K_gatherEverything 1 = .ok (.getfield 34, 3) := by decide +kernel
theorem de_K_gatherEverything_4 : decode mb_K_gatherEverything 4 = .ok (.iconst 0, 1) := by decide +kernel
theorem de_K_gatherEverything_5 : decode mb_K_gatherEverything 5 = .ok (.invokevirtual 112, 3) := by decide +kernel
theorem de_K_gatherEverything_8 : decode mb_K_gatherEverything 8 = .ok (.aload_n 0, 1) := by decide +kernel
theorem de_K_gatherEverything_9 : decode mb_K_gatherEverything 9 = .ok (.getfield 34, 3) := by decide +kernel
theorem de_K_gatherEverything_12 : decode mb_K_gatherEverything 12 = .ok (.aload_n 0, 1) := by decide +kernel
theorem de_K_gatherEverything_13 : decode mb_K_gatherEverything 13 = .ok (.getfield 14, 3) := by decide +kernel
theorem de_K_gatherEverything_16 : decode mb_K_gatherEverything 16 = .ok (.invokevirtual 231, 3) := by decide +kernel
theorem de_K_gatherEverything_19 : decode mb_K_gatherEverything 19 = .ok (.iconst 0, 1) := by decide +kernel
theorem de_K_gatherEverything_20 : decode mb_K_gatherEverything 20 = .ok (.istore_n 1, 1) := by decide +kernel
theorem de_K_gatherEverything_21 : decode mb_K_gatherEverything 21 = .ok (.iload_n 1, 1) := by decide +kernel
theorem de_K_gatherEverything_22 : decode mb_K_gatherEverything 22 = .ok (.bipush 6, 2) := by decide +kernel
theorem de_K_gatherEverything_24 : decode mb_K_gatherEverything 24 = .ok (.if_icmp .ge 22, 3) := by decide +kernel
theorem de_K_gatherEverything_27 : decode mb_K_gatherEverything 27 = .ok (.aload_n 0, 1) := by decide +kernel
theorem de_K_gatherEverything_28 : decode mb_K_gatherEverything 28 = .ok (.getfield 23, 3) := by decide +kernel
theorem de_K_gatherEverything_31 : decode mb_K_gatherEverything 31 = .ok (.iload_n 1, 1) := by decide +kernel
theorem de_K_gatherEverything_32 : decode mb_K_gatherEverything 32 = .ok (.aaload, 1) := by decide +kernel
theorem de_K_gatherEverything_33 : decode mb_K_gatherEverything 33 = .ok (.aload_n 0, 1) := by decide +kernel
theorem de_K_gatherEverything_34 : decode mb_K_gatherEverything 34 = .ok (.getfield 34, 3) := by decide +kernel
theorem de_K_gatherEverything_37 : decode mb_K_gatherEverything 37 = .ok (.invokevirtual 234, 3) := by decide +kernel
theorem de_K_gatherEverything_40 : decode mb_K_gatherEverything 40 = .ok (.iinc 1 1, 3) := by decide +kernel
theorem de_K_gatherEverything_43 : decode mb_K_gatherEverything 43 = .ok (.goto (-22), 3) := by decide +kernel
theorem de_K_gatherEverything_46 : decode mb_K_gatherEverything 46 = .ok (.return_, 1) := by decide +kernel
theorem de_K_put_0 : decode mb_K_put 0 = .ok (.aload_n 0, 1) := by decide +kernel
theorem de_K_put_1 : decode mb_K_put 1 = .ok (.iload_n 1, 1) := by decide +kernel
theorem de_K_put_2 : decode mb_K_put 2 = .ok (.lload_n 2, 1) := by decide +kernel
theorem de_K_put_3 : decode mb_K_put 3 = .ok (.iconst 0, 1) := by decide +kernel
theorem de_K_put_4 : decode mb_K_put 4 = .ok (.invokevirtual 64, 3) := by decide +kernel
theorem de_K_put_7 : decode mb_K_put 7 = .ok (.ireturn, 1) := by decide +kernel
theorem de_K_write_0 : decode mb_K_write 0 = .ok (.iload_n 1, 1) := by decide +kernel
theorem de_K_write_1 : decode mb_K_write 1 = .ok (.invokestatic 200, 3) := by decide +kernel
theorem de_K_write_4 : decode mb_K_write 4 = .ok (.ifCond .ne 13, 3) := by decide +kernel
theorem de_K_write_7 : decode mb_K_write 7 = .ok (.new 103, 3) := by decide +kernel
theorem de_K_write_10 : decode mb_K_write 10 = .ok (.dup, 1) := by decide +kernel
theorem de_K_write_11 : decode mb_K_write 11 = .ok (.ldc 203, 2) := by decide +kernel
theorem de_K_write_13 : decode mb_K_write 13 = .ok (.invokespecial 107, 3) := by decide +kernel
theorem de_K_write_16 : decode mb_K_write 16 = .ok (.athrow, 1) := by decide +kernel
theorem de_K_write_17 : decode mb_K_write 17 = .ok (.aload_n 0, 1) := by decide +kernel
theorem de_K_write_18 : decode mb_K_write 18 = .ok (.getfield 50, 3) := by decide +kernel
theorem de_K_write_21 : decode mb_K_write 21 = .ok (.ifCond .eq 16, 3) := by decide +kernel
theorem de_K_write_24 : decode mb_K_write 24 = .ok (.aload_n 0, 1) := by decide +kernel
theorem de_K_write_25 : decode mb_K_write 25 = .ok (.getfield 18, 3) := by decide +kernel
theorem de_K_write_28 : decode mb_K_write 28 = .ok (.invokevirtual 204, 3) := by decide +kernel
theorem de_K_write_31 : decode mb_K_write 31 = .ok (.ifCond .eq 26, 3) := by decide +kernel
theorem de_K_write_34 : decode mb_K_write 34 = .ok (.goto 13, 3) := by decide +kernel
theorem de_K_write_37 : decode mb_K_write 37 = .ok (.aload_n 0, 1) := by decide +kernel
theorem de_K_write_38 : decode mb_K_write 38 = .ok (.invokevirtual 81, 3) := by decide +kernel
theorem de_K_write_41 : decode mb_K_write 41 = .ok (.sipush 600, 3) := by decide +kernel
theorem de_K_write_44 : decode mb_K_write 44 = .ok (.if_icmp .lt 13, 3) := by decide +kernel
theorem de_K_write_47 : decode mb_K_write 47 = .ok (.new 84, 3) := by decide +kernel
theorem de_K_write_50 : decode mb_K_write 50 = .ok (.dup, 1) := by decide +kernel
theorem de_K_write_51 : decode mb_K_write 51 = .ok (.ldc 207, 2) := by decide +kernel
theorem de_K_write_53 : decode mb_K_write 53 = .ok (.invokespecial 88, 3) := by decide +kernel
theorem de_K_write_56 : decode mb_K_write 56 = .ok (.athrow, 1) := by decide +kernel
theorem de_K_write_57 : decode mb_K_write 57 = .ok (.new 40, 3) := by decide +kernel
theorem de_K_write_60 : decode mb_K_write 60 = .ok (.dup, 1) := by decide +kernel
theorem de_K_write_61 : decode mb_K_write 61 = .ok (.iload_n 1, 1) := by decide +kernel
theorem de_K_write_62 : decode mb_K_write 62 = .ok (.iconst 0, 1) := by decide +kernel
theorem de_K_write_63 : decode mb_K_write 63 = .ok (.lload_n 2, 1) := by decide +kernel
theorem de_K_write_64 : decode mb_K_write 64 = .ok (.iload 4, 2) := by decide +kernel
theorem de_K_write_66 : decode mb_K_write 66 = .ok (.invokespecial 209, 3) := by decide +kernel
theorem de_K_write_69 : decode mb_K_write 69 = .ok (.astore 5, 2) := by decide +kernel
theorem de_K_write_71 : decode mb_K_write 71 = .ok (.aload_n 0, 1) := by decide +kernel
theorem de_K_write_72 : decode mb_K_write 72 = .ok (.getfield 50, 3) := by decide +kernel
theorem de_K_write_75 : decode mb_K_write 75 = .ok (.ifCond .eq 20, 3) := by decide +kernel
theorem de_K_write_78 : decode mb_K_write 78 = .ok (.aload_n 0, 1) := by decide +kernel
theorem de_K_write_79 : decode mb_K_write 79 = .ok (.getfield 18, 3) := by decide +kernel
theorem de_K_write_82 : decode mb_K_write 82 = .ok (.aload 5, 2) := by decide +kernel
theorem de_K_write_84 : decode mb_K_write 84 = .ok (.invokevirtual 212, 3) := by decide +kernel
theorem de_K_write_87 : decode mb_K_write 87 = .ok (.aload_n 0, 1) := by decide +kernel
theorem de_K_write_88 : decode mb_K_write 88 = .ok (.getfield 18, 3) := by decide +kernel
theorem de_K_write_91 : decode mb_K_write 91 = .ok (.invokevirtual 77, 3) := by decide +kernel
theorem de_K_write_94 : decode mb_K_write 94 = .ok (.ireturn, 1) := by decide +kernel
theorem de_K_write_95 : decode mb_K_write 95 = .ok (.aload_n 0, 1) := by decide +kernel
theorem de_K_write_96 : decode mb_K_write 96 = .ok (.aload 5, 2) := by decide +kernel
theorem de_K_write_98 : decode mb_K_write 98 = .ok (.invokevirtual 93, 3) := by decide +kernel
theorem de_K_write_101 : decode mb_K_write 101 = .ok (.aload_n 0, 1) := by decide +kernel
theorem de_K_write_102 : decode mb_K_write 102 = .ok (.bipush 24, 2) := by decide +kernel
theorem de_K_write_104 : decode mb_K_write 104 = .ok (.invokevirtual 97, 3) := by decide +kernel
theorem de_K_write_107 : decode mb_K_write 107 = .ok (.aload_n 0, 1) := by decide +kernel
theorem de_K_write_108 : decode mb_K_write 108 = .ok (.getfield 54, 3) := by decide +kernel
theorem de_K_write_111 : decode mb_K_write 111 = .ok (.ireturn, 1) := by decide +kernel
theorem de_K_isKey_0 : decode mb_K_isKey 0 = .ok (.iload_n 0, 1) := by decide +kernel
theorem de_K_isKey_1 : decode mb_K_isKey 1 = .ok (.ifCond .lt 14, 3) := by decide +kernel
theorem de_K_isKey_4 : decode mb_K_isKey 4 = .ok (.iload_n 0, 1) := by decide +kernel
theorem de_K_isKey_5 : decode mb_K_isKey 5 = .ok (.sipush 1024, 3) := by decide +kernel
theorem de_K_isKey_8 : decode mb_K_isKey 8 = .ok (.if_icmp .ge 7, 3) := by decide +kernel
theorem de_K_isKey_11 : decode mb_K_isKey 11 = .ok (.iconst 1, 1) := by decide +kernel
theorem de_K_isKey_12 : decode mb_K_isKey 12 = .ok (.goto 4, 3) := by decide +kernel
theorem de_K_isKey_15 : decode mb_K_isKey 15 = .ok (.iconst 0, 1) := by decide +kernel
theorem de_K_isKey_16 : decode mb_K_isKey 16 = .ok (.ireturn, 1) := by decide +kernel
theorem de_K_entriesInAll_0 : decode mb_K_entriesInAll 0 = .ok (.aload_n 0, 1) := by decide +kernel
theorem de_K_entriesInAll_1 : decode mb_K_entriesInAll 1 = .ok (.getfield 14, 3) := by decide +kernel
theorem de_K_entriesInAll_4 : decode mb_K_entriesInAll 4 = .ok (.invokevirtual 77, 3) := by decide +kernel
theorem de_K_entriesInAll_7 : decode mb_K_entriesInAll 7 = .ok (.istore_n 1, 1) := by decide +kernel
theorem de_K_entriesInAll_8 : decode mb_K_entriesInAll 8 = .ok (.iconst 0, 1) := by decide +kernel
theorem de_K_entriesInAll_9 : decode mb_K_entriesInAll 9 = .ok (.istore_n 2, 1) := by decide +kernel
theorem de_K_entriesInAll_10 : decode mb_K_entriesInAll 10 = .ok (.iload_n 2, 1) := by decide +kernel
theorem de_K_entriesInAll_11 : decode mb_K_entriesInAll 11 = .ok (.bipush 6, 2) := by decide +kernel
theorem de_K_entriesInAll_13 : decode mb_K_entriesInAll 13 = .ok (.if_icmp .ge 21, 3) := by decide +kernel
theorem de_K_entriesInAll_16 : decode mb_K_entriesInAll 16 = .ok (.iload_n 1, 1) := by decide +kernel
theorem de_K_entriesInAll_17 : decode mb_K_entriesInAll 17 = .ok (.aload_n 0, 1) := by decide +kernel
theorem de_K_entriesInAll_18 : decode mb_K_entriesInAll 18 = .ok (.getfield 23, 3) := by decide +kernel
theorem de_K_entriesInAll_21 : decode mb_K_entriesInAll 21 = .ok (.iload_n 2, 1) := by decide +kernel
theorem de_K_entriesInAll_22 : decode mb_K_entriesInAll 22 = .ok (.aaload, 1) := by decide +kernel
theorem de_K_entriesInAll_23 : decode mb_K_entriesInAll 23 = .ok (.invokevirtual 194, 3) := by decide +kernel
theorem de_K_entriesInAll_26 : decode mb_K_entriesInAll 26 = .ok (.iadd, 1) := by decide +kernel
theorem de_K_entriesInAll_27 : decode mb_K_entriesInAll 27 = .ok (.istore_n 1, 1) := by decide +kernel
theorem de_K_entriesInAll_28 : decode mb_K_entriesInAll 28 = .ok (.iinc 2 1, 3) := by decide +kernel
theorem de_K_entriesInAll_31 : decode mb_K_entriesInAll 31 = .ok (.goto (-21), 3) := by decide +kernel
theorem de_K_entriesInAll_34 : decode mb_K_entriesInAll 34 = .ok (.iload_n 1, 1) := by decide +kernel
theorem de_K_entriesInAll_35 : decode mb_K_entriesInAll 35 = .ok (.ireturn, 1) := by decide +kernel
theorem de_K_appendToTable_0 : decode mb_K_appendToTable 0 = .ok (.aload_n 1, 1) := by decide +kernel
theorem de_K_appendToTable_1 : decode mb_K_appendToTable 1 = .ok (.ifnull 28, 3) := by decide +kernel
theorem de_K_appendToTable_4 : decode mb_K_appendToTable 4 = .ok (.aload_n 0, 1) := by decide +kernel
theorem de_K_appendToTable_5 : decode mb_K_appendToTable 5 = .ok (.dup, 1) := by decide +kernel
theorem de_K_appendToTable_6 : decode mb_K_appendToTable 6 = .ok (.getfield 54, 3) := by decide +kernel
theorem de_K_appendToTable_9 : decode mb_K_appendToTable 9 = .ok (.iconst 1, 1) := by decide +kernel
theorem de_K_appendToTable_10 : decode mb_K_appendToTable 10 = .ok (.iadd, 1) := by decide +kernel
theorem de_K_appendToTable_11 : decode mb_K_appendToTable 11 = .ok (.putfield 54, 3) := by decide +kernel
theorem de_K_appendToTable_14 : decode mb_K_appendToTable 14 = .ok (.aload_n 0, 1) := by decide +kernel
theorem de_K_appendToTable_15 : decode mb_K_appendToTable 15 = .ok (.getfield 14, 3) := by decide +kernel
theorem de_K_appendToTable_18 : decode mb_K_appendToTable 18 = .ok (.aload_n 1, 1) := by decide +kernel
theorem de_K_appendToTable_19 : decode mb_K_appendToTable 19 = .ok (.aload_n 0, 1) := by decide +kernel
theorem de_K_appendToTable_20 : decode mb_K_appendToTable 20 = .ok (.getfield 54, 3) := by decide +kernel
theorem de_K_appendToTable_23 : decode mb_K_appendToTable 23 = .ok (.invokevirtual 215, 3) := by decide +kernel
theorem de_K_appendToTable_26 : decode mb_K_appendToTable 26 = .ok (.invokevirtual 212, 3) := by decide +kernel
theorem de_K_appendToTable_29 : decode mb_K_appendToTable 29 = .ok (.return_, 1) := by decide +kernel
theorem de_K_delete_0 : decode mb_K_delete 0 = .ok (.aload_n 0, 1) := by decide +kernel
theorem de_K_delete_1 : decode mb_K_delete 1 = .ok (.iload_n 1, 1) := by decide +kernel
theorem de_K_delete_2 : decode mb_K_delete 2 = .ok (.lconst 0, 1) := by decide +kernel
theorem de_K_delete_3 : decode mb_K_delete 3 = .ok (.iconst 1, 1) := by decide +kernel
theorem de_K_delete_4 : decode mb_K_delete 4 = .ok (.invokevirtual 64, 3) := by decide +kernel
theorem de_K_delete_7 : decode mb_K_delete 7 = .ok (.ireturn, 1) := by decide +kernel
theorem de_K_batch_0 : decode mb_K_batch 0 = .ok (.aload_n 0, 1) := by decide +kernel
theorem de_K_batch_1 : decode mb_K_batch 1 = .ok (.getfield 50, 3) := by decide +kernel
theorem de_K_batch_4 : decode mb_K_batch 4 = .ok (.ifCond .eq 13, 3) := by decide +kernel
theorem de_K_batch_7 : decode mb_K_batch 7 = .ok (.new 68, 3) := by decide +kernel
theorem de_K_batch_10 : decode mb_K_batch 10 = .ok (.dup, 1) := by decide +kernel
theorem de_K_batch_11 : decode mb_K_batch 11 = .ok (.ldc 70, 2) := by decide +kernel
theorem de_K_batch_13 : decode mb_K_batch 13 = .ok (.invokespecial 72, 3) := by decide +kernel
theorem de_K_batch_16 : decode mb_K_batch 16 = .ok (.athrow, 1) := by decide +kernel
theorem de_K_batch_17 : decode mb_K_batch 17 = .ok (.aload_n 0, 1) := by decide +kernel
theorem de_K_batch_18 : decode mb_K_batch 18 = .ok (.iconst 1, 1) := by decide +kernel
theorem de_K_batch_19 : decode mb_K_batch 19 = .ok (.putfield 50, 3) := by decide +kernel
theorem de_K_batch_22 : decode mb_K_batch 22 = .ok (.return_, 1) := by decide +kernel
theorem de_K_end_0 : decode mb_K_end 0 = .ok (.aload_n 0, 1) := by decide +kernel
theorem de_K_end_1 : decode mb_K_end 1 = .ok (.getfield 50, 3) := by decide +kernel
theorem de_K_end_4 : decode mb_K_end 4 = .ok (.ifCond .ne 13, 3) := by decide +kernel
theorem de_K_end_7 : decode mb_K_end 7 = .ok (.new 68, 3) := by decide +kernel
theorem de_K_end_10 : decode mb_K_end 10 = .ok (.dup, 1) := by decide +kernel
theorem de_K_end_11 : decode mb_K_end 11 = .ok (.ldc 75, 2) := by decide +kernel
theorem de_K_end_13 : decode mb_K_end 13 = .ok (.invokespecial 72, 3) := by decide +kernel
theorem de_K_end_16 : decode mb_K_end 16 = .ok (.athrow, 1) := by decide +kernel
theorem de_K_end_17 : decode mb_K_end 17 = .ok (.iload_n 1, 1) := by decide +kernel
theorem de_K_end_18 : decode mb_K_end 18 = .ok (.ifCond .eq 13, 3) := by decide +kernel
theorem de_K_end_21 : decode mb_K_end 21 = .ok (.aload_n 0, 1) := by decide +kernel
theorem de_K_end_22 : decode mb_K_end 22 = .ok (.getfield 18, 3) := by decide +kernel
theorem de_K_end_25 : decode mb_K_end 25 = .ok (.invokevirtual 77, 3) := by decide +kernel
theorem de_K_end_28 : decode mb_K_end 28 = .ok (.goto 4, 3) := by decide +kernel
theorem de_K_end_31 : decode mb_K_end 31 = .ok (.iconst 0, 1) := by decide +kernel
theorem de_K_end_32 : decode mb_K_end 32 = .ok (.istore_n 2, 1) := by decide +kernel
theorem de_K_end_33 : decode mb_K_end 33 = .ok (.aload_n 0, 1) := by decide +kernel
theorem de_K_end_34 : decode mb_K_end 34 = .ok (.invokevirtual 81, 3) := by decide +kernel
theorem de_K_end_37 : decode mb_K_end 37 = .ok (.iload_n 2, 1) := by decide +kernel
theorem de_K_end_38 : decode mb_K_end 38 = .ok (.iadd, 1) := by decide +kernel
theorem de_K_end_39 : decode mb_K_end 39 = .ok (.sipush 600, 3) := by decide +kernel
theorem de_K_end_42 : decode mb_K_end 42 = .ok (.if_icmp .le 13, 3) := by decide +kernel
theorem de_K_end_45 : decode mb_K_end 45 = .ok (.new 84, 3) := by decide +kernel
theorem de_K_end_48 : decode mb_K_end 48 = .ok (.dup, 1) := by decide +kernel
theorem de_K_end_49 : decode mb_K_end 49 = .ok (.ldc 86, 2) := by decide +kernel
theorem de_K_end_51 : decode mb_K_end 51 = .ok (.invokespecial 88, 3) := by decide +kernel
theorem de_K_end_54 : decode mb_K_end 54 = .ok (.athrow, 1) := by decide +kernel
theorem de_K_end_55 : decode mb_K_end 55 = .ok (.iconst 0, 1) := by decide +kernel
theorem de_K_end_56 : decode mb_K_end 56 = .ok (.istore_n 3, 1) := by decide +kernel
theorem de_K_end_57 : decode mb_K_end 57 = .ok (.iload_n 3, 1) := by decide +kernel
theorem de_K_end_58 : decode mb_K_end 58 = .ok (.iload_n 2, 1) := by decide +kernel
theorem de_K_end_59 : decode mb_K_end 59 = .ok (.if_icmp .ge 21, 3) := by decide +kernel
theorem de_K_end_62 : decode mb_K_end 62 = .ok (.aload_n 0, 1) := by decide +kernel
theorem de_K_end_63 : decode mb_K_end 63 = .ok (.aload_n 0, 1) := by decide +kernel
theorem de_K_end_64 : decode mb_K_end 64 = .ok (.getfield 18, 3) := by decide +kernel
theorem de_K_end_67 : decode mb_K_end 67 = .ok (.iload_n 3, 1) := by decide +kernel
theorem de_K_end_68 : decode mb_K_end 68 = .ok (.invokevirtual 89, 3) := by decide +kernel
theorem de_K_end_71 : decode mb_K_end 71 = .ok (.invokevirtual 93, 3) := by decide +kernel
theorem de_K_end_74 : decode mb_K_end 74 = .ok (.iinc 3 1, 3) := by decide +kernel
theorem de_K_end_77 : decode mb_K_end 77 = .ok (.goto (-20), 3) := by decide +kernel
theorem de_K_end_80 : decode mb_K_end 80 = .ok (.aload_n 0, 1) := by decide +kernel
theorem de_K_end_81 : decode mb_K_end 81 = .ok (.bipush 24, 2) := by decide +kernel
theorem de_K_end_83 : decode mb_K_end 83 = .ok (.invokevirtual 97, 3) := by decide +kernel
theorem de_K_end_86 : decode mb_K_end 86 = .ok (.aload_n 0, 1) := by decide +kernel
theorem de_K_end_87 : decode mb_K_end 87 = .ok (.invokevirtual 100, 3) := by decide +kernel
theorem de_K_end_90 : decode mb_K_end 90 = .ok (.iload_n 2, 1) := by decide +kernel
theorem de_K_end_91 : decode mb_K_end 91 = .ok (.ireturn, 1) := by decide +kernel
theorem de_K_merge_0 : decode mb_K_merge 0 = .ok (.iload_n 1, 1) := by decide +kernel
theorem de_K_merge_1 : decode mb_K_merge 1 = .ok (.ifCond .lt 9, 3) := by decide +kernel
theorem de_K_merge_4 : decode mb_K_merge 4 = .ok (.iload_n 1, 1) := by decide +kernel
theorem de_K_merge_5 : decode mb_K_merge 5 = .ok (.bipush 100, 2) := by decide +kernel
theorem de_K_merge_7 : decode mb_K_merge 7 = .ok (.if_icmp .le 13, 3) := by decide +kernel
theorem de_K_merge_10 : decode mb_K_merge 10 = .ok (.new 103, 3) := by decide +kernel
theorem de_K_merge_13 : decode mb_K_merge 13 = .ok (.dup, 1) := by decide +kernel
theorem de_K_merge_14 : decode mb_K_merge 14 = .ok (.ldc 105, 2) := by decide +kernel
theorem de_K_merge_16 : decode mb_K_merge 16 = .ok (.invokespecial 107, 3) := by decide +kernel
theorem de_K_merge_19 : decode mb_K_merge 19 = .ok (.athrow, 1) := by decide +kernel
theorem de_K_merge_20 : decode mb_K_merge 20 = .ok (.iconst 0, 1) := by decide +kernel
theorem de_K_merge_21 : decode mb_K_merge 21 = .ok (.istore_n 2, 1) := by decide +kernel
theorem de_K_merge_22 : decode mb_K_merge 22 = .ok (.iload_n 2, 1) := by decide +kernel
theorem de_K_merge_23 : decode mb_K_merge 23 = .ok (.iload_n 1, 1) := by decide +kernel
theorem de_K_merge_24 : decode mb_K_merge 24 = .ok (.if_icmp .ge 16, 3) := by decide +kernel
theorem de_K_merge_27 : decode mb_K_merge 27 = .ok (.aload_n 0, 1) := by decide +kernel
theorem de_K_merge_28 : decode mb_K_merge 28 = .ok (.invokevirtual 108, 3) := by decide +kernel
theorem de_K_merge_31 : decode mb_K_merge 31 = .ok (.ifCond .eq 9, 3) := by decide +kernel
theorem de_K_merge_34 : decode mb_K_merge 34 = .ok (.iinc 2 1, 3) := by decide +kernel
theorem de_K_merge_37 : decode mb_K_merge 37 = .ok (.goto (-15), 3) := by decide +kernel
theorem de_K_merge_40 : decode mb_K_merge 40 = .ok (.iload_n 2, 1) := by decide +kernel
theorem de_K_merge_41 : decode mb_K_merge 41 = .ok (.ireturn, 1) := by decide +kernel
theorem de_K_mergeOnce_0 : decode mb_K_mergeOnce 0 = .ok (.aload_n 0, 1) := by decide +kernel
theorem de_K_mergeOnce_1 : decode mb_K_mergeOnce 1 = .ok (.invokevirtual 237, 3) := by decide +kernel
theorem de_K_mergeOnce_4 : decode mb_K_mergeOnce 4 = .ok (.istore_n 1, 1) := by decide +kernel
theorem de_K_mergeOnce_5 : decode mb_K_mergeOnce 5 = .ok (.iload_n 1, 1) := by decide +kernel
theorem de_K_mergeOnce_6 : decode mb_K_mergeOnce 6 = .ok (.ifCond .ge 5, 3) := by decide +kernel
theorem de_K_mergeOnce_9 : decode mb_K_mergeOnce 9 = .ok (.iconst 0, 1) := by decide +kernel
theorem de_K_mergeOnce_10 : decode mb_K_mergeOnce 10 = .ok (.ireturn, 1) := by decide +kernel
theorem de_K_mergeOnce_11 : decode mb_K_mergeOnce 11 = .ok (.aload_n 0, 1) := by decide +kernel
theorem de_K_mergeOnce_12 : decode mb_K_mergeOnce 12 = .ok (.iload_n 1, 1) := by decide +kernel
theorem de_K_mergeOnce_13 : decode mb_K_mergeOnce 13 = .ok (.iconst 1, 1) := by decide +kernel
theorem de_K_mergeOnce_14 : decode mb_K_mergeOnce 14 = .ok (.iadd, 1) := by decide +kernel
theorem de_K_mergeOnce_15 : decode mb_K_mergeOnce 15 = .ok (.invokevirtual 240, 3) := by decide +kernel
theorem de_K_mergeOnce_18 : decode mb_K_mergeOnce 18 = .ok (.istore_n 2, 1) := by decide +kernel
theorem de_K_mergeOnce_19 : decode mb_K_mergeOnce 19 = .ok (.aload_n 0, 1) := by decide +kernel
theorem de_K_mergeOnce_20 : decode mb_K_mergeOnce 20 = .ok (.getfield 34, 3) := by decide +kernel
theorem de_K_mergeOnce_23 : decode mb_K_mergeOnce 23 = .ok (.iconst 0, 1) := by decide +kernel
theorem de_K_mergeOnce_24 : decode mb_K_mergeOnce 24 = .ok (.invokevirtual 112, 3) := by decide +kernel
theorem de_K_mergeOnce_27 : decode mb_K_mergeOnce 27 = .ok (.aload_n 0, 1) := by decide +kernel
theorem de_K_mergeOnce_28 : decode mb_K_mergeOnce 28 = .ok (.getfield 23, 3) := by decide +kernel
theorem de_K_mergeOnce_31 : decode mb_K_mergeOnce 31 = .ok (.iload_n 1, 1) := by decide +kernel
theorem de_K_mergeOnce_32 : decode mb_K_mergeOnce 32 = .ok (.aaload, 1) := by decide +kernel
theorem de_K_mergeOnce_33 : decode mb_K_mergeOnce 33 = .ok (.aload_n 0, 1) := by decide +kernel
theorem de_K_mergeOnce_34 : decode mb_K_mergeOnce 34 = .ok (.getfield 34, 3) := by decide +kernel
theorem de_K_mergeOnce_37 : decode mb_K_mergeOnce 37 = .ok (.invokevirtual 234, 3) := by decide +kernel
theorem de_K_mergeOnce_40 : decode mb_K_mergeOnce 40 = .ok (.aload_n 0, 1) := by decide +kernel
theorem de_K_mergeOnce_41 : decode mb_K_mergeOnce 41 = .ok (.getfield 34, 3) := by decide +kernel
theorem de_K_mergeOnce_44 : decode mb_K_mergeOnce 44 = .ok (.invokevirtual 218, 3) := by decide +kernel
theorem de_K_mergeOnce_47 : decode mb_K_mergeOnce 47 = .ok (.aload_n 0, 1) := by decide +kernel
theorem de_K_mergeOnce_48 : decode mb_K_mergeOnce 48 = .ok (.iload_n 2, 1) := by decide +kernel
theorem de_K_mergeOnce_49 : decode mb_K_mergeOnce 49 = .ok (.invokevirtual 243, 3) := by decide +kernel
theorem de_K_mergeOnce_52 : decode mb_K_mergeOnce 52 = .ok (.aload_n 0, 1) := by decide +kernel
theorem de_K_mergeOnce_53 : decode mb_K_mergeOnce 53 = .ok (.getfield 23, 3) := by decide +kernel
theorem de_K_mergeOnce_56 : decode mb_K_mergeOnce 56 = .ok (.iload_n 1, 1) := by decide +kernel
theorem de_K_mergeOnce_57 : decode mb_K_mergeOnce 57 = .ok (.aaload, 1) := by decide +kernel
theorem de_K_mergeOnce_58 : decode mb_K_mergeOnce 58 = .ok (.invokevirtual 247, 3) := by decide +kernel
theorem de_K_mergeOnce_61 : decode mb_K_mergeOnce 61 = .ok (.aload_n 0, 1) := by decide +kernel
theorem de_K_mergeOnce_62 : decode mb_K_mergeOnce 62 = .ok (.iload_n 1, 1) := by decide +kernel
theorem de_K_mergeOnce_63 : decode mb_K_mergeOnce 63 = .ok (.iconst 1, 1) := by decide +kernel
theorem de_K_mergeOnce_64 : decode mb_K_mergeOnce 64 = .ok (.iadd, 1) := by decide +kernel
theorem de_K_mergeOnce_65 : decode mb_K_mergeOnce 65 = .ok (.aload_n 0, 1) := by decide +kernel
theorem de_K_mergeOnce_66 : decode mb_K_mergeOnce 66 = .ok (.getfield 37, 3) := by decide +kernel
theorem de_K_mergeOnce_69 : decode mb_K_mergeOnce 69 = .ok (.invokevirtual 221, 3) := by decide +kernel
theorem de_K_mergeOnce_72 : decode mb_K_mergeOnce 72 = .ok (.iconst 1, 1) := by decide +kernel
theorem de_K_mergeOnce_73 : decode mb_K_mergeOnce 73 = .ok (.ireturn, 1) := by decide +kernel
theorem de_K_leastLevelToMerge_0 : decode mb_K_leastLevelToMerge 0 = .ok (.iconst 0, 1) := by decide +kernel
theorem de_K_leastLevelToMerge_1 : decode mb_K_leastLevelToMerge 1 = .ok (.istore_n 1, 1) := by decide +kernel
theorem de_K_leastLevelToMerge_2 : decode mb_K_leastLevelToMerge 2 = .ok (.iload_n 1, 1) := by decide +kernel
theorem de_K_leastLevelToMerge_3 : decode mb_K_leastLevelToMerge 3 = .ok (.iconst 5, 1) := by decide +kernel
theorem de_K_leastLevelToMerge_4 : decode mb_K_leastLevelToMerge 4 = .ok (.if_icmp .ge 24, 3) := by decide +kernel
theorem de_K_leastLevelToMerge_7 : decode mb_K_leastLevelToMerge 7 = .ok (.aload_n 0, 1) := by decide +kernel
theorem de_K_leastLevelToMerge_8 : decode mb_K_leastLevelToMerge 8 = .ok (.getfield 23, 3) := by decide +kernel
theorem de_K_leastLevelToMerge_11 : decode mb_K_leastLevelToMerge 11 = .ok (.iload_n 1, 1) := by decide +kernel
theorem de_K_leastLevelToMerge_12 : decode mb_K_leastLevelToMerge 12 = .ok (.aaload, 1) := by decide +kernel
theorem de_K_leastLevelToMerge_13 : decode mb_K_leastLevelToMerge 13 = .ok (.invokevirtual 191, 3) := by decide +kernel
theorem de_K_leastLevelToMerge_16 : decode mb_K_leastLevelToMerge 16 = .ok (.iconst 4, 1) := by decide +kernel
theorem de_K_leastLevelToMerge_17 : decode mb_K_leastLevelToMerge 17 = .ok (.if_icmp .lt 5, 3) := by decide +kernel
theorem de_K_leastLevelToMerge_20 : decode mb_K_leastLevelToMerge 20 = .ok (.iload_n 1, 1) := by decide +kernel
theorem de_K_leastLevelToMerge_21 : decode mb_K_leastLevelToMerge 21 = .ok (.ireturn, 1) := by decide +kernel
theorem de_K_leastLevelToMerge_22 : decode mb_K_leastLevelToMerge 22 = .ok (.iinc 1 1, 3) := by decide +kernel
theorem de_K_leastLevelToMerge_25 : decode mb_K_leastLevelToMerge 25 = .ok (.goto (-23), 3) := by decide +kernel
theorem de_K_leastLevelToMerge_28 : decode mb_K_leastLevelToMerge 28 = .ok (.iconst (-1), 1) := by decide +kernel
theorem de_K_leastLevelToMerge_29 : decode mb_K_leastLevelToMerge 29 = .ok (.ireturn, 1) := by decide +kernel
theorem de_K_areEmptyFrom_0 : decode mb_K_areEmptyFrom 0 = .ok (.iload_n 1, 1) := by decide +kernel
theorem de_K_areEmptyFrom_1 : decode mb_K_areEmptyFrom 1 = .ok (.istore_n 2, 1) := by decide +kernel
theorem de_K_areEmptyFrom_2 : decode mb_K_areEmptyFrom 2 = .ok (.iload_n 2, 1) := by decide +kernel
theorem de_K_areEmptyFrom_3 : decode mb_K_areEmptyFrom 3 = .ok (.bipush 6, 2) := by decide +kernel
theorem de_K_areEmptyFrom_5 : decode mb_K_areEmptyFrom 5 = .ok (.if_icmp .ge 23, 3) := by decide +kernel
theorem de_K_areEmptyFrom_8 : decode mb_K_areEmptyFrom 8 = .ok (.aload_n 0, 1) := by decide +kernel
theorem de_K_areEmptyFrom_9 : decode mb_K_areEmptyFrom 9 = .ok (.getfield 23, 3) := by decide +kernel
theorem de_K_areEmptyFrom_12 : decode mb_K_areEmptyFrom 12 = .ok (.iload_n 2, 1) := by decide +kernel
theorem de_K_areEmptyFrom_13 : decode mb_K_areEmptyFrom 13 = .ok (.aaload, 1) := by decide +kernel
theorem de_K_areEmptyFrom_14 : decode mb_K_areEmptyFrom 14 = .ok (.invokevirtual 191, 3) := by decide +kernel
theorem de_K_areEmptyFrom_17 : decode mb_K_areEmptyFrom 17 = .ok (.ifCond .le 5, 3) := by decide +kernel
theorem de_K_areEmptyFrom_20 : decode mb_K_areEmptyFrom 20 = .ok (.iconst 0, 1) := by decide +kernel
theorem de_K_areEmptyFrom_21 : decode mb_K_areEmptyFrom 21 = .ok (.ireturn, 1) := by decide +kernel
theorem de_K_areEmptyFrom_22 : decode mb_K_areEmptyFrom 22 = .ok (.iinc 2 1, 3) := by decide +kernel
theorem de_K_areEmptyFrom_25 : decode mb_K_areEmptyFrom 25 = .ok (.goto (-23), 3) := by decide +kernel
theorem de_K_areEmptyFrom_28 : decode mb_K_areEmptyFrom 28 = .ok (.iconst 1, 1) := by decide +kernel
theorem de_K_areEmptyFrom_29 : decode mb_K_areEmptyFrom 29 = .ok (.ireturn, 1) := by decide +kernel
theorem de_K_keepWhatIsSeen_0 : decode mb_K_keepWhatIsSeen 0 = .ok (.aload_n 0, 1) := by decide +kernel
theorem de_K_keepWhatIsSeen_1 : decode mb_K_keepWhatIsSeen 1 = .ok (.getfield 37, 3) := by decide +kernel
theorem de_K_keepWhatIsSeen_4 : decode mb_K_keepWhatIsSeen 4 = .ok (.iconst 0, 1) := by decide +kernel
theorem de_K_keepWhatIsSeen_5 : decode mb_K_keepWhatIsSeen 5 = .ok (.invokevirtual 112, 3) := by decide +kernel
theorem de_K_keepWhatIsSeen_8 : decode mb_K_keepWhatIsSeen 8 = .ok (.iconst 0, 1) := by decide +kernel
theorem de_K_keepWhatIsSeen_9 : decode mb_K_keepWhatIsSeen 9 = .ok (.istore_n 2, 1) := by decide +kernel
theorem de_K_keepWhatIsSeen_10 : decode mb_K_keepWhatIsSeen 10 = .ok (.iload_n 2, 1) := by decide +kernel
theorem de_K_keepWhatIsSeen_11 : decode mb_K_keepWhatIsSeen 11 = .ok (.aload_n 0, 1) := by decide +kernel
theorem de_K_keepWhatIsSeen_12 : decode mb_K_keepWhatIsSeen 12 = .ok (.getfield 34, 3) := by decide +kernel
theorem de_K_keepWhatIsSeen_15 : decode mb_K_keepWhatIsSeen 15 = .ok (.invokevirtual 77, 3) := by decide +kernel
theorem de_K_keepWhatIsSeen_18 : decode mb_K_keepWhatIsSeen 18 = .ok (.if_icmp .ge 80, 3) := by decide +kernel
theorem de_K_keepWhatIsSeen_21 : decode mb_K_keepWhatIsSeen 21 = .ok (.aload_n 0, 1) := by decide +kernel
theorem de_K_keepWhatIsSeen_22 : decode mb_K_keepWhatIsSeen 22 = .ok (.getfield 34, 3) := by decide +kernel
theorem de_K_keepWhatIsSeen_25 : decode mb_K_keepWhatIsSeen 25 = .ok (.iload_n 2, 1) := by decide +kernel
theorem de_K_keepWhatIsSeen_26 : decode mb_K_keepWhatIsSeen 26 = .ok (.invokevirtual 89, 3) := by decide +kernel
theorem de_K_keepWhatIsSeen_29 : decode mb_K_keepWhatIsSeen 29 = .ok (.astore_n 3, 1) := by decide +kernel
theorem de_K_keepWhatIsSeen_30 : decode mb_K_keepWhatIsSeen 30 = .ok (.aload_n 3, 1) := by decide +kernel
theorem de_K_keepWhatIsSeen_31 : decode mb_K_keepWhatIsSeen 31 = .ok (.ifnull 29, 3) := by decide +kernel
theorem de_K_keepWhatIsSeen_34 : decode mb_K_keepWhatIsSeen 34 = .ok (.aload_n 0, 1) := by decide +kernel
theorem de_K_keepWhatIsSeen_35 : decode mb_K_keepWhatIsSeen 35 = .ok (.aload_n 3, 1) := by decide +kernel
theorem de_K_keepWhatIsSeen_36 : decode mb_K_keepWhatIsSeen 36 = .ok (.aload_n 0, 1) := by decide +kernel
theorem de_K_keepWhatIsSeen_37 : decode mb_K_keepWhatIsSeen 37 = .ok (.getfield 34, 3) := by decide +kernel
theorem de_K_keepWhatIsSeen_40 : decode mb_K_keepWhatIsSeen 40 = .ok (.iload_n 2, 1) := by decide +kernel
theorem de_K_keepWhatIsSeen_41 : decode mb_K_keepWhatIsSeen 41 = .ok (.iconst 1, 1) := by decide +kernel
theorem de_K_keepWhatIsSeen_42 : decode mb_K_keepWhatIsSeen 42 = .ok (.isub, 1) := by decide +kernel
theorem de_K_keepWhatIsSeen_43 : decode mb_K_keepWhatIsSeen 43 = .ok (.invokevirtual 89, 3) := by decide +kernel
theorem de_K_keepWhatIsSeen_46 : decode mb_K_keepWhatIsSeen 46 = .ok (.invokevirtual 250, 3) := by decide +kernel
theorem de_K_keepWhatIsSeen_49 : decode mb_K_keepWhatIsSeen 49 = .ok (.ifCond .eq 11, 3) := by decide +kernel
theorem de_K_keepWhatIsSeen_52 : decode mb_K_keepWhatIsSeen 52 = .ok (.aload_n 0, 1) := by decide +kernel
theorem de_K_keepWhatIsSeen_53 : decode mb_K_keepWhatIsSeen 53 = .ok (.getfield 37, 3) := by decide +kernel
theorem de_K_keepWhatIsSeen_56 : decode mb_K_keepWhatIsSeen 56 = .ok (.aload_n 3, 1) := by decide +kernel
theorem de_K_keepWhatIsSeen_57 : decode mb_K_keepWhatIsSeen 57 = .ok (.invokevirtual 212, 3) := by decide +kernel
theorem de_K_keepWhatIsSeen_60 : decode mb_K_keepWhatIsSeen 60 = .ok (.iload_n 1, 1) := by decide +kernel
theorem de_K_keepWhatIsSeen_61 : decode mb_K_keepWhatIsSeen 61 = .ok (.ifCond .eq 31, 3) := by decide +kernel
theorem de_K_keepWhatIsSeen_64 : decode mb_K_keepWhatIsSeen 64 = .ok (.aload_n 3, 1) := by decide +kernel
theorem de_K_keepWhatIsSeen_65 : decode mb_K_keepWhatIsSeen 65 = .ok (.ifnull 27, 3) := by decide +kernel
theorem de_K_keepWhatIsSeen_68 : decode mb_K_keepWhatIsSeen 68 = .ok (.aload_n 3, 1) := by decide +kernel
theorem de_K_keepWhatIsSeen_69 : decode mb_K_keepWhatIsSeen 69 = .ok (.aload_n 0, 1) := by decide +kernel
theorem de_K_keepWhatIsSeen_70 : decode mb_K_keepWhatIsSeen 70 = .ok (.getfield 34, 3) := by decide +kernel
theorem de_K_keepWhatIsSeen_73 : decode mb_K_keepWhatIsSeen 73 = .ok (.iload_n 2, 1) := by decide +kernel
theorem de_K_keepWhatIsSeen_74 : decode mb_K_keepWhatIsSeen 74 = .ok (.iconst 1, 1) := by decide +kernel
theorem de_K_keepWhatIsSeen_75 : decode mb_K_keepWhatIsSeen 75 = .ok (.iadd, 1) := by decide +kernel
theorem de_K_keepWhatIsSeen_76 : decode mb_K_keepWhatIsSeen 76 = .ok (.invokevirtual 89, 3) := by decide +kernel
theorem de_K_keepWhatIsSeen_79 : decode mb_K_keepWhatIsSeen 79 = .ok (.invokevirtual 254, 3) := by decide +kernel
theorem de_K_keepWhatIsSeen_82 : decode mb_K_keepWhatIsSeen 82 = .ok (.ifCond .ne 10, 3) := by decide +kernel
theorem de_K_keepWhatIsSeen_85 : decode mb_K_keepWhatIsSeen 85 = .ok (.aload_n 0, 1) := by decide +kernel
theorem de_K_keepWhatIsSeen_86 : decode mb_K_keepWhatIsSeen 86 = .ok (.getfield 37, 3) := by decide +kernel
theorem de_K_keepWhatIsSeen_89 : decode mb_K_keepWhatIsSeen 89 = .ok (.invokevirtual 258, 3) := by decide +kernel
theorem de_K_keepWhatIsSeen_92 : decode mb_K_keepWhatIsSeen 92 = .ok (.iinc 2 1, 3) := by decide +kernel
theorem de_K_keepWhatIsSeen_95 : decode mb_K_keepWhatIsSeen 95 = .ok (.goto (-85), 3) := by decide +kernel
theorem de_K_keepWhatIsSeen_98 : decode mb_K_keepWhatIsSeen 98 = .ok (.return_, 1) := by decide +kernel
theorem de_K_isSeen_0 : decode mb_K_isSeen 0 = .ok (.aload_n 2, 1) := by decide +kernel
theorem de_K_isSeen_1 : decode mb_K_isSeen 1 = .ok (.ifnull 11, 3) := by decide +kernel
theorem de_K_isSeen_4 : decode mb_K_isSeen 4 = .ok (.aload_n 1, 1) := by decide +kernel
theorem de_K_isSeen_5 : decode mb_K_isSeen 5 = .ok (.aload_n 2, 1) := by decide +kernel
theorem de_K_isSeen_6 : decode mb_K_isSeen 6 = .ok (.invokevirtual 254, 3) := by decide +kernel
theorem de_K_isSeen_9 : decode mb_K_isSeen 9 = .ok (.ifCond .ne 5, 3) := by decide +kernel
theorem de_K_isSeen_12 : decode mb_K_isSeen 12 = .ok (.iconst 1, 1) := by decide +kernel
theorem de_K_isSeen_13 : decode mb_K_isSeen 13 = .ok (.ireturn, 1) := by decide +kernel
theorem de_K_isSeen_14 : decode mb_K_isSeen 14 = .ok (.aload_n 0, 1) := by decide +kernel
theorem de_K_isSeen_15 : decode mb_K_isSeen 15 = .ok (.getfield 30, 3) := by decide +kernel
theorem de_K_isSeen_18 : decode mb_K_isSeen 18 = .ok (.aload_n 1, 1) := by decide +kernel
theorem de_K_isSeen_19 : decode mb_K_isSeen 19 = .ok (.getfield 188, 3) := by decide +kernel
theorem de_K_isSeen_22 : decode mb_K_isSeen 22 = .ok (.aload_n 2, 1) := by decide +kernel
theorem de_K_isSeen_23 : decode mb_K_isSeen 23 = .ok (.getfield 188, 3) := by decide +kernel
theorem de_K_isSeen_26 : decode mb_K_isSeen 26 = .ok (.invokevirtual 261, 3) := by decide +kernel
theorem de_K_isSeen_29 : decode mb_K_isSeen 29 = .ok (.ireturn, 1) := by decide +kernel
theorem de_K_snapshot_0 : decode mb_K_snapshot 0 = .ok (.aload_n 0, 1) := by decide +kernel
theorem de_K_snapshot_1 : decode mb_K_snapshot 1 = .ok (.getfield 30, 3) := by decide +kernel
theorem de_K_snapshot_4 : decode mb_K_snapshot 4 = .ok (.invokevirtual 124, 3) := by decide +kernel
theorem de_K_snapshot_7 : decode mb_K_snapshot 7 = .ok (.istore_n 1, 1) := by decide +kernel
theorem de_K_snapshot_8 : decode mb_K_snapshot 8 = .ok (.iload_n 1, 1) := by decide +kernel
theorem de_K_snapshot_9 : decode mb_K_snapshot 9 = .ok (.ifCond .ge 13, 3) := by decide +kernel
theorem de_K_snapshot_12 : decode mb_K_snapshot 12 = .ok (.new 84, 3) := by decide +kernel
theorem de_K_snapshot_15 : decode mb_K_snapshot 15 = .ok (.dup, 1) := by decide +kernel
theorem de_K_snapshot_16 : decode mb_K_snapshot 16 = .ok (.ldc 127, 2) := by decide +kernel
theorem de_K_snapshot_18 : decode mb_K_snapshot 18 = .ok (.invokespecial 88, 3) := by decide +kernel
theorem de_K_snapshot_21 : decode mb_K_snapshot 21 = .ok (.athrow, 1) := by decide +kernel
theorem de_K_snapshot_22 : decode mb_K_snapshot 22 = .ok (.aload_n 0, 1) := by decide +kernel
theorem de_K_snapshot_23 : decode mb_K_snapshot 23 = .ok (.getfield 30, 3) := by decide +kernel
theorem de_K_snapshot_26 : decode mb_K_snapshot 26 = .ok (.iload_n 1, 1) := by decide +kernel
theorem de_K_snapshot_27 : decode mb_K_snapshot 27 = .ok (.aload_n 0, 1) := by decide +kernel
theorem de_K_snapshot_28 : decode mb_K_snapshot 28 = .ok (.getfield 54, 3) := by decide +kernel
theorem de_K_snapshot_31 : decode mb_K_snapshot 31 = .ok (.invokevirtual 129, 3) := by decide +kernel
theorem de_K_snapshot_34 : decode mb_K_snapshot 34 = .ok (.iload_n 1, 1) := by decide +kernel
theorem de_K_snapshot_35 : decode mb_K_snapshot 35 = .ok (.ireturn, 1) := by decide +kernel
theorem de_K_release_0 : decode mb_K_release 0 = .ok (.aload_n 0, 1) := by decide +kernel
theorem de_K_release_1 : decode mb_K_release 1 = .ok (.getfield 30, 3) := by decide +kernel
theorem de_K_release_4 : decode mb_K_release 4 = .ok (.iload_n 1, 1) := by decide +kernel
theorem de_K_release_5 : decode mb_K_release 5 = .ok (.invokevirtual 133, 3) := by decide +kernel
theorem de_K_release_8 : decode mb_K_release 8 = .ok (.ifCond .ne 13, 3) := by decide +kernel
theorem de_K_release_11 : decode mb_K_release 11 = .ok (.new 103, 3) := by decide +kernel
theorem de_K_release_14 : decode mb_K_release 14 = .ok (.dup, 1) := by decide +kernel
theorem de_K_release_15 : decode mb_K_release 15 = .ok (.ldc 137, 2) := by decide +kernel
theorem de_K_release_17 : decode mb_K_release 17 = .ok (.invokespecial 107, 3) := by decide +kernel
theorem de_K_release_20 : decode mb_K_release 20 = .ok (.athrow, 1) := by decide +kernel
theorem de_K_release_21 : decode mb_K_release 21 = .ok (.aload_n 0, 1) := by decide +kernel
theorem de_K_release_22 : decode mb_K_release 22 = .ok (.getfield 30, 3) := by decide +kernel
theorem de_K_release_25 : decode mb_K_release 25 = .ok (.iload_n 1, 1) := by decide +kernel
theorem de_K_release_26 : decode mb_K_release 26 = .ok (.invokevirtual 139, 3) := by decide +kernel
theorem de_K_release_29 : decode mb_K_release 29 = .ok (.return_, 1) := by decide +kernel
theorem de_K_get_0 : decode mb_K_get 0 = .ok (.aload_n 0, 1) := by decide +kernel
theorem de_K_get_1 : decode mb_K_get 1 = .ok (.iload_n 1, 1) := by decide +kernel
theorem de_K_get_2 : decode mb_K_get 2 = .ok (.iload_n 2, 1) := by decide +kernel
theorem de_K_get_3 : decode mb_K_get 3 = .ok (.invokevirtual 142, 3) := by decide +kernel
theorem de_K_get_6 : decode mb_K_get 6 = .ok (.aload_n 0, 1) := by decide +kernel
theorem de_K_get_7 : decode mb_K_get 7 = .ok (.iload_n 2, 1) := by decide +kernel
theorem de_K_get_8 : decode mb_K_get 8 = .ok (.aload_n 0, 1) := by decide +kernel
theorem de_K_get_9 : decode mb_K_get 9 = .ok (.iload_n 1, 1) := by decide +kernel
theorem de_K_get_10 : decode mb_K_get 10 = .ok (.invokevirtual 145, 3) := by decide +kernel
theorem de_K_get_13 : decode mb_K_get 13 = .ok (.invokevirtual 149, 3) := by decide +kernel
theorem de_K_get_16 : decode mb_K_get 16 = .ok (.astore_n 3, 1) := by decide +kernel
theorem de_K_get_17 : decode mb_K_get 17 = .ok (.aload_n 3, 1) := by decide +kernel
theorem de_K_get_18 : decode mb_K_get 18 = .ok (.ifnull 10, 3) := by decide +kernel
theorem de_K_get_21 : decode mb_K_get 21 = .ok (.aload_n 3, 1) := by decide +kernel
theorem de_K_get_22 : decode mb_K_get 22 = .ok (.getfield 153, 3) := by decide +kernel
theorem de_K_get_25 : decode mb_K_get 25 = .ok (.ifCond .eq 13, 3) := by decide +kernel
theorem de_K_get_28 : decode mb_K_get 28 = .ok (.new 156, 3) := by decide +kernel
theorem de_K_get_31 : decode mb_K_get 31 = .ok (.dup, 1) := by decide +kernel
theorem de_K_get_32 : decode mb_K_get 32 = .ok (.ldc 158, 2) := by decide +kernel
theorem de_K_get_34 : decode mb_K_get 34 = .ok (.invokespecial 160, 3) := by decide +kernel
theorem de_K_get_37 : decode mb_K_get 37 = .ok (.athrow, 1) := by decide +kernel
theorem de_K_get_38 : decode mb_K_get 38 = .ok (.aload_n 3, 1) := by decide +kernel
theorem de_K_get_39 : decode mb_K_get 39 = .ok (.getfield 161, 3) := by decide +kernel
theorem de_K_get_42 : decode mb_K_get 42 = .ok (.lreturn, 1) := by decide +kernel
theorem de_K_requireKeyAndView_0 : decode mb_K_requireKeyAndView 0 = .ok (.iload_n 2, 1) := by decide +kernel
theorem de_K_requireKeyAndView_1 : decode mb_K_requireKeyAndView 1 = .ok (.invokestatic 200, 3) := by decide +kernel
theorem de_K_requireKeyAndView_4 : decode mb_K_requireKeyAndView 4 = .ok (.ifCond .eq 19, 3) := by decide +kernel
theorem de_K_requireKeyAndView_7 : decode mb_K_requireKeyAndView 7 = .ok (.iload_n 1, 1) := by decide +kernel
theorem de_K_requireKeyAndView_8 : decode mb_K_requireKeyAndView 8 = .ok (.iconst (-1), 1) := by decide +kernel
theorem de_K_requireKeyAndView_9 : decode mb_K_requireKeyAndView 9 = .ok (.if_icmp .eq 25, 3) := by decide +kernel
theorem de_K_requireKeyAndView_12 : decode mb_K_requireKeyAndView 12 = .ok (.aload_n 0, 1) := by decide +kernel
theorem de_K_requireKeyAndView_13 : decode mb_K_requireKeyAndView 13 = .ok (.getfield 30, 3) := by decide +kernel
theorem de_K_requireKeyAndView_16 : decode mb_K_requireKeyAndView 16 = .ok (.iload_n 1, 1) := by decide +kernel
theorem de_K_requireKeyAndView_17 : decode mb_K_requireKeyAndView 17 = .ok (.invokevirtual 133, 3) := by decide +kernel
theorem de_K_requireKeyAndView_20 : decode mb_K_requireKeyAndView 20 = .ok (.ifCond .ne 14, 3) := by decide +kernel
theorem de_K_requireKeyAndView_23 : decode mb_K_requireKeyAndView 23 = .ok (.new 103, 3) := by decide +kernel
theorem de_K_requireKeyAndView_26 : decode mb_K_requireKeyAndView 26 = .ok (.dup, 1) := by decide +kernel
theorem de_K_requireKeyAndView_27 : decode mb_K_requireKeyAndView 27 = .ok (.ldc_w 265, 3) := by decide +kernel
theorem de_K_requireKeyAndView_30 : decode mb_K_requireKeyAndView 30 = .ok (.invokespecial 107, 3) := by decide +kernel
theorem de_K_requireKeyAndView_33 : decode mb_K_requireKeyAndView 33 = .ok (.athrow, 1) := by decide +kernel
theorem de_K_requireKeyAndView_34 : decode mb_K_requireKeyAndView 34 = .ok (.return_, 1) := by decide +kernel
theorem de_K_sequenceOf_0 : decode mb_K_sequenceOf 0 = .ok (.iload_n 1, 1) := by decide +kernel
theorem de_K_sequenceOf_1 : decode mb_K_sequenceOf 1 = .ok (.iconst (-1), 1) := by decide +kernel
theorem de_K_sequenceOf_2 : decode mb_K_sequenceOf 2 = .ok (.if_icmp .ne 10, 3) := by decide +kernel
theorem de_K_sequenceOf_5 : decode mb_K_sequenceOf 5 = .ok (.aload_n 0, 1) := by decide +kernel
theorem de_K_sequenceOf_6 : decode mb_K_sequenceOf 6 = .ok (.getfield 54, 3) := by decide +kernel
theorem de_K_sequenceOf_9 : decode mb_K_sequenceOf 9 = .ok (.goto 11, 3) := by decide +kernel
theorem de_K_sequenceOf_12 : decode mb_K_sequenceOf 12 = .ok (.aload_n 0, 1) := by decide +kernel
theorem de_K_sequenceOf_13 : decode mb_K_sequenceOf 13 = .ok (.getfield 30, 3) := by decide +kernel
theorem de_K_sequenceOf_16 : decode mb_K_sequenceOf 16 = .ok (.iload_n 1, 1) := by decide +kernel
theorem de_K_sequenceOf_17 : decode mb_K_sequenceOf 17 = .ok (.invokevirtual 267, 3) := by decide +kernel
theorem de_K_sequenceOf_20 : decode mb_K_sequenceOf 20 = .ok (.ireturn, 1) := by decide +kernel
theorem de_K_look_0 : decode mb_K_look 0 = .ok (.aload_n 0, 1) := by decide +kernel
theorem de_K_look_1 : decode mb_K_look 1 = .ok (.iconst 0, 1) := by decide +kernel
theorem de_K_look_2 : decode mb_K_look 2 = .ok (.putfield 57, 3) := by decide +kernel
theorem de_K_look_5 : decode mb_K_look 5 = .ok (.aload_n 0, 1) := by decide +kernel
theorem de_K_look_6 : decode mb_K_look 6 = .ok (.iconst 0, 1) := by decide +kernel
theorem de_K_look_7 : decode mb_K_look 7 = .ok (.putfield 60, 3) := by decide +kernel
theorem de_K_look_10 : decode mb_K_look 10 = .ok (.aload_n 0, 1) := by decide +kernel
theorem de_K_look_11 : decode mb_K_look 11 = .ok (.getfield 14, 3) := by decide +kernel
theorem de_K_look_14 : decode mb_K_look 14 = .ok (.iload_n 1, 1) := by decide +kernel
theorem de_K_look_15 : decode mb_K_look 15 = .ok (.iload_n 2, 1) := by decide +kernel
theorem de_K_look_16 : decode mb_K_look 16 = .ok (.invokevirtual 270, 3) := by decide +kernel
theorem de_K_look_19 : decode mb_K_look 19 = .ok (.astore_n 3, 1) := by decide +kernel
theorem de_K_look_20 : decode mb_K_look 20 = .ok (.iconst 0, 1) := by decide +kernel
theorem de_K_look_21 : decode mb_K_look 21 = .ok (.istore 4, 2) := by decide +kernel
theorem de_K_look_23 : decode mb_K_look 23 = .ok (.aload_n 3, 1) := by decide +kernel
theorem de_K_look_24 : decode mb_K_look 24 = .ok (.ifnonnull 30, 3) := by decide +kernel
theorem de_K_look_27 : decode mb_K_look 27 = .ok (.iload 4, 2) := by decide +kernel
theorem de_K_look_29 : decode mb_K_look 29 = .ok (.bipush 6, 2) := by decide +kernel
theorem de_K_look_31 : decode mb_K_look 31 = .ok (.if_icmp .ge 23, 3) := by decide +kernel
theorem de_K_look_34 : decode mb_K_look 34 = .ok (.aload_n 0, 1) := by decide +kernel
theorem de_K_look_35 : decode mb_K_look 35 = .ok (.aload_n 0, 1) := by decide +kernel
theorem de_K_look_36 : decode mb_K_look 36 = .ok (.getfield 23, 3) := by decide +kernel
theorem de_K_look_39 : decode mb_K_look 39 = .ok (.iload 4, 2) := by decide +kernel
theorem de_K_look_41 : decode mb_K_look 41 = .ok (.aaload, 1) := by decide +kernel
theorem de_K_look_42 : decode mb_K_look 42 = .ok (.iload_n 1, 1) := by decide +kernel
theorem de_K_look_43 : decode mb_K_look 43 = .ok (.iload_n 2, 1) := by decide +kernel
theorem de_K_look_44 : decode mb_K_look 44 = .ok (.invokevirtual 273, 3) := by decide +kernel
theorem de_K_look_47 : decode mb_K_look 47 = .ok (.astore_n 3, 1) := by decide +kernel
theorem de_K_look_48 : decode mb_K_look 48 = .ok (.iinc 4 1, 3) := by decide +kernel
theorem de_K_look_51 : decode mb_K_look 51 = .ok (.goto (-28), 3) := by decide +kernel
theorem de_K_look_54 : decode mb_K_look 54 = .ok (.aload_n 3, 1) := by decide +kernel
theorem de_K_look_55 : decode mb_K_look 55 = .ok (.areturn, 1) := by decide +kernel
theorem de_K_lookInLevel_0 : decode mb_K_lookInLevel 0 = .ok (.aconst_null, 1) := by decide +kernel
theorem de_K_lookInLevel_1 : decode mb_K_lookInLevel 1 = .ok (.astore 4, 2) := by decide +kernel
theorem de_K_lookInLevel_3 : decode mb_K_lookInLevel 3 = .ok (.aload_n 1, 1) := by decide +kernel
theorem de_K_lookInLevel_4 : decode mb_K_lookInLevel 4 = .ok (.invokevirtual 191, 3) := by decide +kernel
theorem de_K_lookInLevel_7 : decode mb_K_lookInLevel 7 = .ok (.iconst 1, 1) := by decide +kernel
theorem de_K_lookInLevel_8 : decode mb_K_lookInLevel 8 = .ok (.isub, 1) := by decide +kernel
theorem de_K_lookInLevel_9 : decode mb_K_lookInLevel 9 = .ok (.istore 5, 2) := by decide +kernel
theorem de_K_lookInLevel_11 : decode mb_K_lookInLevel 11 = .ok (.aload 4, 2) := by decide +kernel
theorem de_K_lookInLevel_13 : decode mb_K_lookInLevel 13 = .ok (.ifnonnull 46, 3) := by decide +kernel
theorem de_K_lookInLevel_16 : decode mb_K_lookInLevel 16 = .ok (.iload 5, 2) := by decide +kernel
theorem de_K_lookInLevel_18 : decode mb_K_lookInLevel 18 = .ok (.ifCond .lt 41, 3) := by decide +kernel
theorem de_K_lookInLevel_21 : decode mb_K_lookInLevel 21 = .ok (.aload_n 1, 1) := by decide +kernel
theorem de_K_lookInLevel_22 : decode mb_K_lookInLevel 22 = .ok (.iload 5, 2) := by decide +kernel
theorem de_K_lookInLevel_24 : decode mb_K_lookInLevel 24 = .ok (.invokevirtual 173, 3) := by decide +kernel
theorem de_K_lookInLevel_27 : decode mb_K_lookInLevel 27 = .ok (.astore 6, 2) := by decide +kernel
theorem de_K_lookInLevel_29 : decode mb_K_lookInLevel 29 = .ok (.aload 6, 2) := by decide +kernel
theorem de_K_lookInLevel_31 : decode mb_K_lookInLevel 31 = .ok (.ifnull 22, 3) := by decide +kernel
theorem de_K_lookInLevel_34 : decode mb_K_lookInLevel 34 = .ok (.aload 6, 2) := by decide +kernel
theorem de_K_lookInLevel_36 : decode mb_K_lookInLevel 36 = .ok (.iload_n 2, 1) := by decide +kernel
theorem de_K_lookInLevel_37 : decode mb_K_lookInLevel 37 = .ok (.invokevirtual 277, 3) := by decide +kernel
theorem de_K_lookInLevel_40 : decode mb_K_lookInLevel 40 = .ok (.ifCond .eq 13, 3) := by decide +kernel
theorem de_K_lookInLevel_43 : decode mb_K_lookInLevel 43 = .ok (.aload_n 0, 1) := by decide +kernel
theorem de_K_lookInLevel_44 : decode mb_K_lookInLevel 44 = .ok (.aload 6, 2) := by decide +kernel
theorem de_K_lookInLevel_46 : decode mb_K_lookInLevel 46 = .ok (.iload_n 2, 1) := by decide +kernel
theorem de_K_lookInLevel_47 : decode mb_K_lookInLevel 47 = .ok (.iload_n 3, 1) := by decide +kernel
theorem de_K_lookInLevel_48 : decode mb_K_lookInLevel 48 = .ok (.invokevirtual 280, 3) := by decide +kernel
theorem de_K_lookInLevel_51 : decode mb_K_lookInLevel 51 = .ok (.astore 4, 2) := by decide +kernel
theorem de_K_lookInLevel_53 : decode mb_K_lookInLevel 53 = .ok (.iinc 5 (-1), 3) := by decide +kernel
theorem de_K_lookInLevel_56 : decode mb_K_lookInLevel 56 = .ok (.goto (-45), 3) := by decide +kernel
theorem de_K_lookInLevel_59 : decode mb_K_lookInLevel 59 = .ok (.aload 4, 2) := by decide +kernel
theorem de_K_lookInLevel_61 : decode mb_K_lookInLevel 61 = .ok (.areturn, 1) := by decide +kernel
theorem de_K_probe_0 : decode mb_K_probe 0 = .ok (.aload_n 0, 1) := by decide +kernel
theorem de_K_probe_1 : decode mb_K_probe 1 = .ok (.dup, 1) := by decide +kernel
theorem de_K_probe_2 : decode mb_K_probe 2 = .ok (.getfield 57, 3) := by decide +kernel
theorem de_K_probe_5 : decode mb_K_probe 5 = .ok (.iconst 1, 1) := by decide +kernel
theorem de_K_probe_6 : decode mb_K_probe 6 = .ok (.iadd, 1) := by decide +kernel
theorem de_K_probe_7 : decode mb_K_probe 7 = .ok (.putfield 57, 3) := by decide +kernel
theorem de_K_probe_10 : decode mb_K_probe 10 = .ok (.aload_n 1, 1) := by decide +kernel
theorem de_K_probe_11 : decode mb_K_probe 11 = .ok (.invokevirtual 177, 3) := by decide +kernel
theorem de_K_probe_14 : decode mb_K_probe 14 = .ok (.iload_n 2, 1) := by decide +kernel
theorem de_K_probe_15 : decode mb_K_probe 15 = .ok (.invokevirtual 284, 3) := by decide +kernel
theorem de_K_probe_18 : decode mb_K_probe 18 = .ok (.ifCond .ne 13, 3) := by decide +kernel
theorem de_K_probe_21 : decode mb_K_probe 21 = .ok (.aload_n 0, 1) := by decide +kernel
theorem de_K_probe_22 : decode mb_K_probe 22 = .ok (.dup, 1) := by decide +kernel
theorem de_K_probe_23 : decode mb_K_probe 23 = .ok (.getfield 60, 3) := by decide +kernel
theorem de_K_probe_26 : decode mb_K_probe 26 = .ok (.iconst 1, 1) := by decide +kernel
theorem de_K_probe_27 : decode mb_K_probe 27 = .ok (.iadd, 1) := by decide +kernel
theorem de_K_probe_28 : decode mb_K_probe 28 = .ok (.putfield 60, 3) := by decide +kernel
theorem de_K_probe_31 : decode mb_K_probe 31 = .ok (.aload_n 1, 1) := by decide +kernel
theorem de_K_probe_32 : decode mb_K_probe 32 = .ok (.invokevirtual 177, 3) := by decide +kernel
theorem de_K_probe_35 : decode mb_K_probe 35 = .ok (.iload_n 2, 1) := by decide +kernel
theorem de_K_probe_36 : decode mb_K_probe 36 = .ok (.iload_n 3, 1) := by decide +kernel
theorem de_K_probe_37 : decode mb_K_probe 37 = .ok (.invokevirtual 270, 3) := by decide +kernel
theorem de_K_probe_40 : decode mb_K_probe 40 = .ok (.areturn, 1) := by decide +kernel
theorem de_K_next_0 : decode mb_K_next 0 = .ok (.aload_n 0, 1) := by decide +kernel
theorem de_K_next_1 : decode mb_K_next 1 = .ok (.iload_n 1, 1) := by decide +kernel
theorem de_K_next_2 : decode mb_K_next 2 = .ok (.iload_n 2, 1) := by decide +kernel
theorem de_K_next_3 : decode mb_K_next 3 = .ok (.invokevirtual 142, 3) := by decide +kernel
theorem de_K_next_6 : decode mb_K_next 6 = .ok (.aload_n 0, 1) := by decide +kernel
theorem de_K_next_7 : decode mb_K_next 7 = .ok (.aload_n 0, 1) := by decide +kernel
theorem de_K_next_8 : decode mb_K_next 8 = .ok (.iload_n 1, 1) := by decide +kernel
theorem de_K_next_9 : decode mb_K_next 9 = .ok (.invokevirtual 145, 3) := by decide +kernel
theorem de_K_next_12 : decode mb_K_next 12 = .ok (.invokevirtual 165, 3) := by decide +kernel
theorem de_K_next_15 : decode mb_K_next 15 = .ok (.iload_n 2, 1) := by decide +kernel
theorem de_K_next_16 : decode mb_K_next 16 = .ok (.istore_n 3, 1) := by decide +kernel
theorem de_K_next_17 : decode mb_K_next 17 = .ok (.iload_n 3, 1) := by decide +kernel
theorem de_K_next_18 : decode mb_K_next 18 = .ok (.sipush 1024, 3) := by decide +kernel
theorem de_K_next_21 : decode mb_K_next 21 = .ok (.if_icmp .ge 32, 3) := by decide +kernel
theorem de_K_next_24 : decode mb_K_next 24 = .ok (.aload_n 0, 1) := by decide +kernel
theorem de_K_next_25 : decode mb_K_next 25 = .ok (.getfield 42, 3) := by decide +kernel
theorem de_K_next_28 : decode mb_K_next 28 = .ok (.iload_n 3, 1) := by decide +kernel
theorem de_K_next_29 : decode mb_K_next 29 = .ok (.aaload, 1) := by decide +kernel
theorem de_K_next_30 : decode mb_K_next 30 = .ok (.astore 4, 2) := by decide +kernel
theorem de_K_next_32 : decode mb_K_next 32 = .ok (.aload 4, 2) := by decide +kernel
theorem de_K_next_34 : decode mb_K_next 34 = .ok (.ifnull 13, 3) := by decide +kernel
theorem de_K_next_37 : decode mb_K_next 37 = .ok (.aload 4, 2) := by decide +kernel
theorem de_K_next_39 : decode mb_K_next 39 = .ok (.getfield 153, 3) := by decide +kernel
theorem de_K_next_42 : decode mb_K_next 42 = .ok (.ifCond .ne 5, 3) := by decide +kernel
theorem de_K_next_45 : decode mb_K_next 45 = .ok (.iload_n 3, 1) := by decide +kernel
theorem de_K_next_46 : decode mb_K_next 46 = .ok (.ireturn, 1) := by decide +kernel
theorem de_K_next_47 : decode mb_K_next 47 = .ok (.iinc 3 1, 3) := by decide +kernel
theorem de_K_next_50 : decode mb_K_next 50 = .ok (.goto (-33), 3) := by decide +kernel
theorem de_K_next_53 : decode mb_K_next 53 = .ok (.iconst (-1), 1) := by decide +kernel
theorem de_K_next_54 : decode mb_K_next 54 = .ok (.ireturn, 1) := by decide +kernel
theorem de_K_noteNewestOfKeys_0 : decode mb_K_noteNewestOfKeys 0 = .ok (.iconst 0, 1) := by decide +kernel
theorem de_K_noteNewestOfKeys_1 : decode mb_K_noteNewestOfKeys 1 = .ok (.istore_n 2, 1) := by decide +kernel
theorem de_K_noteNewestOfKeys_2 : decode mb_K_noteNewestOfKeys 2 = .ok (.iload_n 2, 1) := by decide +kernel
theorem de_K_noteNewestOfKeys_3 : decode mb_K_noteNewestOfKeys 3 = .ok (.sipush 1024, 3) := by decide +kernel
theorem de_K_noteNewestOfKeys_6 : decode mb_K_noteNewestOfKeys 6 = .ok (.if_icmp .ge 16, 3) := by decide +kernel
theorem de_K_noteNewestOfKeys_9 : decode mb_K_noteNewestOfKeys 9 = .ok (.aload_n 0, 1) := by decide +kernel
theorem de_K_noteNewestOfKeys_10 : decode mb_K_noteNewestOfKeys 10 = .ok (.getfield 42, 3) := by decide +kernel
theorem de_K_noteNewestOfKeys_13 : decode mb_K_noteNewestOfKeys 13 = .ok (.iload_n 2, 1) := by decide +kernel
theorem de_K_noteNewestOfKeys_14 : decode mb_K_noteNewestOfKeys 14 = .ok (.aconst_null, 1) := by decide +kernel
theorem de_K_noteNewestOfKeys_15 : decode mb_K_noteNewestOfKeys 15 = .ok (.aastore, 1) := by decide +kernel
theorem de_K_noteNewestOfKeys_16 : decode mb_K_noteNewestOfKeys 16 = .ok (.iinc 2 1, 3) := by decide +kernel
theorem de_K_noteNewestOfKeys_19 : decode mb_K_noteNewestOfKeys 19 = .ok (.goto (-17), 3) := by decide +kernel
theorem de_K_noteNewestOfKeys_22 : decode mb_K_noteNewestOfKeys 22 = .ok (.aload_n 0, 1) := by decide +kernel
theorem de_K_noteNewestOfKeys_23 : decode mb_K_noteNewestOfKeys 23 = .ok (.invokevirtual 118, 3) := by decide +kernel
theorem de_K_noteNewestOfKeys_26 : decode mb_K_noteNewestOfKeys 26 = .ok (.iconst 0, 1) := by decide +kernel
theorem de_K_noteNewestOfKeys_27 : decode mb_K_noteNewestOfKeys 27 = .ok (.istore_n 2, 1) := by decide +kernel
theorem de_K_noteNewestOfKeys_28 : decode mb_K_noteNewestOfKeys 28 = .ok (.iload_n 2, 1) := by decide +kernel
theorem de_K_noteNewestOfKeys_29 : decode mb_K_noteNewestOfKeys 29 = .ok (.aload_n 0, 1) := by decide +kernel
theorem de_K_noteNewestOfKeys_30 : decode mb_K_noteNewestOfKeys 30 = .ok (.getfield 34, 3) := by decide +kernel
theorem de_K_noteNewestOfKeys_33 : decode mb_K_noteNewestOfKeys 33 = .ok (.invokevirtual 77, 3) := by decide +kernel
theorem de_K_noteNewestOfKeys_36 : decode mb_K_noteNewestOfKeys 36 = .ok (.if_icmp .ge 22, 3) := by decide +kernel
theorem de_K_noteNewestOfKeys_39 : decode mb_K_noteNewestOfKeys 39 = .ok (.aload_n 0, 1) := by decide +kernel
theorem de_K_noteNewestOfKeys_40 : decode mb_K_noteNewestOfKeys 40 = .ok (.aload_n 0, 1) := by decide +kernel
theorem de_K_noteNewestOfKeys_41 : decode mb_K_noteNewestOfKeys 41 = .ok (.getfield 34, 3) := by decide +kernel
theorem de_K_noteNewestOfKeys_44 : decode mb_K_noteNewestOfKeys 44 = .ok (.iload_n 2, 1) := by decide +kernel
theorem de_K_noteNewestOfKeys_45 : decode mb_K_noteNewestOfKeys 45 = .ok (.invokevirtual 89, 3) := by decide +kernel
theorem de_K_noteNewestOfKeys_48 : decode mb_K_noteNewestOfKeys 48 = .ok (.iload_n 1, 1) := by decide +kernel
theorem de_K_noteNewestOfKeys_49 : decode mb_K_noteNewestOfKeys 49 = .ok (.invokevirtual 287, 3) := by decide +kernel
theorem de_K_noteNewestOfKeys_52 : decode mb_K_noteNewestOfKeys 52 = .ok (.iinc 2 1, 3) := by decide +kernel
theorem de_K_noteNewestOfKeys_55 : decode mb_K_noteNewestOfKeys 55 = .ok (.goto (-27), 3) := by decide +kernel
theorem de_K_noteNewestOfKeys_58 : decode mb_K_noteNewestOfKeys 58 = .ok (.return_, 1) := by decide +kernel
theorem de_K_noteIfNewest_0 : decode mb_K_noteIfNewest 0 = .ok (.aload_n 1, 1) := by decide +kernel
theorem de_K_noteIfNewest_1 : decode mb_K_noteIfNewest 1 = .ok (.ifnull 21, 3) := by decide +kernel
theorem de_K_noteIfNewest_4 : decode mb_K_noteIfNewest 4 = .ok (.aload_n 1, 1) := by decide +kernel
theorem de_K_noteIfNewest_5 : decode mb_K_noteIfNewest 5 = .ok (.getfield 188, 3) := by decide +kernel
theorem de_K_noteIfNewest_8 : decode mb_K_noteIfNewest 8 = .ok (.iload_n 2, 1) := by decide +kernel
theorem de_K_noteIfNewest_9 : decode mb_K_noteIfNewest 9 = .ok (.if_icmp .gt 13, 3) := by decide +kernel
theorem de_K_noteIfNewest_12 : decode mb_K_noteIfNewest 12 = .ok (.aload_n 1, 1) := by decide +kernel
theorem de_K_noteIfNewest_13 : decode mb_K_noteIfNewest 13 = .ok (.getfield 185, 3) := by decide +kernel
theorem de_K_noteIfNewest_16 : decode mb_K_noteIfNewest 16 = .ok (.invokestatic 200, 3) := by decide +kernel
theorem de_K_noteIfNewest_19 : decode mb_K_noteIfNewest 19 = .ok (.ifCond .ne 4, 3) := by decide +kernel
theorem de_K_noteIfNewest_22 : decode mb_K_noteIfNewest 22 = .ok (.return_, 1) := by decide +kernel
theorem de_K_noteIfNewest_23 : decode mb_K_noteIfNewest 23 = .ok (.aload_n 0, 1) := by decide +kernel
theorem de_K_noteIfNewest_24 : decode mb_K_noteIfNewest 24 = .ok (.getfield 42, 3) := by decide +kernel
theorem de_K_noteIfNewest_27 : decode mb_K_noteIfNewest 27 = .ok (.aload_n 1, 1) := by decide +kernel
theorem de_K_noteIfNewest_28 : decode mb_K_noteIfNewest 28 = .ok (.getfield 185, 3) := by decide +kernel
theorem de_K_noteIfNewest_31 : decode mb_K_noteIfNewest 31 = .ok (.aaload, 1) := by decide +kernel
theorem de_K_noteIfNewest_32 : decode mb_K_noteIfNewest 32 = .ok (.astore_n 3, 1) := by decide +kernel
theorem de_K_noteIfNewest_33 : decode mb_K_noteIfNewest 33 = .ok (.aload_n 3, 1) := by decide +kernel
theorem de_K_noteIfNewest_34 : decode mb_K_noteIfNewest 34 = .ok (.ifnull 14, 3) := by decide +kernel
theorem de_K_noteIfNewest_37 : decode mb_K_noteIfNewest 37 = .ok (.aload_n 3, 1) := by decide +kernel
theorem de_K_noteIfNewest_38 : decode mb_K_noteIfNewest 38 = .ok (.getfield 188, 3) := by decide +kernel
theorem de_K_noteIfNewest_41 : decode mb_K_noteIfNewest 41 = .ok (.aload_n 1, 1) := by decide +kernel
theorem de_K_noteIfNewest_42 : decode mb_K_noteIfNewest 42 = .ok (.getfield 188, 3) := by decide +kernel
theorem de_K_noteIfNewest_45 : decode mb_K_noteIfNewest 45 = .ok (.if_icmp .ge 13, 3) := by decide +kernel
theorem de_K_noteIfNewest_48 : decode mb_K_noteIfNewest 48 = .ok (.aload_n 0, 1) := by decide +kernel
theorem de_K_noteIfNewest_49 : decode mb_K_noteIfNewest 49 = .ok (.getfield 42, 3) := by decide +kernel
theorem de_K_noteIfNewest_52 : decode mb_K_noteIfNewest 52 = .ok (.aload_n 1, 1) := by decide +kernel
theorem de_K_noteIfNewest_53 : decode mb_K_noteIfNewest 53 = .ok (.getfield 185, 3) := by decide +kernel
theorem de_K_noteIfNewest_56 : decode mb_K_noteIfNewest 56 = .ok (.aload_n 1, 1) := by decide +kernel
theorem de_K_noteIfNewest_57 : decode mb_K_noteIfNewest 57 = .ok (.aastore, 1) := by decide +kernel
theorem de_K_noteIfNewest_58 : decode mb_K_noteIfNewest 58 = .ok (.return_, 1) := by decide +kernel
theorem de_K_entry_0 : decode mb_K_entry 0 = .ok (.iload_n 1, 1) := by decide +kernel
theorem de_K_entry_1 : decode mb_K_entry 1 = .ok (.invokestatic 168, 3) := by decide +kernel
theorem de_K_entry_4 : decode mb_K_entry 4 = .ok (.ifCond .eq 14, 3) := by decide +kernel
theorem de_K_entry_7 : decode mb_K_entry 7 = .ok (.iload 4, 2) := by decide +kernel
theorem de_K_entry_9 : decode mb_K_entry 9 = .ok (.ifCond .lt 9, 3) := by decide +kernel
theorem de_K_entry_12 : decode mb_K_entry 12 = .ok (.iload 4, 2) := by decide +kernel
theorem de_K_entry_14 : decode mb_K_entry 14 = .ok (.iconst 2, 1) := by decide +kernel
theorem de_K_entry_15 : decode mb_K_entry 15 = .ok (.if_icmp .le 13, 3) := by decide +kernel
theorem de_K_entry_18 : decode mb_K_entry 18 = .ok (.new 103, 3) := by decide +kernel
theorem de_K_entry_21 : decode mb_K_entry 21 = .ok (.dup, 1) := by decide +kernel
theorem de_K_entry_22 : decode mb_K_entry 22 = .ok (.ldc 171, 2) := by decide +kernel
theorem de_K_entry_24 : decode mb_K_entry 24 = .ok (.invokespecial 107, 3) := by decide +kernel
theorem de_K_entry_27 : decode mb_K_entry 27 = .ok (.athrow, 1) := by decide +kernel
theorem de_K_entry_28 : decode mb_K_entry 28 = .ok (.aload_n 0, 1) := by decide +kernel
theorem de_K_entry_29 : decode mb_K_entry 29 = .ok (.getfield 23, 3) := by decide +kernel
theorem de_K_entry_32 : decode mb_K_entry 32 = .ok (.iload_n 1, 1) := by decide +kernel
theorem de_K_entry_33 : decode mb_K_entry 33 = .ok (.aaload, 1) := by decide +kernel
theorem de_K_entry_34 : decode mb_K_entry 34 = .ok (.iload_n 2, 1) := by decide +kernel
theorem de_K_entry_35 : decode mb_K_entry 35 = .ok (.invokevirtual 173, 3) := by decide +kernel
theorem de_K_entry_38 : decode mb_K_entry 38 = .ok (.astore 5, 2) := by decide +kernel
theorem de_K_entry_40 : decode mb_K_entry 40 = .ok (.aload 5, 2) := by decide +kernel
theorem de_K_entry_42 : decode mb_K_entry 42 = .ok (.ifnonnull 7, 3) := by decide +kernel
theorem de_K_entry_45 : decode mb_K_entry 45 = .ok (.aconst_null, 1) := by decide +kernel
theorem de_K_entry_46 : decode mb_K_entry 46 = .ok (.goto 12, 3) := by decide +kernel
theorem de_K_entry_49 : decode mb_K_entry 49 = .ok (.aload 5, 2) := by decide +kernel
theorem de_K_entry_51 : decode mb_K_entry 51 = .ok (.invokevirtual 177, 3) := by decide +kernel
theorem de_K_entry_54 : decode mb_K_entry 54 = .ok (.iload_n 3, 1) := by decide +kernel
theorem de_K_entry_55 : decode mb_K_entry 55 = .ok (.invokevirtual 89, 3) := by decide +kernel
theorem de_K_entry_58 : decode mb_K_entry 58 = .ok (.astore 6, 2) := by decide +kernel
theorem de_K_entry_60 : decode mb_K_entry 60 = .ok (.aload 6, 2) := by decide +kernel
theorem de_K_entry_62 : decode mb_K_entry 62 = .ok (.ifnonnull 13, 3) := by decide +kernel
theorem de_K_entry_65 : decode mb_K_entry 65 = .ok (.new 84, 3) := by decide +kernel
theorem de_K_entry_68 : decode mb_K_entry 68 = .ok (.dup, 1) := by decide +kernel
theorem de_K_entry_69 : decode mb_K_entry 69 = .ok (.ldc 183, 2) := by decide +kernel
theorem de_K_entry_71 : decode mb_K_entry 71 = .ok (.invokespecial 88, 3) := by decide +kernel
theorem de_K_entry_74 : decode mb_K_entry 74 = .ok (.athrow, 1) := by decide +kernel
theorem de_K_entry_75 : decode mb_K_entry 75 = .ok (.iload 4, 2) := by decide +kernel
theorem de_K_entry_77 : decode mb_K_entry 77 = .ok (.lookupswitch 39 #[(0, 27), (1, 33)], 27) := by decide +kernel
theorem de_K_entry_104 : decode mb_K_entry 104 = .ok (.aload 6, 2) := by decide +kernel
theorem de_K_entry_106 : decode mb_K_entry 106 = .ok (.getfield 185, 3) := by decide +kernel
theorem de_K_entry_109 : decode mb_K_entry 109 = .ok (.ireturn, 1) := by decide +kernel
theorem de_K_entry_110 : decode mb_K_entry 110 = .ok (.aload 6, 2) := by decide +kernel
theorem de_K_entry_112 : decode mb_K_entry 112 = .ok (.getfield 188, 3) := by decide +kernel
theorem de_K_entry_115 : decode mb_K_entry 115 = .ok (.ireturn, 1) := by decide +kernel
theorem de_K_entry_116 : decode mb_K_entry 116 = .ok (.aload 6, 2) := by decide +kernel
theorem de_K_entry_118 : decode mb_K_entry 118 = .ok (.getfield 153, 3) := by decide +kernel
theorem de_K_entry_121 : decode mb_K_entry 121 = .ok (.ifCond .eq 7, 3) := by decide +kernel
theorem de_K_entry_124 : decode mb_K_entry 124 = .ok (.iconst 1, 1) := by decide +kernel
theorem de_K_entry_125 : decode mb_K_entry 125 = .ok (.goto 4, 3) := by decide +kernel
theorem de_K_entry_128 : decode mb_K_entry 128 = .ok (.iconst 0, 1) := by decide +kernel
theorem de_K_entry_129 : decode mb_K_entry 129 = .ok (.ireturn, 1) := by decide +kernel
theorem de_K_count_0 : decode mb_K_count 0 = .ok (.iload_n 1, 1) := by decide +kernel
theorem de_K_count_1 : decode mb_K_count 1 = .ok (.ifCond .lt 21, 3) := by decide +kernel
theorem de_K_count_4 : decode mb_K_count 4 = .ok (.iload_n 1, 1) := by decide +kernel
theorem de_K_count_5 : decode mb_K_count 5 = .ok (.bipush 9, 2) := by decide +kernel
theorem de_K_count_7 : decode mb_K_count 7 = .ok (.if_icmp .gt 15, 3) := by decide +kernel
theorem de_K_count_10 : decode mb_K_count 10 = .ok (.iload_n 1, 1) := by decide +kernel
theorem de_K_count_11 : decode mb_K_count 11 = .ok (.iconst 1, 1) := by decide +kernel
theorem de_K_count_12 : decode mb_K_count 12 = .ok (.if_icmp .gt 20, 3) := by decide +kernel
theorem de_K_count_15 : decode mb_K_count 15 = .ok (.iload_n 2, 1) := by decide +kernel
theorem de_K_count_16 : decode mb_K_count 16 = .ok (.invokestatic 168, 3) := by decide +kernel
theorem de_K_count_19 : decode mb_K_count 19 = .ok (.ifCond .ne 13, 3) := by decide +kernel
theorem de_K_count_22 : decode mb_K_count 22 = .ok (.new 103, 3) := by decide +kernel
theorem de_K_count_25 : decode mb_K_count 25 = .ok (.dup, 1) := by decide +kernel
theorem de_K_count_26 : decode mb_K_count 26 = .ok (.ldc 189, 2) := by decide +kernel
theorem de_K_count_28 : decode mb_K_count 28 = .ok (.invokespecial 107, 3) := by decide +kernel
theorem de_K_count_31 : decode mb_K_count 31 = .ok (.athrow, 1) := by decide +kernel
theorem de_K_count_32 : decode mb_K_count 32 = .ok (.iload_n 1, 1) := by decide +kernel
theorem de_K_count_33 : decode mb_K_count 33 = .ok (.tableswitch 126 0 8 #[51, 61, 71, 79, 84, 89, 94, 99, 107], 51) := by decide +kernel
theorem de_K_count_84 : decode mb_K_count 84 = .ok (.aload_n 0, 1) := by decide +kernel
theorem de_K_count_85 : decode mb_K_count 85 = .ok (.getfield 23, 3) := by decide +kernel
theorem de_K_count_88 : decode mb_K_count 88 = .ok (.iload_n 2, 1) := by decide +kernel
theorem de_K_count_89 : decode mb_K_count 89 = .ok (.aaload, 1) := by decide +kernel
theorem de_K_count_90 : decode mb_K_count 90 = .ok (.invokevirtual 191, 3) := by decide +kernel
theorem de_K_count_93 : decode mb_K_count 93 = .ok (.ireturn, 1) := by decide +kernel
theorem de_K_count_94 : decode mb_K_count 94 = .ok (.aload_n 0, 1) := by decide +kernel
theorem de_K_count_95 : decode mb_K_count 95 = .ok (.getfield 23, 3) := by decide +kernel
theorem de_K_count_98 : decode mb_K_count 98 = .ok (.iload_n 2, 1) := by decide +kernel
theorem de_K_count_99 : decode mb_K_count 99 = .ok (.aaload, 1) := by decide +kernel
theorem de_K_count_100 : decode mb_K_count 100 = .ok (.invokevirtual 194, 3) := by decide +kernel
theorem de_K_count_103 : decode mb_K_count 103 = .ok (.ireturn, 1) := by decide +kernel
theorem de_K_count_104 : decode mb_K_count 104 = .ok (.aload_n 0, 1) := by decide +kernel
theorem de_K_count_105 : decode mb_K_count 105 = .ok (.getfield 14, 3) := by decide +kernel
theorem de_K_count_108 : decode mb_K_count 108 = .ok (.invokevirtual 77, 3) := by decide +kernel
theorem de_K_count_111 : decode mb_K_count 111 = .ok (.ireturn, 1) := by decide +kernel
theorem de_K_count_112 : decode mb_K_count 112 = .ok (.aload_n 0, 1) := by decide +kernel
theorem de_K_count_113 : decode mb_K_count 113 = .ok (.getfield 46, 3) := by decide +kernel
theorem de_K_count_116 : decode mb_K_count 116 = .ok (.ireturn, 1) := by decide +kernel
theorem de_K_count_117 : decode mb_K_count 117 = .ok (.aload_n 0, 1) := by decide +kernel
theorem de_K_count_118 : decode mb_K_count 118 = .ok (.getfield 54, 3) := by decide +kernel
theorem de_K_count_121 : decode mb_K_count 121 = .ok (.ireturn, 1) := by decide +kernel
theorem de_K_count_122 : decode mb_K_count 122 = .ok (.aload_n 0, 1) := by decide +kernel
theorem de_K_count_123 : decode mb_K_count 123 = .ok (.getfield 57, 3) := by decide +kernel
theorem de_K_count_126 : decode mb_K_count 126 = .ok (.ireturn, 1) := by decide +kernel
theorem de_K_count_127 : decode mb_K_count 127 = .ok (.aload_n 0, 1) := by decide +kernel
theorem de_K_count_128 : decode mb_K_count 128 = .ok (.getfield 60, 3) := by decide +kernel
theorem de_K_count_131 : decode mb_K_count 131 = .ok (.ireturn, 1) := by decide +kernel
theorem de_K_count_132 : decode mb_K_count 132 = .ok (.aload_n 0, 1) := by decide +kernel
theorem de_K_count_133 : decode mb_K_count 133 = .ok (.getfield 30, 3) := by decide +kernel
theorem de_K_count_136 : decode mb_K_count 136 = .ok (.invokevirtual 197, 3) := by decide +kernel
theorem de_K_count_139 : decode mb_K_count 139 = .ok (.ireturn, 1) := by decide +kernel
theorem de_K_count_140 : decode mb_K_count 140 = .ok (.aload_n 0, 1) := by decide +kernel
theorem de_K_count_141 : decode mb_K_count 141 = .ok (.getfield 50, 3) := by decide +kernel
theorem de_K_count_144 : decode mb_K_count 144 = .ok (.ifCond .eq 13, 3) := by decide +kernel
theorem de_K_count_147 : decode mb_K_count 147 = .ok (.aload_n 0, 1) := by decide +kernel
theorem de_K_count_148 : decode mb_K_count 148 = .ok (.getfield 18, 3) := by decide +kernel
theorem de_K_count_151 : decode mb_K_count 151 = .ok (.invokevirtual 77, 3) := by decide +kernel
theorem de_K_count_154 : decode mb_K_count 154 = .ok (.goto 4, 3) := by decide +kernel
theorem de_K_count_157 : decode mb_K_count 157 = .ok (.iconst (-1), 1) := by decide +kernel
theorem de_K_count_158 : decode mb_K_count 158 = .ok (.ireturn, 1) := by decide +kernel
theorem de_K_count_159 : decode mb_K_count 159 = .ok (.aload_n 0, 1) := by decide +kernel
theorem de_K_count_160 : decode mb_K_count 160 = .ok (.invokevirtual 81, 3) := by decide +kernel
theorem de_K_count_163 : decode mb_K_count 163 = .ok (.ireturn, 1) := by decide +kernel
end
section
/-! THE KEEPER'S STATE: what its cells say (kp_S), where they are (kp_D). Tags: 1 the object, 2/3 table, 4/5 aside, 6/7 gathered, 8/9 kept, 10 newestOfKey, 11 levels, 13-15 snapshots, 20 + 3 i .. the i-th level. -/
abbrev kp_S : Type := List en_T × List en_T × (Nat → List (List en_T)) × (Nat → Option Nat) × List en_T × List en_T × (Nat → Option en_T) × Nat × Bool × Nat × Nat × Nat
abbrev kp_S.tb (σ : kp_S) : List en_T := σ.1
abbrev kp_S.tb' (σ : kp_S) (y : List en_T) : kp_S := (y, σ.2)
abbrev kp_S.ad (σ : kp_S) : List en_T := σ.2.1
abbrev kp_S.ad' (σ : kp_S) (y : List en_T) : kp_S := (σ.1, y, σ.2.2)
abbrev kp_S.lv (σ : kp_S) : Nat → List (List en_T) := σ.2.2.1
abbrev kp_S.lv' (σ : kp_S) (y : Nat → List (List en_T)) : kp_S := (σ.1, σ.2.1, y, σ.2.2.2)
abbrev kp_S.sn (σ : kp_S) : Nat → Option Nat := σ.2.2.2.1
abbrev kp_S.sn' (σ : kp_S) (y : Nat → Option Nat) : kp_S := (σ.1, σ.2.1, σ.2.2.1, y, σ.2.2.2.2)
abbrev kp_S.ga (σ : kp_S) : List en_T := σ.2.2.2.2.1
abbrev kp_S.ga' (σ : kp_S) (y : List en_T) : kp_S := (σ.1, σ.2.1, σ.2.2.1, σ.2.2.2.1, y, σ.2.2.2.2.2)
abbrev kp_S.ke (σ : kp_S) : List en_T := σ.2.2.2.2.2.1
abbrev kp_S.ke' (σ : kp_S) (y : List en_T) : kp_S := (σ.1, σ.2.1, σ.2.2.1, σ.2.2.2.1, σ.2.2.2.2.1, y, σ.2.2.2.2.2.2)
abbrev kp_S.nw (σ : kp_S) : Nat → Option en_T := σ.2.2.2.2.2.2.1
abbrev kp_S.nw' (σ : kp_S) (y : Nat → Option en_T) : kp_S := (σ.1, σ.2.1, σ.2.2.1, σ.2.2.2.1, σ.2.2.2.2.1, σ.2.2.2.2.2.1, y, σ.2.2.2.2.2.2.2)
abbrev kp_S.sf (σ : kp_S) : Nat := σ.2.2.2.2.2.2.2.1
abbrev kp_S.sf' (σ : kp_S) (y : Nat) : kp_S := (σ.1, σ.2.1, σ.2.2.1, σ.2.2.2.1, σ.2.2.2.2.1, σ.2.2.2.2.2.1, σ.2.2.2.2.2.2.1, y, σ.2.2.2.2.2.2.2.2)
abbrev kp_S.ib (σ : kp_S) : Bool := σ.2.2.2.2.2.2.2.2.1
abbrev kp_S.ib' (σ : kp_S) (y : Bool) : kp_S := (σ.1, σ.2.1, σ.2.2.1, σ.2.2.2.1, σ.2.2.2.2.1, σ.2.2.2.2.2.1, σ.2.2.2.2.2.2.1, σ.2.2.2.2.2.2.2.1, y, σ.2.2.2.2.2.2.2.2.2)
abbrev kp_S.sq (σ : kp_S) : Nat := σ.2.2.2.2.2.2.2.2.2.1
abbrev kp_S.sq' (σ : kp_S) (y : Nat) : kp_S := (σ.1, σ.2.1, σ.2.2.1, σ.2.2.2.1, σ.2.2.2.2.1, σ.2.2.2.2.2.1, σ.2.2.2.2.2.2.1, σ.2.2.2.2.2.2.2.1, σ.2.2.2.2.2.2.2.2.1, y, σ.2.2.2.2.2.2.2.2.2.2)
abbrev kp_S.pr (σ : kp_S) : Nat := σ.2.2.2.2.2.2.2.2.2.2.1
abbrev kp_S.pr' (σ : kp_S) (y : Nat) : kp_S := (σ.1, σ.2.1, σ.2.2.1, σ.2.2.2.1, σ.2.2.2.2.1, σ.2.2.2.2.2.1, σ.2.2.2.2.2.2.1, σ.2.2.2.2.2.2.2.1, σ.2.2.2.2.2.2.2.2.1, σ.2.2.2.2.2.2.2.2.2.1, y, σ.2.2.2.2.2.2.2.2.2.2.2)
abbrev kp_S.mi (σ : kp_S) : Nat := σ.2.2.2.2.2.2.2.2.2.2.2
abbrev kp_S.mi' (σ : kp_S) (y : Nat) : kp_S := (σ.1, σ.2.1, σ.2.2.1, σ.2.2.2.1, σ.2.2.2.2.1, σ.2.2.2.2.2.1, σ.2.2.2.2.2.2.1, σ.2.2.2.2.2.2.2.1, σ.2.2.2.2.2.2.2.2.1, σ.2.2.2.2.2.2.2.2.2.1, σ.2.2.2.2.2.2.2.2.2.2.1, y)
abbrev kp_D : Type := Nat × Nat × Nat × Nat × Nat × Nat × Nat × (Nat → Option Nat) × (Nat → Nat)
abbrev kp_D.t (D : kp_D) : Nat := D.1
abbrev kp_D.a (D : kp_D) : Nat := D.2.1
abbrev kp_D.lv (D : kp_D) : Nat := D.2.2.1
abbrev kp_D.sn (D : kp_D) : Nat := D.2.2.2.1
abbrev kp_D.g (D : kp_D) : Nat := D.2.2.2.2.1
abbrev kp_D.k (D : kp_D) : Nat := D.2.2.2.2.2.1
abbrev kp_D.ne (D : kp_D) : Nat := D.2.2.2.2.2.2.1
abbrev kp_D.lf (D : kp_D) : Nat → Option Nat := D.2.2.2.2.2.2.2.1
abbrev kp_D.le (D : kp_D) : Nat → Nat := D.2.2.2.2.2.2.2.2
abbrev kp_c (D : kp_D) (σ : kp_S) : va_E := .inr (cx_K, [.ref D.t, .ref D.a, .ref D.lv, .ref D.sn, .ref D.g, .ref D.k, .ref D.ne, .int (nI σ.sf), .int (bo_i σ.ib), .int (nI σ.sq), .int (nI σ.pr), .int (nI σ.mi)])
def nw_at (G : dk_G) (w : dk_H) (a : Nat) (nw : Nat → Option en_T) : Prop := ∃ nf : Nat → Option Nat, w a = some (10, dk_ca G 3 1024 nf) ∧ ∀ i, i < 1024 → en_q w (nf i) (nw i)
theorem nw_at.fr {G : dk_G} {T : Nat → Prop} {w w1 : dk_H} {a : Nat} {nw : Nat → Option en_T} (H : nw_at G w a nw) (hf : dk_fr T w w1) (h0 : ¬ T 0) (h1 : ¬ T 10) : nw_at G w1 a nw := by
  obtain ⟨nf, g1, g2⟩ := H
  exact ⟨nf, hf _ _ _ g1 h1, fun i hi => (g2 i hi).fr hf h0⟩
def kp_at (G : dk_G) (w : dk_H) (h : Nat) (D : kp_D) (σ : kp_S) : Prop := (w h = some (1, kp_c D σ)) ∧ (rw_at G w D.t 2 3 40 σ.tb) ∧ (rw_at G w D.a 4 5 16 σ.ad) ∧ (w D.lv = some (11, dk_ca G 4 6 D.lf)) ∧ (∀ i, i < 6 → D.lf i = some (D.le i) ∧ le_at G w (D.le i) (20 + 3 * i) (σ.lv i)) ∧ (sn_at G w D.sn σ.sn) ∧ (rw_at G w D.g 6 7 600 σ.ga) ∧ (rw_at G w D.k 8 9 600 σ.ke) ∧ (nw_at G w D.ne σ.nw) ∧ (∀ x ∈ σ.tb, en_ok x)
theorem kp_at.o {G : dk_G} {w : dk_H} {h : Nat} {D : kp_D} {σ : kp_S} (H : kp_at G w h D σ) : w h = some (1, kp_c D σ) := H.1
theorem kp_at.t {G : dk_G} {w : dk_H} {h : Nat} {D : kp_D} {σ : kp_S} (H : kp_at G w h D σ) : rw_at G w D.t 2 3 40 σ.tb := H.2.1
theorem kp_at.a {G : dk_G} {w : dk_H} {h : Nat} {D : kp_D} {σ : kp_S} (H : kp_at G w h D σ) : rw_at G w D.a 4 5 16 σ.ad := H.2.2.1
theorem kp_at.l {G : dk_G} {w : dk_H} {h : Nat} {D : kp_D} {σ : kp_S} (H : kp_at G w h D σ) : w D.lv = some (11, dk_ca G 4 6 D.lf) := H.2.2.2.1
theorem kp_at.v {G : dk_G} {w : dk_H} {h : Nat} {D : kp_D} {σ : kp_S} (H : kp_at G w h D σ) : ∀ i, i < 6 → D.lf i = some (D.le i) ∧ le_at G w (D.le i) (20 + 3 * i) (σ.lv i) := H.2.2.2.2.1
theorem kp_at.s {G : dk_G} {w : dk_H} {h : Nat} {D : kp_D} {σ : kp_S} (H : kp_at G w h D σ) : sn_at G w D.sn σ.sn := H.2.2.2.2.2.1
theorem kp_at.g {G : dk_G} {w : dk_H} {h : Nat} {D : kp_D} {σ : kp_S} (H : kp_at G w h D σ) : rw_at G w D.g 6 7 600 σ.ga := H.2.2.2.2.2.2.1
theorem kp_at.k {G : dk_G} {w : dk_H} {h : Nat} {D : kp_D} {σ : kp_S} (H : kp_at G w h D σ) : rw_at G w D.k 8 9 600 σ.ke := H.2.2.2.2.2.2.2.1
theorem kp_at.n {G : dk_G} {w : dk_H} {h : Nat} {D : kp_D} {σ : kp_S} (H : kp_at G w h D σ) : nw_at G w D.ne σ.nw := H.2.2.2.2.2.2.2.2.1
theorem kp_at.tk {G : dk_G} {w : dk_H} {h : Nat} {D : kp_D} {σ : kp_S} (H : kp_at G w h D σ) : ∀ x ∈ σ.tb, en_ok x := H.2.2.2.2.2.2.2.2.2
def kp_T : Nat → Prop := fun t => 1 ≤ t ∧ t < 64
section KP
variable {G : dk_G} {w w1 : dk_H} {h : Nat} {D : kp_D} {σ : kp_S}
theorem kp_at.ofo (H : kp_at G w h D σ) (hf : dk_fr (fun t => t = 1) w w1) {σ' : kp_S} (ho : w1 h = some (1, kp_c D σ')) (h1 : σ'.tb = σ.tb) (h2 : σ'.ad = σ.ad) (h3 : σ'.lv = σ.lv) (h4 : σ'.sn = σ.sn) (h5 : σ'.ga = σ.ga) (h6 : σ'.ke = σ.ke) (h7 : σ'.nw = σ.nw) : kp_at G w1 h D σ' :=
  ⟨ho, h1 ▸ H.t.fr hf (by omega) (by omega) (by omega), h2 ▸ H.a.fr hf (by omega) (by omega) (by omega), hf _ _ _ H.l (by omega), fun i hi => ⟨(H.v i hi).1, h3 ▸ (H.v i hi).2.fr hf (by omega) (by omega) (by omega) (by omega)⟩, h4 ▸ H.s.fr hf (by omega) (by omega) (by omega), h5 ▸ H.g.fr hf (by omega) (by omega) (by omega), h6 ▸ H.k.fr hf (by omega) (by omega) (by omega), h7 ▸ H.n.fr hf (by omega) (by omega), h1 ▸ H.tk⟩
theorem kp_at.oft (H : kp_at G w h D σ) (hf : dk_fr (fun t => t = 2 ∨ t = 3) w w1) {L : List en_T} (hL : rw_at G w1 D.t 2 3 40 L) (hk : ∀ x ∈ L, en_ok x) : kp_at G w1 h D (σ.tb' (L)) :=
  ⟨hf _ _ _ H.o (by omega), hL, H.a.fr hf (by omega) (by omega) (by omega), hf _ _ _ H.l (by omega), fun i hi => ⟨(H.v i hi).1, (H.v i hi).2.fr hf (by omega) (by omega) (by omega) (by omega)⟩, H.s.fr hf (by omega) (by omega) (by omega), H.g.fr hf (by omega) (by omega) (by omega), H.k.fr hf (by omega) (by omega) (by omega), H.n.fr hf (by omega) (by omega), hk⟩
theorem kp_at.ofa (H : kp_at G w h D σ) (hf : dk_fr (fun t => t = 4 ∨ t = 5) w w1) {L : List en_T} (hL : rw_at G w1 D.a 4 5 16 L) : kp_at G w1 h D (σ.ad' (L)) :=
  ⟨hf _ _ _ H.o (by omega), H.t.fr hf (by omega) (by omega) (by omega), hL, hf _ _ _ H.l (by omega), fun i hi => ⟨(H.v i hi).1, (H.v i hi).2.fr hf (by omega) (by omega) (by omega) (by omega)⟩, H.s.fr hf (by omega) (by omega) (by omega), H.g.fr hf (by omega) (by omega) (by omega), H.k.fr hf (by omega) (by omega) (by omega), H.n.fr hf (by omega) (by omega), H.tk⟩
theorem kp_at.ofg (H : kp_at G w h D σ) (hf : dk_fr (fun t => t = 6 ∨ t = 7) w w1) {L : List en_T} (hL : rw_at G w1 D.g 6 7 600 L) : kp_at G w1 h D (σ.ga' (L)) :=
  ⟨hf _ _ _ H.o (by omega), H.t.fr hf (by omega) (by omega) (by omega), H.a.fr hf (by omega) (by omega) (by omega), hf _ _ _ H.l (by omega), fun i hi => ⟨(H.v i hi).1, (H.v i hi).2.fr hf (by omega) (by omega) (by omega) (by omega)⟩, H.s.fr hf (by omega) (by omega) (by omega), hL, H.k.fr hf (by omega) (by omega) (by omega), H.n.fr hf (by omega) (by omega), H.tk⟩
theorem kp_at.ofk (H : kp_at G w h D σ) (hf : dk_fr (fun t => t = 8 ∨ t = 9) w w1) {L : List en_T} (hL : rw_at G w1 D.k 8 9 600 L) : kp_at G w1 h D (σ.ke' (L)) :=
  ⟨hf _ _ _ H.o (by omega), H.t.fr hf (by omega) (by omega) (by omega), H.a.fr hf (by omega) (by omega) (by omega), hf _ _ _ H.l (by omega), fun i hi => ⟨(H.v i hi).1, (H.v i hi).2.fr hf (by omega) (by omega) (by omega) (by omega)⟩, H.s.fr hf (by omega) (by omega) (by omega), H.g.fr hf (by omega) (by omega) (by omega), hL, H.n.fr hf (by omega) (by omega), H.tk⟩
theorem kp_at.ofn (H : kp_at G w h D σ) (hf : dk_fr (fun t => t = 10) w w1) {f : Nat → Option en_T} (hL : nw_at G w1 D.ne f) : kp_at G w1 h D (σ.nw' (f)) :=
  ⟨hf _ _ _ H.o (by omega), H.t.fr hf (by omega) (by omega) (by omega), H.a.fr hf (by omega) (by omega) (by omega), hf _ _ _ H.l (by omega), fun i hi => ⟨(H.v i hi).1, (H.v i hi).2.fr hf (by omega) (by omega) (by omega) (by omega)⟩, H.s.fr hf (by omega) (by omega) (by omega), H.g.fr hf (by omega) (by omega) (by omega), H.k.fr hf (by omega) (by omega) (by omega), hL, H.tk⟩
theorem kp_at.ofs (H : kp_at G w h D σ) (hf : dk_fr sn_T w w1) {f : Nat → Option Nat} (hL : sn_at G w1 D.sn f) : kp_at G w1 h D (σ.sn' (f)) := by
  have hf : dk_fr (fun t => t = 13 ∨ t = 14 ∨ t = 15) w w1 := hf
  exact ⟨hf _ _ _ H.o (by omega), H.t.fr hf (by omega) (by omega) (by omega), H.a.fr hf (by omega) (by omega) (by omega), hf _ _ _ H.l (by omega), fun i hi => ⟨(H.v i hi).1, (H.v i hi).2.fr hf (by omega) (by omega) (by omega) (by omega)⟩, hL, H.g.fr hf (by omega) (by omega) (by omega), H.k.fr hf (by omega) (by omega) (by omega), H.n.fr hf (by omega) (by omega), H.tk⟩
theorem kp_at.ofv (H : kp_at G w h D σ) {j : Nat} (hj : j < 6) (hf : dk_fr (le_T (20 + 3 * j)) w w1) {Rs : List (List en_T)} (hL : le_at G w1 (D.le j) (20 + 3 * j) Rs) : kp_at G w1 h D (σ.lv' (va_up σ.lv j Rs)) := by
  have hf : dk_fr (fun t => t = 20 + 3 * j ∨ t = 20 + 3 * j + 1 ∨ t = 20 + 3 * j + 2) w w1 := hf
  refine ⟨hf _ _ _ H.o (by omega), H.t.fr hf (by omega) (by omega) (by omega), H.a.fr hf (by omega) (by omega) (by omega), hf _ _ _ H.l (by omega), fun i hi => ⟨(H.v i hi).1, ?_⟩, H.s.fr hf (by omega) (by omega) (by omega), H.g.fr hf (by omega) (by omega) (by omega), H.k.fr hf (by omega) (by omega) (by omega), H.n.fr hf (by omega) (by omega), H.tk⟩
  by_cases e : i = j
  · subst e
    rw [show (σ.lv' (va_up σ.lv i Rs)).lv i = Rs from dk_us]
    exact hL
  · rw [show (σ.lv' (va_up σ.lv j Rs)).lv i = σ.lv i from dk_un e]
    exact (H.v i hi).2.fr hf (by omega) (by omega) (by omega) (by omega)
/-- cells made or changed that are no one's: temporaries of a run -/
theorem kp_at.off (H : kp_at G w h D σ) (hf : dk_fr (fun t => 60 ≤ t ∧ t ≤ 63) w w1) : kp_at G w1 h D σ :=
  ⟨hf _ _ _ H.o (by omega), H.t.fr hf (by omega) (by omega) (by omega), H.a.fr hf (by omega) (by omega) (by omega), hf _ _ _ H.l (by omega), fun i hi => ⟨(H.v i hi).1, (H.v i hi).2.fr hf (by omega) (by omega) (by omega) (by omega)⟩, H.s.fr hf (by omega) (by omega) (by omega), H.g.fr hf (by omega) (by omega) (by omega), H.k.fr hf (by omega) (by omega) (by omega), H.n.fr hf (by omega) (by omega), H.tk⟩
theorem kp_o (hf : dk_fr (fun t => t = 1) w w1) : dk_fr kp_T w w1 := hf.mono (fun t z => by unfold kp_T; omega)
theorem kp_r {a b : Nat} (hf : dk_fr (fun t => t = a ∨ t = b) w w1) (ha : 1 ≤ a ∧ a < 64 ∧ 1 ≤ b ∧ b < 64) : dk_fr kp_T w w1 := hf.mono (fun t z => by unfold kp_T; omega)
theorem kp_s (hf : dk_fr sn_T w w1) : dk_fr kp_T w w1 := hf.mono (fun t z => by unfold kp_T; unfold sn_T at z; omega)
theorem kp_v {j : Nat} (hj : j < 6) (hf : dk_fr (le_T (20 + 3 * j)) w w1) : dk_fr kp_T w w1 := hf.mono (fun t z => by unfold kp_T; unfold le_T at z; omega)
theorem kp_f (hf : dk_fr (fun t => 60 ≤ t ∧ t ≤ 63) w w1) : dk_fr kp_T w w1 := hf.mono (fun t z => by unfold kp_T; omega)
end KP
/-- how many entries the levels below n have -/
def lv_ct (lv : Nat → List (List en_T)) : Nat → Nat
  | 0 => 0
  | n + 1 => lv_ct lv n + le_ct (lv n)
def lv_fl (lv : Nat → List (List en_T)) : Nat → List en_T
  | 0 => []
  | n + 1 => lv_fl lv n ++ (lv n).flatten
theorem lv_fl_len (lv : Nat → List (List en_T)) (n : Nat) : (lv_fl lv n).length = lv_ct lv n := by
  induction n with
  | zero => rfl
  | succ n ih => simp only [lv_fl, lv_ct, List.length_append, ih, le_flat]
theorem lv_ct_mono (lv : Nat → List (List en_T)) {m n : Nat} (h : m ≤ n) : lv_ct lv m ≤ lv_ct lv n := by
  induction n with
  | zero => rw [Nat.le_zero.mp h]; exact Nat.le_refl _
  | succ n ih =>
    by_cases e : m = n + 1
    · rw [e]; exact Nat.le_refl _
    · have := ih (by omega)
      simp only [lv_ct]
      omega
theorem lv_ct_le (lv : Nat → List (List en_T)) {i n : Nat} (h : i < n) : le_ct (lv i) ≤ lv_ct lv n := by
  have := lv_ct_mono lv (m := i + 1) (n := n) h
  simp only [lv_ct] at this
  omega
def kp_n (σ : kp_S) : Nat := σ.tb.length + lv_ct σ.lv 6
end
section
/-! RunKeeper, walked (printed by gen/c_keep.py) -/
theorem bo_nf : bo_i false = nI 0 := by decide
theorem bo_nt : bo_i true = nI 1 := by decide
/-- an int from 0 and below n -/
def in_r (n : Nat) (k : Int32) : Bool := decide (¬ k < 0) && decide (k < nI n)
theorem in_neg {n : Nat} {k : Int32} (h : k < 0) : in_r n k = false := by simp [in_r, h]
theorem in_nat {n j : Nat} (hj : j < 2 ^ 31) (hn : n < 2 ^ 31) : in_r n (nI j) = decide (j < n) := by
  have h1 := nI_pos hj
  by_cases h : j < n
  · simp [in_r, h1, h, nI_lt h hn]
  · have h2 : ¬ nI j < nI n := fun z => h ((nI_ltI hj hn).mp z)
    simp [in_r, h, h2]
theorem tb_ok {L : List en_T} {x : en_T} (h : ∀ y ∈ L, en_ok y) (hx : en_ok x) : ∀ y ∈ L ++ [x], en_ok y := by
  intro y hy
  rcases List.mem_append.mp hy with h1 | h1
  · exact h y h1
  · rw [List.mem_singleton.mp h1]; exact hx
theorem le_ge {G : dk_G} {w : dk_H} {h tb : Nat} {Rs : List (List en_T)} (H : le_at G w h tb Rs) : Rs.length ≤ le_ct Rs := by
  obtain ⟨al, xs, -, -, h3, -⟩ := H
  have hp : ∀ R ∈ Rs, 0 < R.length := by
    intro R hR
    obtain ⟨j, hj⟩ := List.getElem?_of_mem hR
    have hl := (List.getElem?_eq_some_iff.mp hj).1
    obtain ⟨y, hy⟩ := ge_at (L := xs) (i := j) (by rw [h3.1]; exact hl)
    obtain ⟨r, fl, f, -, -, -, -, h0, -⟩ := h3.2 j y R hy hj
    exact h0
  clear h3
  induction Rs with
  | nil => exact Nat.le_refl _
  | cons R Rs ih =>
    have h1 := hp R List.mem_cons_self
    have h2 := ih (fun S hS => hp S (List.mem_cons_of_mem _ hS))
    simp only [le_ct, List.length_cons]
    omega
theorem kp_at.rl {G : dk_G} {w : dk_H} {h : Nat} {D : kp_D} {σ : kp_S} (H : kp_at G w h D σ) {i : Nat} (hi : i < 6) : (σ.lv i).length ≤ le_ct (σ.lv i) := le_ge (H.v i hi).2
theorem em_s {lv : Nat → List (List en_T)} {k i : Nat} (h : ∀ j, k ≤ j → j < i → lv j = []) (e : lv i = []) : ∀ j, k ≤ j → j < i + 1 → lv j = [] := by
  intro j h1 h2
  by_cases e8 : j = i
  · rw [e8]; exact e
  · exact h j h1 (by omega)
def lv_add (σ : kp_S) (i : Nat) (L : List en_T) : kp_S := if L = [] then σ else σ.lv' (va_up σ.lv i (σ.lv i ++ [L]))
def kp_fl (σ : kp_S) (n : Nat) : kp_S := if n ≤ σ.tb.length then ((σ.lv' (va_up σ.lv 0 (σ.lv 0 ++ [so_st σ.tb]))).tb' []).sf' 0 else σ
abbrev rm_K_isKey : Room := { frames := 0, cells := 0, slots := 0, locals := 0 }
set_option maxHeartbeats 4000000 in
set_option maxRecDepth 100000 in
theorem c_K_isKey (l : Launch) (G : dk_G) (w : dk_H) (k : Int32) : dk_Mi l my_K_isKey (wd_c my_K_isKey mb_K_isKey 1 (some .boolean)) rm_K_isKey G w [.int k] (fun r w1 => r = bo_i (in_r 1024 k) ∧ w1 = w) 0 0 := by
  refine dk_enter (lv := [(0, .int k)]) (by decide) (Nat.le_of_ble_eq_true rfl) rfl (fun p e s m args below meth c ls Q hQ C hP hS hl => ?_)
  obtain ⟨hx, hb, hr, hml, hlocks, hown, hnm, hts, hE⟩ := C
  have hK := hE.1
  have hN := hE.2.1
  refine lv_iload_n hx hb de_K_isKey_0 rfl (lv_at hl 0 rfl) ?_
  refine lv_if_lt (tgt := 15) hx hb de_K_isKey_1 (by decide) (fun c_469 => ?_) (fun c_469 => ?_)
  · refine lv_iconst (v := nI 0) hx hb de_K_isKey_15 (by decide) ?_
    exact dk_zret hQ hx hb hr hlocks hP hS (Nat.le_refl _) (Nat.le_refl _) (by decide +kernel) (⟨bo_of0 (in_neg c_469), rfl⟩) de_K_isKey_16
  · obtain ⟨j0, hj0, rfl⟩ := nI_of c_469
    refine lv_iload_n hx hb de_K_isKey_4 rfl (lv_at hl 0 rfl) ?_
    refine lv_sipush (v := nI 1024) hx hb de_K_isKey_5 (by decide) ?_
    refine nx_icmp_ge (a := j0) (b := 1024) (tgt := 15) hx hb (by omega) (by omega) de_K_isKey_8 (by decide) (fun c_470 => ?_) (fun c_470 => ?_)
    · refine lv_iconst (v := nI 0) hx hb de_K_isKey_15 (by decide) ?_
      exact dk_zret hQ hx hb hr hlocks hP hS (Nat.le_refl _) (Nat.le_refl _) (by decide +kernel) (⟨bo_of0 (by rw [in_nat hj0 (by omega)]; simp; omega), rfl⟩) de_K_isKey_16
    · refine lv_iconst (v := nI 1) hx hb de_K_isKey_11 (by decide) ?_
      refine lv_goto (tgt := 16) hx hb de_K_isKey_12 (by decide) ?_
      exact dk_zret hQ hx hb hr hlocks hP hS (Nat.le_refl _) (Nat.le_refl _) (by decide +kernel) (⟨bo_of1 (by rw [in_nat hj0 (by omega)]; simp; omega), rfl⟩) de_K_isKey_16
abbrev rm_K_isLevel : Room := { frames := 0, cells := 0, slots := 0, locals := 0 }
set_option maxHeartbeats 4000000 in
set_option maxRecDepth 100000 in
theorem c_K_isLevel (l : Launch) (G : dk_G) (w : dk_H) (k : Int32) : dk_Mi l my_K_isLevel (wd_c my_K_isLevel mb_K_isLevel 1 (some .boolean)) rm_K_isLevel G w [.int k] (fun r w1 => r = bo_i (in_r 6 k) ∧ w1 = w) 0 0 := by
  refine dk_enter (lv := [(0, .int k)]) (by decide) (Nat.le_of_ble_eq_true rfl) rfl (fun p e s m args below meth c ls Q hQ C hP hS hl => ?_)
  obtain ⟨hx, hb, hr, hml, hlocks, hown, hnm, hts, hE⟩ := C
  have hK := hE.1
  have hN := hE.2.1
  refine lv_iload_n hx hb de_K_isLevel_0 rfl (lv_at hl 0 rfl) ?_
  refine lv_if_lt (tgt := 14) hx hb de_K_isLevel_1 (by decide) (fun c_471 => ?_) (fun c_471 => ?_)
  · refine lv_iconst (v := nI 0) hx hb de_K_isLevel_14 (by decide) ?_
    exact dk_zret hQ hx hb hr hlocks hP hS (Nat.le_refl _) (Nat.le_refl _) (by decide +kernel) (⟨bo_of0 (in_neg c_471), rfl⟩) de_K_isLevel_15
  · obtain ⟨j0, hj0, rfl⟩ := nI_of c_471
    refine lv_iload_n hx hb de_K_isLevel_4 rfl (lv_at hl 0 rfl) ?_
    refine lv_bipush (v := nI 6) hx hb de_K_isLevel_5 (by decide) ?_
    refine nx_icmp_ge (a := j0) (b := 6) (tgt := 14) hx hb (by omega) (by omega) de_K_isLevel_7 (by decide) (fun c_472 => ?_) (fun c_472 => ?_)
    · refine lv_iconst (v := nI 0) hx hb de_K_isLevel_14 (by decide) ?_
      exact dk_zret hQ hx hb hr hlocks hP hS (Nat.le_refl _) (Nat.le_refl _) (by decide +kernel) (⟨bo_of0 (by rw [in_nat hj0 (by omega)]; simp; omega), rfl⟩) de_K_isLevel_15
    · refine lv_iconst (v := nI 1) hx hb de_K_isLevel_10 (by decide) ?_
      refine lv_goto (tgt := 15) hx hb de_K_isLevel_11 (by decide) ?_
      exact dk_zret hQ hx hb hr hlocks hP hS (Nat.le_refl _) (Nat.le_refl _) (by decide +kernel) (⟨bo_of1 (by rw [in_nat hj0 (by omega)]; simp; omega), rfl⟩) de_K_isLevel_15
abbrev rm_K_entriesInAll : Room := { frames := 1, cells := 0, slots := 0, locals := 20 }
set_option maxHeartbeats 4000000 in
set_option maxRecDepth 100000 in
theorem c_K_entriesInAll (l : Launch) (G : dk_G) (w : dk_H) (h : Nat) (D : kp_D) (σ : kp_S) (hkp : kp_at G w h D σ) : dk_Mi l my_K_entriesInAll (wd_c my_K_entriesInAll mb_K_entriesInAll 3 (some .int)) rm_K_entriesInAll G w [.ref h] (fun r w1 => r = nI (kp_n σ) ∧ w1 = w) 0 0 := by
  refine dk_enter (lv := [(0, .ref h)]) (by decide) (Nat.le_of_ble_eq_true rfl) rfl (fun p e s m args below meth c ls Q hQ C hP hS hl => ?_)
  obtain ⟨hx, hb, hr, hml, hlocks, hown, hnm, hts, hE⟩ := C
  have hK := hE.1
  have hN := hE.2.1
  have hh_473 : w h = some (1, .inr (cx_K, [.ref D.t, .ref D.a, .ref D.lv, .ref D.sn, .ref D.g, .ref D.k, .ref D.ne, .int (nI σ.sf), .int (bo_i σ.ib), .int (nI σ.sq), .int (nI σ.pr), .int (nI σ.mi)])) := hkp.o
  obtain ⟨sl_474, _, hc_475, -⟩ := id hkp.t
  refine lv_aload_n hx hb de_K_entriesInAll_0 rfl (lv_at hl 0 rfl) ?_
  refine dk_get (a := h) (v := .ref D.t) (C := kn_K) (T := kt_K) (N := 12) hx hb hts ki_K hown hK hP hh_473 rfl 0 (by decide) (hts _ wi_103) (fun _ h9 => h9) rfl de_K_entriesInAll_1 ?_
  refine dk_calli (va_runV (As := []) (rest := []) ⟨hx, hb, hml, hown, hts⟩ (c_R_size l G w D.t 2 3 40 σ.tb hkp.t) (cwV 0 hts (wd_gV (C := "RunKeeper$Row") wi_147 wi_144 wi_145 wi_146 wi_2) rfl rfl rfl (by decide +kernel) ⟨Nat.le_of_ble_eq_true rfl, Nat.le_of_ble_eq_true rfl⟩) (dk_preV (kn_R, kt_R, 2) hE hP hS hc_475 rfl) rfl rfl hl.1 rfl (lv_room (Nat.le_of_ble_eq_true rfl)) de_K_entriesInAll_4 ⟨(by first | exact Nat.le_of_ble_eq_true rfl | (simp only [Nat.zero_add]; omega) | omega), (by first | exact Nat.le_of_ble_eq_true rfl | (simp only [Nat.zero_add]; omega) | omega)⟩) hS (fun r_478 w_476 H locs hq_477 hP hS => ?_)
  obtain ⟨hr_479, he_480⟩ := hq_477
  subst hr_479
  rw [he_480] at hP
  refine lv_istore_n (lv' := [(1, .int (nI σ.tb.length)), (0, .ref h)]) hx hb de_K_entriesInAll_7 rfl hl (by decide) rfl (fun ls hl => ?_)
  refine lv_iconst (v := nI 0) hx hb de_K_entriesInAll_8 (by decide) ?_
  refine lv_istore_n (lv' := [(2, .int (nI 0)), (1, .int (nI σ.tb.length)), (0, .ref h)]) hx hb de_K_entriesInAll_9 rfl hl (by decide) rfl (fun ls hl => ?_)
  have lp : ∀ (zk : Nat) (i : Nat) (n : Nat), 6 - i < zk → (i ≤ 6) → (n = σ.tb.length + lv_ct σ.lv i) → ∀ (H : Heap) (locs : List Loc), dk_P G w H → dk_S G s.heap H locs → ∀ (ls : Array Slot), lv_has ls 3 [(0, .ref h), (1, .int (nI n)), (2, .int (nI i))] → W p l e rm_K_entriesInAll s m args below meth c H locs (0 + 0) (0 + 0) Q (F0 m 10 ls []) := by
    intro zk
    induction zk with
    | zero =>
      intro i n hk
      exact absurd hk (by omega)
    | succ zk ih =>
      intro i n hk hi hn
      intro H locs hP hS
      intro ls hl
      refine lv_iload_n hx hb de_K_entriesInAll_10 rfl (lv_at hl 2 rfl) ?_
      refine lv_bipush (v := nI 6) hx hb de_K_entriesInAll_11 (by decide) ?_
      refine nx_icmp_ge (a := i) (b := 6) (tgt := 34) hx hb (by omega) (by omega) de_K_entriesInAll_13 (by decide) (fun c_481 => ?_) (fun c_481 => ?_)
      · have e9 : i = 6 := by omega
        refine lv_iload_n hx hb de_K_entriesInAll_34 rfl (lv_at hl 1 rfl) ?_
        exact dk_iret hQ hx hb hr hlocks hP hS (Nat.le_refl _) (Nat.le_refl _) (⟨by rw [hn, e9]; rfl, rfl⟩) de_K_entriesInAll_35
      · refine lv_iload_n hx hb de_K_entriesInAll_16 rfl (lv_at hl 1 rfl) ?_
        refine lv_aload_n hx hb de_K_entriesInAll_17 rfl (lv_at hl 0 rfl) ?_
        refine dk_get (a := h) (v := .ref D.lv) (C := kn_K) (T := kt_K) (N := 12) hx hb hts ki_K hown hK hP hh_473 rfl 2 (by decide) (hts _ wi_105) (fun _ h9 => h9) rfl de_K_entriesInAll_18 ?_
        refine lv_iload_n hx hb de_K_entriesInAll_21 rfl (lv_at hl 2 rfl) ?_
        refine dk_aald (a := D.lv) (r := some (D.le i)) (C := dk_nL) hx hb hK hP hkp.l rfl i rfl (by omega) (by omega) ((hkp.v i (by omega)).1) de_K_entriesInAll_22 ?_
        obtain ⟨al_482, _, hc_483, -⟩ := id (hkp.v i (by omega)).2
        refine dk_calli (va_runV (As := []) (rest := [.int (nI n)]) ⟨hx, hb, hml, hown, hts⟩ (c_V_entryCount l G w (D.le i) (20 + 3 * i) (σ.lv i) (hkp.v i (by omega)).2) (cwV 0 hts (wd_gV (C := "RunKeeper$Level") wi_422 wi_419 wi_420 wi_421 wi_4) rfl rfl rfl (by decide +kernel) ⟨Nat.le_of_ble_eq_true rfl, Nat.le_of_ble_eq_true rfl⟩) (dk_preV (kn_V, kt_V, 2) hE hP hS hc_483 rfl) rfl rfl hl.1 rfl (lv_room (Nat.le_of_ble_eq_true rfl)) de_K_entriesInAll_23 ⟨(by first | exact Nat.le_of_ble_eq_true rfl | (simp only [Nat.zero_add]; omega) | omega), (by first | exact Nat.le_of_ble_eq_true rfl | (simp only [Nat.zero_add]; omega) | omega)⟩) hS (fun r_486 w_484 H locs hq_485 hP hS => ?_)
        obtain ⟨hr_487, he_488⟩ := hq_485
        subst hr_487
        rw [he_488] at hP
        refine nx_iadd (a := n) (b := le_ct (σ.lv i)) hx hb de_K_entriesInAll_26 ?_
        refine lv_istore_n (lv' := [(1, .int (nI (n + (le_ct (σ.lv i))))), (0, .ref h), (2, .int (nI i))]) hx hb de_K_entriesInAll_27 rfl hl (by decide) rfl (fun ls hl => ?_)
        refine lv_iinc (v := nI (i + 1)) (lv' := [(2, .int (nI (i + 1))), (1, .int (nI (n + (le_ct (σ.lv i))))), (0, .ref h)]) hx hb de_K_entriesInAll_28 hl (k := 2) rfl (nx_inc i) (by decide) rfl (fun ls hl => ?_)
        refine lv_goto (tgt := 10) hx hb de_K_entriesInAll_31 (by decide) ?_
        exact ih (i + 1) (n + le_ct (σ.lv i)) (by omega) (by omega) (by rw [hn, Nat.add_assoc]; rfl) _ _ hP hS _ (lv_sub hl [2, 1, 0] rfl)
  exact lp 7 0 σ.tb.length (by omega) (Nat.zero_le _) rfl _ _ hP hS _ (lv_sub hl [2, 1, 0] rfl)
abbrev rm_K_dropBatch : Room := { frames := 1, cells := 0, slots := 0, locals := 21 }
set_option maxHeartbeats 4000000 in
set_option maxRecDepth 100000 in
theorem c_K_dropBatch (l : Launch) (G : dk_G) (w : dk_H) (h : Nat) (D : kp_D) (σ : kp_S) (hkp : kp_at G w h D σ) : dk_Mv l my_K_dropBatch (wd_c my_K_dropBatch mb_K_dropBatch 1 none) rm_K_dropBatch G w [.ref h] (fun w1 => kp_at G w1 h D ((σ.ib' false).ad' []) ∧ dk_fr kp_T w w1) 0 0 := by
  refine dk_enter (lv := [(0, .ref h)]) (by decide) (Nat.le_of_ble_eq_true rfl) rfl (fun p e s m args below meth c ls Q hQ C hP hS hl => ?_)
  obtain ⟨hx, hb, hr, hml, hlocks, hown, hnm, hts, hE⟩ := C
  have hK := hE.1
  have hN := hE.2.1
  have hh_489 : w h = some (1, .inr (cx_K, [.ref D.t, .ref D.a, .ref D.lv, .ref D.sn, .ref D.g, .ref D.k, .ref D.ne, .int (nI σ.sf), .int (bo_i σ.ib), .int (nI σ.sq), .int (nI σ.pr), .int (nI σ.mi)])) := hkp.o
  refine lv_aload_n hx hb de_K_dropBatch_0 rfl (lv_at hl 0 rfl) ?_
  refine lv_iconst (v := nI 0) hx hb de_K_dropBatch_1 (by decide) ?_
  refine dk_put (a := h) (v := .int (nI 0)) (ty := .boolean) (C := kn_K) (T := kt_K) (N := 12) hx hb hts ki_K ky_K kk_K kd_K hown hK hP hS hh_489 rfl 8 (by decide) (hts _ wi_111) (fun _ h9 => h9) rfl (by decide +kernel) (by decide) (by decide) (Nat.le_of_ble_eq_true rfl) de_K_dropBatch_2 (fun H locs w_490 hw_491 hP hS => ?_)
  have h_492 : w_490 h = some (1, .inr (cx_K, [.ref D.t, .ref D.a, .ref D.lv, .ref D.sn, .ref D.g, .ref D.k, .ref D.ne, .int (nI σ.sf), .int (nI 0), .int (nI σ.sq), .int (nI σ.pr), .int (nI σ.mi)])) := dk_here hw_491
  have h_493 : w_490 D.lv = some (11, dk_ca G 4 6 D.lf) := dk_keep hw_491 hh_489 hkp.l (by decide)
  have hf_494 : dk_fr (fun t => t = 1) w w_490 := ((dk_fr.up (T := fun t => t = 1) hh_489 rfl).eq hw_491)
  have hg_496 : w_490 h = some (1, .inr (cx_K, [.ref D.t, .ref D.a, .ref D.lv, .ref D.sn, .ref D.g, .ref D.k, .ref D.ne, .int (nI σ.sf), .int (bo_i false), .int (nI σ.sq), .int (nI σ.pr), .int (nI σ.mi)])) := by rw [bo_nf]; exact h_492
  have hk_495 : kp_at G w_490 h D (σ.ib' (false)) := hkp.ofo hf_494 hg_496 rfl rfl rfl rfl rfl rfl rfl
  have hh_497 : w_490 h = some (1, .inr (cx_K, [.ref D.t, .ref D.a, .ref D.lv, .ref D.sn, .ref D.g, .ref D.k, .ref D.ne, .int (nI σ.sf), .int (bo_i false), .int (nI σ.sq), .int (nI σ.pr), .int (nI σ.mi)])) := hk_495.o
  obtain ⟨sl_498, _, hc_499, -⟩ := id hk_495.a
  refine lv_aload_n hx hb de_K_dropBatch_5 rfl (lv_at hl 0 rfl) ?_
  refine dk_get (a := h) (v := .ref D.a) (C := kn_K) (T := kt_K) (N := 12) hx hb hts ki_K hown hK hP hh_497 rfl 1 (by decide) (hts _ wi_104) (fun _ h9 => h9) rfl de_K_dropBatch_6 ?_
  refine lv_iconst (v := nI 0) hx hb de_K_dropBatch_9 (by decide) ?_
  refine dk_callv (va_runV (As := [.int (nI 0)]) (rest := []) ⟨hx, hb, hml, hown, hts⟩ (c_R_cutTo l G w_490 D.a 4 5 16 σ.ad hk_495.a (by omega) 0 (by decide)) (cwV 1 hts (wd_gV (C := "RunKeeper$Row") wi_279 wi_276 wi_277 wi_278 wi_2) rfl rfl rfl (by decide +kernel) ⟨Nat.le_of_ble_eq_true rfl, Nat.le_of_ble_eq_true rfl⟩) (dk_preV (kn_R, kt_R, 2) hE hP hS hc_499 rfl) rfl rfl hl.1 rfl (lv_room (Nat.le_of_ble_eq_true rfl)) de_K_dropBatch_10 ⟨(by first | exact Nat.le_of_ble_eq_true rfl | (simp only [Nat.zero_add]; omega) | omega), (by first | exact Nat.le_of_ble_eq_true rfl | (simp only [Nat.zero_add]; omega) | omega)⟩) hS (fun w_500 H locs hq_501 hP hS => ?_)
  have hk_503 : kp_at G w_500 h D ((σ.ib' (false)).ad' (σ.ad.take 0)) := hk_495.ofa hq_501.2 hq_501.1
  have hh_504 : w_500 h = some (1, .inr (cx_K, [.ref D.t, .ref D.a, .ref D.lv, .ref D.sn, .ref D.g, .ref D.k, .ref D.ne, .int (nI σ.sf), .int (bo_i false), .int (nI σ.sq), .int (nI σ.pr), .int (nI σ.mi)])) := hk_503.o
  exact dk_vret hQ hx hb hr hlocks hP hS (Nat.le_refl _) (Nat.le_refl _) (⟨hk_503, ((kp_o hf_494)).tr (kp_r hq_501.2 (by omega))⟩) de_K_dropBatch_13
abbrev rm_K_appendToTable : Room := { frames := 3, cells := 1, slots := 4, locals := 66 }
set_option maxHeartbeats 4000000 in
set_option maxRecDepth 100000 in
theorem c_K_appendToTable (l : Launch) (G : dk_G) (w : dk_H) (h : Nat) (D : kp_D) (σ : kp_S) (hkp : kp_at G w h D σ) (a : Nat) (x : en_T) (ha : en_at w a x) (hn : σ.tb.length < 40) (hx1 : x.1 < 1024) (hs : σ.sq + 1 < 2 ^ 30) : dk_Mv l my_K_appendToTable (wd_c my_K_appendToTable mb_K_appendToTable 2 none) rm_K_appendToTable G w [.ref h, .ref a] (fun w1 => kp_at G w1 h D ((σ.sq' (σ.sq + 1)).tb' (σ.tb ++ [(x.1, σ.sq + 1, x.2.2.1, x.2.2.2)])) ∧ dk_fr kp_T w w1) 1 4 := by
  refine dk_enter (lv := [(0, .ref h), (1, .ref a)]) (by decide) (Nat.le_of_ble_eq_true rfl) rfl (fun p e s m args below meth c ls Q hQ C hP hS hl => ?_)
  obtain ⟨hx, hb, hr, hml, hlocks, hown, hnm, hts, hE⟩ := C
  have hK := hE.1
  have hN := hE.2.1
  have hh_505 : w h = some (1, .inr (cx_K, [.ref D.t, .ref D.a, .ref D.lv, .ref D.sn, .ref D.g, .ref D.k, .ref D.ne, .int (nI σ.sf), .int (bo_i σ.ib), .int (nI σ.sq), .int (nI σ.pr), .int (nI σ.mi)])) := hkp.o
  refine lv_aload_n hx hb de_K_appendToTable_0 rfl (lv_at hl 1 rfl) ?_
  refine lv_ifnull hx hb de_K_appendToTable_1 ?_
  refine lv_aload_n hx hb de_K_appendToTable_4 rfl (lv_at hl 0 rfl) ?_
  refine lv_dup hx hb de_K_appendToTable_5 rfl ?_
  refine dk_get (a := h) (v := .int (nI σ.sq)) (C := kn_K) (T := kt_K) (N := 12) hx hb hts ki_K hown hK hP hh_505 rfl 9 (by decide) (hts _ wi_112) (fun _ h9 => h9) rfl de_K_appendToTable_6 ?_
  refine lv_iconst (v := nI 1) hx hb de_K_appendToTable_9 (by decide) ?_
  refine nx_iadd (a := σ.sq) (b := 1) hx hb de_K_appendToTable_10 ?_
  refine dk_put (a := h) (v := .int (nI (σ.sq + 1))) (ty := .int) (C := kn_K) (T := kt_K) (N := 12) hx hb hts ki_K ky_K kk_K kd_K hown hK hP hS hh_505 rfl 9 (by decide) (hts _ wi_112) (fun _ h9 => h9) rfl (by decide +kernel) rfl rfl (Nat.le_of_ble_eq_true rfl) de_K_appendToTable_11 (fun H locs w_507 hw_508 hP hS => ?_)
  have h_509 : w_507 h = some (1, .inr (cx_K, [.ref D.t, .ref D.a, .ref D.lv, .ref D.sn, .ref D.g, .ref D.k, .ref D.ne, .int (nI σ.sf), .int (bo_i σ.ib), .int (nI (σ.sq + 1)), .int (nI σ.pr), .int (nI σ.mi)])) := dk_here hw_508
  have h_510 : w_507 D.lv = some (11, dk_ca G 4 6 D.lf) := dk_keep hw_508 hh_505 hkp.l (by decide)
  have hf_511 : dk_fr (fun t => t = 1) w w_507 := ((dk_fr.up (T := fun t => t = 1) hh_505 rfl).eq hw_508)
  have hk_512 : kp_at G w_507 h D (σ.sq' (σ.sq + 1)) := hkp.ofo hf_511 h_509 rfl rfl rfl rfl rfl rfl rfl
  have hh_513 : w_507 h = some (1, .inr (cx_K, [.ref D.t, .ref D.a, .ref D.lv, .ref D.sn, .ref D.g, .ref D.k, .ref D.ne, .int (nI σ.sf), .int (bo_i σ.ib), .int (nI (σ.sq + 1)), .int (nI σ.pr), .int (nI σ.mi)])) := hk_512.o
  have ha2 : en_at w_507 a x := ha.fr hf_511 (by omega)
  obtain ⟨sl_514, _, hc_515, -⟩ := id hk_512.t
  refine lv_aload_n hx hb de_K_appendToTable_14 rfl (lv_at hl 0 rfl) ?_
  refine dk_get (a := h) (v := .ref D.t) (C := kn_K) (T := kt_K) (N := 12) hx hb hts ki_K hown hK hP hh_513 rfl 0 (by decide) (hts _ wi_103) (fun _ h9 => h9) rfl de_K_appendToTable_15 ?_
  refine lv_aload_n hx hb de_K_appendToTable_18 rfl (lv_at hl 1 rfl) ?_
  refine lv_aload_n hx hb de_K_appendToTable_19 rfl (lv_at hl 0 rfl) ?_
  refine dk_get (a := h) (v := .int (nI (σ.sq + 1))) (C := kn_K) (T := kt_K) (N := 12) hx hb hts ki_K hown hK hP hh_513 rfl 9 (by decide) (hts _ wi_112) (fun _ h9 => h9) rfl de_K_appendToTable_20 ?_
  refine dk_callq (va_runV (As := [.int (nI (σ.sq + 1))]) (rest := [.ref D.t]) ⟨hx, hb, hml, hown, hts⟩ (c_E_numbered l G w_507 a (σ.sq + 1) x ha2) (cwV 1 hts (wd_gV (C := "RunKeeper$Entry") wi_473 wi_470 wi_471 wi_472 wi_14) rfl rfl rfl (by decide +kernel) ⟨Nat.le_of_ble_eq_true rfl, Nat.le_of_ble_eq_true rfl⟩) (dk_preV (kn_E, kt_E, 4) hE hP hS ha2 rfl) rfl rfl hl.1 rfl (lv_room (Nat.le_of_ble_eq_true rfl)) de_K_appendToTable_23 ⟨(by first | exact Nat.le_of_ble_eq_true rfl | (simp only [Nat.zero_add]; omega) | omega), (by first | exact Nat.le_of_ble_eq_true rfl | (simp only [Nat.zero_add]; omega) | omega)⟩) hS (fun r_518 w_516 H locs hq_517 hP hS => ?_)
  obtain ⟨q9, hq1, hq2, hq3⟩ := hq_517
  subst hq1
  have hf9 : dk_fr (fun t => 60 ≤ t ∧ t ≤ 63) w_507 w_516 := (dk_fr.upN hq2).eq hq3
  have hk9 := hk_512.off hf9
  have hh_519 : w_516 h = some (1, .inr (cx_K, [.ref D.t, .ref D.a, .ref D.lv, .ref D.sn, .ref D.g, .ref D.k, .ref D.ne, .int (nI σ.sf), .int (bo_i σ.ib), .int (nI (σ.sq + 1)), .int (nI σ.pr), .int (nI σ.mi)])) := hk9.o
  obtain ⟨sl_520, _, hc_521, -⟩ := id hk9.t
  refine dk_callv (va_runV (As := [.ref q9]) (rest := []) ⟨hx, hb, hml, hown, hts⟩ (c_R_add l G w_516 D.t 2 3 40 σ.tb hk9.t (by omega) q9 (x.1, σ.sq + 1, x.2.2.1, x.2.2.2) (dk_here hq3) hn) (cwV 1 hts (wd_gV (C := "RunKeeper$Row") wi_187 wi_465 wi_185 wi_186 wi_2) rfl rfl rfl (by decide +kernel) ⟨Nat.le_of_ble_eq_true rfl, Nat.le_of_ble_eq_true rfl⟩) (dk_preV (kn_R, kt_R, 2) hE hP hS hc_521 rfl) rfl rfl hl.1 rfl (lv_room (Nat.le_of_ble_eq_true rfl)) de_K_appendToTable_26 ⟨(by first | exact Nat.le_of_ble_eq_true rfl | (simp only [Nat.zero_add]; omega) | omega), (by first | exact Nat.le_of_ble_eq_true rfl | (simp only [Nat.zero_add]; omega) | omega)⟩) hS (fun w_522 H locs hq_523 hP hS => ?_)
  have hk_525 : kp_at G w_522 h D ((σ.sq' (σ.sq + 1)).tb' (σ.tb ++ [(x.1, σ.sq + 1, x.2.2.1, x.2.2.2)])) := hk9.oft hq_523.2 hq_523.1 (tb_ok hkp.tk ⟨hx1, hs⟩)
  have hh_526 : w_522 h = some (1, .inr (cx_K, [.ref D.t, .ref D.a, .ref D.lv, .ref D.sn, .ref D.g, .ref D.k, .ref D.ne, .int (nI σ.sf), .int (bo_i σ.ib), .int (nI (σ.sq + 1)), .int (nI σ.pr), .int (nI σ.mi)])) := hk_525.o
  exact dk_vret hQ hx hb hr hlocks hP hS (by omega) (by omega) (⟨hk_525, (((kp_o hf_511)).tr (kp_f hf9)).tr (kp_r hq_523.2 (by omega))⟩) de_K_appendToTable_29
abbrev rm_K_addRun : Room := { frames := 8, cells := 5, slots := 1579, locals := 192 }
set_option maxHeartbeats 4000000 in
set_option maxRecDepth 100000 in
theorem c_K_addRun (l : Launch) (G : dk_G) (w : dk_H) (h : Nat) (D : kp_D) (σ : kp_S) (hkp : kp_at G w h D σ) (i s0 u0 u1 cap : Nat) (L : List en_T) (hi : i < 6) (hs0 : rw_at G w s0 u0 u1 cap L) (hu : u0 ≠ 0 ∧ u1 ≠ 0 ∧ u0 < 60 ∧ u1 < 60) (hL6 : (σ.lv i).length < 600) (hc6 : le_ct (σ.lv i) + L.length ≤ 600) (hok : ∀ x ∈ L, en_ok x) : dk_Mv l my_K_addRun (wd_c my_K_addRun mb_K_addRun 3 none) rm_K_addRun G w [.ref h, .int (nI i), .ref s0] (fun w1 => kp_at G w1 h D (lv_add σ i L) ∧ dk_fr (fun t => t = 20 + 3 * i ∨ t = 20 + 3 * i + 1 ∨ t = 20 + 3 * i + 2 ∨ (60 ≤ t ∧ t ≤ 63)) w w1) 5 1579 := by
  obtain ⟨ss, fs, hsc, -⟩ := id hs0
  refine dk_enter (lv := [(0, .ref h), (1, .int (nI i)), (2, .ref s0)]) (by decide) (Nat.le_of_ble_eq_true rfl) rfl (fun p e s m args below meth c ls Q hQ C hP hS hl => ?_)
  obtain ⟨hx, hb, hr, hml, hlocks, hown, hnm, hts, hE⟩ := C
  have hK := hE.1
  have hN := hE.2.1
  have hh_527 : w h = some (1, .inr (cx_K, [.ref D.t, .ref D.a, .ref D.lv, .ref D.sn, .ref D.g, .ref D.k, .ref D.ne, .int (nI σ.sf), .int (bo_i σ.ib), .int (nI σ.sq), .int (nI σ.pr), .int (nI σ.mi)])) := hkp.o
  refine lv_iload_n hx hb de_K_addRun_0 rfl (lv_at hl 1 rfl) ?_
  refine dk_calli (va_runS (As := [.int (nI i)]) (rest := []) ⟨hx, hb, hml, hown, hts⟩ (c_K_isLevel l G w (nI i)) (va_cwS 1 hts (wd_gS wi_170 wi_168 wi_169 wi_1) rfl rfl rfl (by decide +kernel) ⟨Nat.le_of_ble_eq_true rfl, Nat.le_of_ble_eq_true rfl⟩) (dk_preS hE hP hS) rfl rfl hl.1 rfl (lv_room (Nat.le_of_ble_eq_true rfl)) de_K_addRun_1 ⟨(by first | exact Nat.le_of_ble_eq_true rfl | (simp only [Nat.zero_add]; omega) | omega), (by first | exact Nat.le_of_ble_eq_true rfl | (simp only [Nat.zero_add]; omega) | omega)⟩) hS (fun r_530 w_528 H locs hq_529 hP hS => ?_)
  rw [in_nat (by omega) (by decide)] at hq_529
  obtain ⟨hr_531, he_532⟩ := hq_529
  subst hr_531
  rw [he_532] at hP
  refine bo_if_eq (b := (decide (i < 6))) (tgt := 31) hx hb de_K_addRun_4 (by decide) (fun c_533 => ?_) (fun c_533 => ?_)
  · exact absurd c_533 (by simp [hi])
  · refine lv_aload_n hx hb de_K_addRun_7 rfl (lv_at hl 2 rfl) ?_
    refine dk_calli (va_runV (As := []) (rest := []) ⟨hx, hb, hml, hown, hts⟩ (c_R_size l G w s0 u0 u1 cap L hs0) (cwV 0 hts (wd_gV (C := "RunKeeper$Row") wi_147 wi_144 wi_145 wi_146 wi_2) rfl rfl rfl (by decide +kernel) ⟨Nat.le_of_ble_eq_true rfl, Nat.le_of_ble_eq_true rfl⟩) (dk_preV (kn_R, kt_R, 2) hE hP hS hsc rfl) rfl rfl hl.1 rfl (lv_room (Nat.le_of_ble_eq_true rfl)) de_K_addRun_8 ⟨(by first | exact Nat.le_of_ble_eq_true rfl | (simp only [Nat.zero_add]; omega) | omega), (by first | exact Nat.le_of_ble_eq_true rfl | (simp only [Nat.zero_add]; omega) | omega)⟩) hS (fun r_536 w_534 H locs hq_535 hP hS => ?_)
    obtain ⟨hr_537, he_538⟩ := hq_535
    subst hr_537
    rw [he_538] at hP
    refine nx_if_le (a := L.length) (tgt := 31) hx hb (by omega) de_K_addRun_11 (by decide) (fun c_539 => ?_) (fun c_539 => ?_)
    · have e9 : L = [] := List.length_eq_zero_iff.mp (by omega)
      exact dk_vret hQ hx hb hr hlocks hP hS (by omega) (by omega) (⟨by rw [lv_add, if_pos e9]; exact hkp, dk_fr.rf⟩) de_K_addRun_31
    · have e9 : L ≠ [] := fun z => by rw [z] at c_539; simp at c_539
      refine lv_aload_n hx hb de_K_addRun_14 rfl (lv_at hl 0 rfl) ?_
      refine dk_get (a := h) (v := .ref D.lv) (C := kn_K) (T := kt_K) (N := 12) hx hb hts ki_K hown hK hP hh_527 rfl 2 (by decide) (hts _ wi_105) (fun _ h9 => h9) rfl de_K_addRun_15 ?_
      refine lv_iload_n hx hb de_K_addRun_18 rfl (lv_at hl 1 rfl) ?_
      refine dk_aald (a := D.lv) (r := some (D.le i)) (C := dk_nL) hx hb hK hP hkp.l rfl i rfl (by omega) (by omega) ((hkp.v i (by omega)).1) de_K_addRun_19 ?_
      obtain ⟨al_540, _, hc_541, -⟩ := id (hkp.v i (by omega)).2
      refine dk_new 63 (fs := [.null, .null]) (C := kn_U) (T := kt_U) (N := 2) (ci := cx_U) hx hb hts ki_U ky_U kk_U hown (hts _ wi_171) (hts _ wi_172) (hts _ wi_15) hK hP hS hE.2.2.2 rfl (fun j hj => by match j, hj with | 0, _ => rfl | 1, _ => rfl | j + 2, h => exact absurd h (by omega)) (by first | exact Nat.le_of_ble_eq_true rfl | (simp only [Nat.zero_add]; omega) | omega) (by first | exact Nat.le_of_ble_eq_true rfl | (simp only [Nat.zero_add]; omega) | omega) de_K_addRun_20 (fun q_542 H w_543 hn_545 hw_544 hP hS => ?_)
      have h_546 : w_543 q_542 = some (63, .inr (cx_U, [.null, .null])) := dk_here hw_544
      have h_547 : w_543 h = some (1, .inr (cx_K, [.ref D.t, .ref D.a, .ref D.lv, .ref D.sn, .ref D.g, .ref D.k, .ref D.ne, .int (nI σ.sf), .int (bo_i σ.ib), .int (nI σ.sq), .int (nI σ.pr), .int (nI σ.mi)])) := dk_keepN hw_544 hn_545 hh_527
      have h_548 : w_543 D.lv = some (11, dk_ca G 4 6 D.lf) := dk_keepN hw_544 hn_545 hkp.l
      have h_549 : w_543 s0 = some (u0, .inr (cx_R, [.ref ss, .int (nI L.length)])) := dk_keepN hw_544 hn_545 hsc
      have h_550 : w_543 (D.le i) = some (20 + 3 * i, .inr (cx_V, [.ref al_540, .int (nI (le_ct (σ.lv i)))])) := dk_keepN hw_544 hn_545 hc_541
      have hf1 : dk_fr (fun t => 60 ≤ t ∧ t ≤ 63) w w_543 := (dk_fr.upN hn_545).eq hw_544
      refine lv_dup hx hb de_K_addRun_23 rfl ?_
      refine lv_aload_n hx hb de_K_addRun_24 rfl (lv_at hl 2 rfl) ?_
      refine dk_callv (va_runI (As := [.ref s0]) (rest := [.ref q_542, .ref (D.le i)]) ⟨hx, hb, hml, hown, hts⟩ (c_U_init l G w_543 q_542 s0 u0 u1 cap L h_546 (hs0.fr hf1 (by omega) (by omega) (by omega)) hu (by omega) (by omega) hok) (cwI 1 hts (wd_g wi_175) rfl rfl rfl (hts _ wi_15) (hts _ wi_173) (hts _ wi_174) rfl (by decide +kernel) ⟨Nat.le_of_ble_eq_true rfl, Nat.le_of_ble_eq_true rfl⟩) (dk_preS hE hP hS) rfl rfl hl.1 rfl (lv_room (Nat.le_of_ble_eq_true rfl)) de_K_addRun_25 ⟨(by first | exact Nat.le_of_ble_eq_true rfl | (simp only [Nat.zero_add]; omega) | omega), (by first | exact Nat.le_of_ble_eq_true rfl | (simp only [Nat.zero_add]; omega) | omega)⟩) hS (fun w_551 H locs hq_552 hP hS => ?_)
      have hf2 := hf1.tr hq_552.2
      have hk2 := hkp.off hf2
      have hh_554 : w_551 h = some (1, .inr (cx_K, [.ref D.t, .ref D.a, .ref D.lv, .ref D.sn, .ref D.g, .ref D.k, .ref D.ne, .int (nI σ.sf), .int (bo_i σ.ib), .int (nI σ.sq), .int (nI σ.pr), .int (nI σ.mi)])) := hk2.o
      obtain ⟨al_555, _, hc_556, -⟩ := id (hk2.v i (by omega)).2
      refine dk_callv (va_runV (As := [.ref q_542]) (rest := []) ⟨hx, hb, hml, hown, hts⟩ (c_V_add l G w_551 (D.le i) (20 + 3 * i) (σ.lv i) (hk2.v i (by omega)).2 (by omega) q_542 L hq_552.1 hL6 hc6) (cwV 1 hts (wd_gV (C := "RunKeeper$Level") wi_211 wi_208 wi_209 wi_210 wi_4) rfl rfl rfl (by decide +kernel) ⟨Nat.le_of_ble_eq_true rfl, Nat.le_of_ble_eq_true rfl⟩) (dk_preV (kn_V, kt_V, 2) hE hP hS hc_556 rfl) rfl rfl hl.1 rfl (lv_room (Nat.le_of_ble_eq_true rfl)) de_K_addRun_28 ⟨(by first | exact Nat.le_of_ble_eq_true rfl | (simp only [Nat.zero_add]; omega) | omega), (by first | exact Nat.le_of_ble_eq_true rfl | (simp only [Nat.zero_add]; omega) | omega)⟩) hS (fun w_557 H locs hq_558 hP hS => ?_)
      have hk_560 : kp_at G w_557 h D (σ.lv' (va_up σ.lv i (σ.lv i ++ [L]))) := hk2.ofv (by omega) hq_558.2 hq_558.1
      have hh_561 : w_557 h = some (1, .inr (cx_K, [.ref D.t, .ref D.a, .ref D.lv, .ref D.sn, .ref D.g, .ref D.k, .ref D.ne, .int (nI σ.sf), .int (bo_i σ.ib), .int (nI σ.sq), .int (nI σ.pr), .int (nI σ.mi)])) := hk_560.o
      have hf3 : dk_fr (fun t => t = 20 + 3 * i ∨ t = 20 + 3 * i + 1 ∨ t = 20 + 3 * i + 2) _ _ := hq_558.2
      exact dk_vret hQ hx hb hr hlocks hP hS (by omega) (by omega) (⟨by rw [lv_add, if_neg e9]; exact hk_560, (hf2.mono (fun t z => by omega)).tr (hf3.mono (fun t z => by omega))⟩) de_K_addRun_31
abbrev rm_K_flushTableIfItHas : Room := { frames := 9, cells := 5, slots := 1579, locals := 214 }
set_option maxHeartbeats 4000000 in
set_option maxRecDepth 100000 in
theorem c_K_flushTableIfItHas (l : Launch) (G : dk_G) (w : dk_H) (h : Nat) (D : kp_D) (σ : kp_S) (hkp : kp_at G w h D σ) (n : Nat) (hn1 : 1 ≤ n) (hn2 : n < 2 ^ 31) (hc6 : kp_n σ ≤ 600) : dk_Mv l my_K_flushTableIfItHas (wd_c my_K_flushTableIfItHas mb_K_flushTableIfItHas 2 none) rm_K_flushTableIfItHas G w [.ref h, .int (nI n)] (fun w1 => kp_at G w1 h D (kp_fl σ n) ∧ dk_fr kp_T w w1) 5 1579 := by
  have hlt : σ.tb.length ≤ 40 := hkp.t.choose_spec.choose_spec.2.2.1
  have hl0 := lv_ct_le σ.lv (show 0 < 6 by decide)
  unfold kp_n at hc6
  refine dk_enter (lv := [(0, .ref h), (1, .int (nI n))]) (by decide) (Nat.le_of_ble_eq_true rfl) rfl (fun p e s m args below meth c ls Q hQ C hP hS hl => ?_)
  obtain ⟨hx, hb, hr, hml, hlocks, hown, hnm, hts, hE⟩ := C
  have hK := hE.1
  have hN := hE.2.1
  have hh_562 : w h = some (1, .inr (cx_K, [.ref D.t, .ref D.a, .ref D.lv, .ref D.sn, .ref D.g, .ref D.k, .ref D.ne, .int (nI σ.sf), .int (bo_i σ.ib), .int (nI σ.sq), .int (nI σ.pr), .int (nI σ.mi)])) := hkp.o
  obtain ⟨sl_563, _, hc_564, -⟩ := id hkp.t
  refine lv_aload_n hx hb de_K_flushTableIfItHas_0 rfl (lv_at hl 0 rfl) ?_
  refine dk_get (a := h) (v := .ref D.t) (C := kn_K) (T := kt_K) (N := 12) hx hb hts ki_K hown hK hP hh_562 rfl 0 (by decide) (hts _ wi_103) (fun _ h9 => h9) rfl de_K_flushTableIfItHas_1 ?_
  refine dk_calli (va_runV (As := []) (rest := []) ⟨hx, hb, hml, hown, hts⟩ (c_R_size l G w D.t 2 3 40 σ.tb hkp.t) (cwV 0 hts (wd_gV (C := "RunKeeper$Row") wi_147 wi_144 wi_145 wi_146 wi_2) rfl rfl rfl (by decide +kernel) ⟨Nat.le_of_ble_eq_true rfl, Nat.le_of_ble_eq_true rfl⟩) (dk_preV (kn_R, kt_R, 2) hE hP hS hc_564 rfl) rfl rfl hl.1 rfl (lv_room (Nat.le_of_ble_eq_true rfl)) de_K_flushTableIfItHas_4 ⟨(by first | exact Nat.le_of_ble_eq_true rfl | (simp only [Nat.zero_add]; omega) | omega), (by first | exact Nat.le_of_ble_eq_true rfl | (simp only [Nat.zero_add]; omega) | omega)⟩) hS (fun r_567 w_565 H locs hq_566 hP hS => ?_)
  obtain ⟨hr_568, he_569⟩ := hq_566
  subst hr_568
  rw [he_569] at hP
  refine lv_iload_n hx hb de_K_flushTableIfItHas_7 rfl (lv_at hl 1 rfl) ?_
  refine nx_icmp_lt (a := σ.tb.length) (b := n) (tgt := 40) hx hb (by omega) (by omega) de_K_flushTableIfItHas_8 (by decide) (fun c_570 => ?_) (fun c_570 => ?_)
  · exact dk_vret hQ hx hb hr hlocks hP hS (by omega) (by omega) (⟨by rw [kp_fl, if_neg (by omega)]; exact hkp, dk_fr.rf⟩) de_K_flushTableIfItHas_40
  · refine lv_aload_n hx hb de_K_flushTableIfItHas_11 rfl (lv_at hl 0 rfl) ?_
    refine dk_get (a := h) (v := .ref D.t) (C := kn_K) (T := kt_K) (N := 12) hx hb hts ki_K hown hK hP hh_562 rfl 0 (by decide) (hts _ wi_103) (fun _ h9 => h9) rfl de_K_flushTableIfItHas_12 ?_
    refine dk_callv (va_runV (As := []) (rest := []) ⟨hx, hb, hml, hown, hts⟩ (c_R_sortAsRun l G w D.t 2 3 40 σ.tb hkp.t (by omega) hkp.tk) (cwV 0 hts (wd_gV (C := "RunKeeper$Row") wi_159 wi_156 wi_157 wi_158 wi_2) rfl rfl rfl (by decide +kernel) ⟨Nat.le_of_ble_eq_true rfl, Nat.le_of_ble_eq_true rfl⟩) (dk_preV (kn_R, kt_R, 2) hE hP hS hc_564 rfl) rfl rfl hl.1 rfl (lv_room (Nat.le_of_ble_eq_true rfl)) de_K_flushTableIfItHas_15 ⟨(by first | exact Nat.le_of_ble_eq_true rfl | (simp only [Nat.zero_add]; omega) | omega), (by first | exact Nat.le_of_ble_eq_true rfl | (simp only [Nat.zero_add]; omega) | omega)⟩) hS (fun w_571 H locs hq_572 hP hS => ?_)
    have hk_574 : kp_at G w_571 h D (σ.tb' (so_st σ.tb)) := hkp.oft hq_572.2 hq_572.1 (fun y hy => hkp.tk y (so_st_mem.mp hy))
    have hh_575 : w_571 h = some (1, .inr (cx_K, [.ref D.t, .ref D.a, .ref D.lv, .ref D.sn, .ref D.g, .ref D.k, .ref D.ne, .int (nI σ.sf), .int (bo_i σ.ib), .int (nI σ.sq), .int (nI σ.pr), .int (nI σ.mi)])) := hk_574.o
    have hsl := so_st_len σ.tb
    have hL6 : (σ.lv 0).length < 600 := by have := hkp.rl (show 0 < 6 by decide); omega
    refine lv_aload_n hx hb de_K_flushTableIfItHas_18 rfl (lv_at hl 0 rfl) ?_
    refine lv_iconst (v := nI 0) hx hb de_K_flushTableIfItHas_19 (by decide) ?_
    refine lv_aload_n hx hb de_K_flushTableIfItHas_20 rfl (lv_at hl 0 rfl) ?_
    refine dk_get (a := h) (v := .ref D.t) (C := kn_K) (T := kt_K) (N := 12) hx hb hts ki_K hown hK hP hh_575 rfl 0 (by decide) (hts _ wi_103) (fun _ h9 => h9) rfl de_K_flushTableIfItHas_21 ?_
    refine dk_callv (va_runV (As := [.int (nI 0), .ref D.t]) (rest := []) ⟨hx, hb, hml, hown, hts⟩ (c_K_addRun l G w_571 h D (σ.tb' (so_st σ.tb)) hk_574 0 D.t 2 3 40 (so_st σ.tb) (by decide) hk_574.t (by omega) hL6 (by rw [hsl]; show le_ct (σ.lv 0) + _ ≤ 600; omega) (fun y hy => hkp.tk y (so_st_mem.mp hy))) (cwV 2 hts (wd_gV (C := "RunKeeper") wi_167 wi_164 wi_166 (wd_p (q := (⟨"RunKeeper", "addRun", "(ILRunKeeper$Row;)V"⟩, 12)) (by decide +kernel) (by decide +kernel)) wi_1) rfl rfl rfl (by decide +kernel) ⟨Nat.le_of_ble_eq_true rfl, Nat.le_of_ble_eq_true rfl⟩) (dk_preV (kn_K, kt_K, 12) hE hP hS hh_575 rfl) rfl rfl hl.1 rfl (lv_room (Nat.le_of_ble_eq_true rfl)) de_K_flushTableIfItHas_24 ⟨(by first | exact Nat.le_of_ble_eq_true rfl | (simp only [Nat.zero_add]; omega) | omega), (by first | exact Nat.le_of_ble_eq_true rfl | (simp only [Nat.zero_add]; omega) | omega)⟩) hS (fun w_576 H locs hq_577 hP hS => ?_)
    have hq9 := hq_577.1
    rw [lv_add, if_neg (fun z => by rw [z] at hsl; simp at hsl; omega)] at hq9
    have hf9 : dk_fr kp_T _ _ := hq_577.2.mono (fun t z => by unfold kp_T; omega)
    have hz9 := And.intro hq9 hf9
    have hk_579 : kp_at G w_576 h D ((σ.tb' (so_st σ.tb)).lv' (va_up σ.lv 0 (σ.lv 0 ++ [so_st σ.tb]))) := hz9.1
    have hh_580 : w_576 h = some (1, .inr (cx_K, [.ref D.t, .ref D.a, .ref D.lv, .ref D.sn, .ref D.g, .ref D.k, .ref D.ne, .int (nI σ.sf), .int (bo_i σ.ib), .int (nI σ.sq), .int (nI σ.pr), .int (nI σ.mi)])) := hk_579.o
    obtain ⟨sl_581, _, hc_582, -⟩ := id hk_579.t
    refine lv_aload_n hx hb de_K_flushTableIfItHas_27 rfl (lv_at hl 0 rfl) ?_
    refine dk_get (a := h) (v := .ref D.t) (C := kn_K) (T := kt_K) (N := 12) hx hb hts ki_K hown hK hP hh_580 rfl 0 (by decide) (hts _ wi_103) (fun _ h9 => h9) rfl de_K_flushTableIfItHas_28 ?_
    refine lv_iconst (v := nI 0) hx hb de_K_flushTableIfItHas_31 (by decide) ?_
    refine dk_callv (va_runV (As := [.int (nI 0)]) (rest := []) ⟨hx, hb, hml, hown, hts⟩ (c_R_cutTo l G w_576 D.t 2 3 40 (so_st σ.tb) hk_579.t (by omega) 0 (by decide)) (cwV 1 hts (wd_gV (C := "RunKeeper$Row") wi_279 wi_276 wi_277 wi_278 wi_2) rfl rfl rfl (by decide +kernel) ⟨Nat.le_of_ble_eq_true rfl, Nat.le_of_ble_eq_true rfl⟩) (dk_preV (kn_R, kt_R, 2) hE hP hS hc_582 rfl) rfl rfl hl.1 rfl (lv_room (Nat.le_of_ble_eq_true rfl)) de_K_flushTableIfItHas_32 ⟨(by first | exact Nat.le_of_ble_eq_true rfl | (simp only [Nat.zero_add]; omega) | omega), (by first | exact Nat.le_of_ble_eq_true rfl | (simp only [Nat.zero_add]; omega) | omega)⟩) hS (fun w_583 H locs hq_584 hP hS => ?_)
    have hk_586 : kp_at G w_583 h D (((σ.tb' (so_st σ.tb)).lv' (va_up σ.lv 0 (σ.lv 0 ++ [so_st σ.tb]))).tb' ((so_st σ.tb).take 0)) := hk_579.oft hq_584.2 hq_584.1 (fun y hy => by simp at hy)
    have hh_587 : w_583 h = some (1, .inr (cx_K, [.ref D.t, .ref D.a, .ref D.lv, .ref D.sn, .ref D.g, .ref D.k, .ref D.ne, .int (nI σ.sf), .int (bo_i σ.ib), .int (nI σ.sq), .int (nI σ.pr), .int (nI σ.mi)])) := hk_586.o
    refine lv_aload_n hx hb de_K_flushTableIfItHas_35 rfl (lv_at hl 0 rfl) ?_
    refine lv_iconst (v := nI 0) hx hb de_K_flushTableIfItHas_36 (by decide) ?_
    refine dk_put (a := h) (v := .int (nI 0)) (ty := .int) (C := kn_K) (T := kt_K) (N := 12) hx hb hts ki_K ky_K kk_K kd_K hown hK hP hS hh_587 rfl 7 (by decide) (hts _ wi_110) (fun _ h9 => h9) rfl (by decide +kernel) rfl rfl (Nat.le_of_ble_eq_true rfl) de_K_flushTableIfItHas_37 (fun H locs w_588 hw_589 hP hS => ?_)
    have h_590 : w_588 h = some (1, .inr (cx_K, [.ref D.t, .ref D.a, .ref D.lv, .ref D.sn, .ref D.g, .ref D.k, .ref D.ne, .int (nI 0), .int (bo_i σ.ib), .int (nI σ.sq), .int (nI σ.pr), .int (nI σ.mi)])) := dk_here hw_589
    have h_591 : w_588 D.lv = some (11, dk_ca G 4 6 D.lf) := dk_keep hw_589 hh_587 hk_586.l (by decide)
    have hf_592 : dk_fr (fun t => t = 1) w_583 w_588 := ((dk_fr.up (T := fun t => t = 1) hh_587 rfl).eq hw_589)
    have hk_593 : kp_at G w_588 h D ((((σ.tb' (so_st σ.tb)).lv' (va_up σ.lv 0 (σ.lv 0 ++ [so_st σ.tb]))).tb' ((so_st σ.tb).take 0)).sf' (0)) := hk_586.ofo hf_592 h_590 rfl rfl rfl rfl rfl rfl rfl
    have hh_594 : w_588 h = some (1, .inr (cx_K, [.ref D.t, .ref D.a, .ref D.lv, .ref D.sn, .ref D.g, .ref D.k, .ref D.ne, .int (nI 0), .int (bo_i σ.ib), .int (nI σ.sq), .int (nI σ.pr), .int (nI σ.mi)])) := hk_593.o
    exact dk_vret hQ hx hb hr hlocks hP hS (by omega) (by omega) (⟨by rw [kp_fl, if_pos (by omega)]; exact hk_593, ((((kp_r hq_572.2 (by omega))).tr (hz9.2)).tr (kp_r hq_584.2 (by omega))).tr (kp_o hf_592)⟩) de_K_flushTableIfItHas_40
abbrev rm_K_gatherEverything : Room := { frames := 4, cells := 0, slots := 0, locals := 86 }
set_option maxHeartbeats 4000000 in
set_option maxRecDepth 100000 in
theorem c_K_gatherEverything (l : Launch) (G : dk_G) (w : dk_H) (h : Nat) (D : kp_D) (σ : kp_S) (hkp : kp_at G w h D σ) (hc6 : kp_n σ ≤ 600) : dk_Mv l my_K_gatherEverything (wd_c my_K_gatherEverything mb_K_gatherEverything 2 none) rm_K_gatherEverything G w [.ref h] (fun w1 => kp_at G w1 h D (σ.ga' (σ.tb ++ lv_fl σ.lv 6)) ∧ dk_fr kp_T w w1) 0 0 := by
  unfold kp_n at hc6
  refine dk_enter (lv := [(0, .ref h)]) (by decide) (Nat.le_of_ble_eq_true rfl) rfl (fun p e s m args below meth c ls Q hQ C hP hS hl => ?_)
  obtain ⟨hx, hb, hr, hml, hlocks, hown, hnm, hts, hE⟩ := C
  have hK := hE.1
  have hN := hE.2.1
  have hh_595 : w h = some (1, .inr (cx_K, [.ref D.t, .ref D.a, .ref D.lv, .ref D.sn, .ref D.g, .ref D.k, .ref D.ne, .int (nI σ.sf), .int (bo_i σ.ib), .int (nI σ.sq), .int (nI σ.pr), .int (nI σ.mi)])) := hkp.o
  obtain ⟨sl_596, _, hc_597, -⟩ := id hkp.g
  refine lv_aload_n hx hb de_K_gatherEverything_0 rfl (lv_at hl 0 rfl) ?_
  refine dk_get (a := h) (v := .ref D.g) (C := kn_K) (T := kt_K) (N := 12) hx hb hts ki_K hown hK hP hh_595 rfl 4 (by decide) (hts _ wi_107) (fun _ h9 => h9) rfl de_K_gatherEverything_1 ?_
  refine lv_iconst (v := nI 0) hx hb de_K_gatherEverything_4 (by decide) ?_
  refine dk_callv (va_runV (As := [.int (nI 0)]) (rest := []) ⟨hx, hb, hml, hown, hts⟩ (c_R_cutTo l G w D.g 6 7 600 σ.ga hkp.g (by omega) 0 (by decide)) (cwV 1 hts (wd_gV (C := "RunKeeper$Row") wi_279 wi_276 wi_277 wi_278 wi_2) rfl rfl rfl (by decide +kernel) ⟨Nat.le_of_ble_eq_true rfl, Nat.le_of_ble_eq_true rfl⟩) (dk_preV (kn_R, kt_R, 2) hE hP hS hc_597 rfl) rfl rfl hl.1 rfl (lv_room (Nat.le_of_ble_eq_true rfl)) de_K_gatherEverything_5 ⟨(by first | exact Nat.le_of_ble_eq_true rfl | (simp only [Nat.zero_add]; omega) | omega), (by first | exact Nat.le_of_ble_eq_true rfl | (simp only [Nat.zero_add]; omega) | omega)⟩) hS (fun w_598 H locs hq_599 hP hS => ?_)
  have hk_601 : kp_at G w_598 h D (σ.ga' (σ.ga.take 0)) := hkp.ofg hq_599.2 hq_599.1
  have hh_602 : w_598 h = some (1, .inr (cx_K, [.ref D.t, .ref D.a, .ref D.lv, .ref D.sn, .ref D.g, .ref D.k, .ref D.ne, .int (nI σ.sf), .int (bo_i σ.ib), .int (nI σ.sq), .int (nI σ.pr), .int (nI σ.mi)])) := hk_601.o
  obtain ⟨sl_603, _, hc_604, -⟩ := id hk_601.g
  refine lv_aload_n hx hb de_K_gatherEverything_8 rfl (lv_at hl 0 rfl) ?_
  refine dk_get (a := h) (v := .ref D.g) (C := kn_K) (T := kt_K) (N := 12) hx hb hts ki_K hown hK hP hh_602 rfl 4 (by decide) (hts _ wi_107) (fun _ h9 => h9) rfl de_K_gatherEverything_9 ?_
  refine lv_aload_n hx hb de_K_gatherEverything_12 rfl (lv_at hl 0 rfl) ?_
  refine dk_get (a := h) (v := .ref D.t) (C := kn_K) (T := kt_K) (N := 12) hx hb hts ki_K hown hK hP hh_602 rfl 0 (by decide) (hts _ wi_103) (fun _ h9 => h9) rfl de_K_gatherEverything_13 ?_
  refine dk_callv (va_runV (As := [.ref D.t]) (rest := []) ⟨hx, hb, hml, hown, hts⟩ (c_R_addAll l G w_598 D.g 6 7 600 (σ.ga.take 0) hk_601.g (by omega) D.t 2 3 40 σ.tb hk_601.t (by omega) (by simp; omega)) (cwV 1 hts (wd_gV (C := "RunKeeper$Row") wi_183 wi_296 wi_181 wi_182 wi_2) rfl rfl rfl (by decide +kernel) ⟨Nat.le_of_ble_eq_true rfl, Nat.le_of_ble_eq_true rfl⟩) (dk_preV (kn_R, kt_R, 2) hE hP hS hc_604 rfl) rfl rfl hl.1 rfl (lv_room (Nat.le_of_ble_eq_true rfl)) de_K_gatherEverything_16 ⟨(by first | exact Nat.le_of_ble_eq_true rfl | (simp only [Nat.zero_add]; omega) | omega), (by first | exact Nat.le_of_ble_eq_true rfl | (simp only [Nat.zero_add]; omega) | omega)⟩) hS (fun w_605 H locs hq_606 hP hS => ?_)
  have hk_608 : kp_at G w_605 h D ((σ.ga' (σ.ga.take 0)).ga' (σ.ga.take 0 ++ σ.tb)) := hk_601.ofg hq_606.2 hq_606.1
  have hh_609 : w_605 h = some (1, .inr (cx_K, [.ref D.t, .ref D.a, .ref D.lv, .ref D.sn, .ref D.g, .ref D.k, .ref D.ne, .int (nI σ.sf), .int (bo_i σ.ib), .int (nI σ.sq), .int (nI σ.pr), .int (nI σ.mi)])) := hk_608.o
  refine lv_iconst (v := nI 0) hx hb de_K_gatherEverything_19 (by decide) ?_
  refine lv_istore_n (lv' := [(1, .int (nI 0)), (0, .ref h)]) hx hb de_K_gatherEverything_20 rfl hl (by decide) rfl (fun ls hl => ?_)
  have lp : ∀ (zk : Nat) (i : Nat), 6 - i < zk → (i ≤ 6) → ∀ (H : Heap) (locs : List Loc) (v : dk_H), (kp_at G v h D (σ.ga' (σ.tb ++ lv_fl σ.lv i))) → (dk_fr kp_T w v) → dk_P G v H → dk_S G s.heap H locs → ∀ (ls : Array Slot), lv_has ls 2 [(0, .ref h), (1, .int (nI i))] → W p l e rm_K_gatherEverything s m args below meth c H locs (0 + 0 + 0) (0 + 0 + 0) Q (F0 m 21 ls []) := by
    intro zk
    induction zk with
    | zero =>
      intro i hk
      exact absurd hk (by omega)
    | succ zk ih =>
      intro i hk hi
      intro H locs v hkv hg hP hS
      intro ls hl
      have hh_610 : v h = some (1, .inr (cx_K, [.ref D.t, .ref D.a, .ref D.lv, .ref D.sn, .ref D.g, .ref D.k, .ref D.ne, .int (nI ((σ.ga' (σ.tb ++ lv_fl σ.lv i)).sf)), .int (bo_i ((σ.ga' (σ.tb ++ lv_fl σ.lv i)).ib)), .int (nI ((σ.ga' (σ.tb ++ lv_fl σ.lv i)).sq)), .int (nI ((σ.ga' (σ.tb ++ lv_fl σ.lv i)).pr)), .int (nI ((σ.ga' (σ.tb ++ lv_fl σ.lv i)).mi))])) := hkv.o
      have hh_611 : v h = some (1, .inr (cx_K, [.ref D.t, .ref D.a, .ref D.lv, .ref D.sn, .ref D.g, .ref D.k, .ref D.ne, .int (nI σ.sf), .int (bo_i σ.ib), .int (nI σ.sq), .int (nI σ.pr), .int (nI σ.mi)])) := hkv.o
      refine lv_iload_n hx hb de_K_gatherEverything_21 rfl (lv_at hl 1 rfl) ?_
      refine lv_bipush (v := nI 6) hx hb de_K_gatherEverything_22 (by decide) ?_
      refine nx_icmp_ge (a := i) (b := 6) (tgt := 46) hx hb (by omega) (by omega) de_K_gatherEverything_24 (by decide) (fun c_612 => ?_) (fun c_612 => ?_)
      · have e9 : i = 6 := by omega
        subst e9
        exact dk_vret hQ hx hb hr hlocks hP hS (Nat.le_refl _) (Nat.le_refl _) (⟨hkv, hg⟩) de_K_gatherEverything_46
      · have hm9 : lv_ct σ.lv i + le_ct (σ.lv i) ≤ lv_ct σ.lv 6 := lv_ct_mono σ.lv (m := i + 1) (n := 6) (by omega)
        refine lv_aload_n hx hb de_K_gatherEverything_27 rfl (lv_at hl 0 rfl) ?_
        refine dk_get (a := h) (v := .ref D.lv) (C := kn_K) (T := kt_K) (N := 12) hx hb hts ki_K hown hK hP hh_611 rfl 2 (by decide) (hts _ wi_105) (fun _ h9 => h9) rfl de_K_gatherEverything_28 ?_
        refine lv_iload_n hx hb de_K_gatherEverything_31 rfl (lv_at hl 1 rfl) ?_
        refine dk_aald (a := D.lv) (r := some (D.le i)) (C := dk_nL) hx hb hK hP hkv.l rfl i rfl (by omega) (by omega) ((hkv.v i (by omega)).1) de_K_gatherEverything_32 ?_
        obtain ⟨al_613, _, hc_614, -⟩ := id (hkv.v i (by omega)).2
        refine lv_aload_n hx hb de_K_gatherEverything_33 rfl (lv_at hl 0 rfl) ?_
        refine dk_get (a := h) (v := .ref D.g) (C := kn_K) (T := kt_K) (N := 12) hx hb hts ki_K hown hK hP hh_611 rfl 4 (by decide) (hts _ wi_107) (fun _ h9 => h9) rfl de_K_gatherEverything_34 ?_
        refine dk_callv (va_runV (As := [.ref D.g]) (rest := []) ⟨hx, hb, hml, hown, hts⟩ (c_V_copyTo l G v (D.le i) (20 + 3 * i) (σ.lv i) (hkv.v i (by omega)).2 (by omega) D.g 6 7 600 (σ.tb ++ lv_fl σ.lv i) hkv.g (by omega) (fun t z1 z2 => by unfold le_T at z2; omega) (by rw [List.length_append, lv_fl_len]; omega)) (cwV 1 hts (wd_gV (C := "RunKeeper$Level") wi_300 wi_297 wi_298 wi_299 wi_4) rfl rfl rfl (by decide +kernel) ⟨Nat.le_of_ble_eq_true rfl, Nat.le_of_ble_eq_true rfl⟩) (dk_preV (kn_V, kt_V, 2) hE hP hS hc_614 rfl) rfl rfl hl.1 rfl (lv_room (Nat.le_of_ble_eq_true rfl)) de_K_gatherEverything_37 ⟨(by first | exact Nat.le_of_ble_eq_true rfl | (simp only [Nat.zero_add]; omega) | omega), (by first | exact Nat.le_of_ble_eq_true rfl | (simp only [Nat.zero_add]; omega) | omega)⟩) hS (fun w_615 H locs hq_616 hP hS => ?_)
        have hk_618 : kp_at G w_615 h D ((σ.ga' (σ.tb ++ lv_fl σ.lv i)).ga' (σ.tb ++ lv_fl σ.lv i ++ (σ.lv i).flatten)) := hkv.ofg hq_616.2 hq_616.1
        have hh_619 : w_615 h = some (1, .inr (cx_K, [.ref D.t, .ref D.a, .ref D.lv, .ref D.sn, .ref D.g, .ref D.k, .ref D.ne, .int (nI σ.sf), .int (bo_i σ.ib), .int (nI σ.sq), .int (nI σ.pr), .int (nI σ.mi)])) := hk_618.o
        refine lv_iinc (v := nI (i + 1)) (lv' := [(1, .int (nI (i + 1))), (0, .ref h)]) hx hb de_K_gatherEverything_40 hl (k := 1) rfl (nx_inc i) (by decide) rfl (fun ls hl => ?_)
        refine lv_goto (tgt := 21) hx hb de_K_gatherEverything_43 (by decide) ?_
        have hk7 : kp_at G w_615 h D (σ.ga' (σ.tb ++ lv_fl σ.lv (i + 1))) := by rw [show σ.tb ++ lv_fl σ.lv (i + 1) = σ.tb ++ lv_fl σ.lv i ++ (σ.lv i).flatten by simp [lv_fl, List.append_assoc]]; exact hk_618
        exact ih (i + 1) (by omega) (by omega) _ _ _ hk7 (hg.tr (kp_r hq_616.2 (by omega))) hP hS _ (lv_sub hl [1, 0] rfl)
  exact lp 7 0 (by omega) (Nat.zero_le _) _ _ _ (by simpa [lv_fl] using hk_608) (((kp_r hq_599.2 (by omega))).tr (kp_r hq_606.2 (by omega))) hP hS _ (lv_sub hl [1, 0] rfl)
abbrev rm_K_leastLevelToMerge : Room := { frames := 2, cells := 0, slots := 0, locals := 40 }
set_option maxHeartbeats 4000000 in
set_option maxRecDepth 100000 in
theorem c_K_leastLevelToMerge (l : Launch) (G : dk_G) (w : dk_H) (h : Nat) (D : kp_D) (σ : kp_S) (hkp : kp_at G w h D σ) : dk_Mi l my_K_leastLevelToMerge (wd_c my_K_leastLevelToMerge mb_K_leastLevelToMerge 2 (some .int)) rm_K_leastLevelToMerge G w [.ref h] (fun r w1 => ((∃ j, j < 5 ∧ r = nI j ∧ 4 ≤ (σ.lv j).length ∧ ∀ i, i < j → (σ.lv i).length < 4) ∨ (r = -1 ∧ ∀ i, i < 5 → (σ.lv i).length < 4)) ∧ w1 = w) 0 0 := by
  refine dk_enter (lv := [(0, .ref h)]) (by decide) (Nat.le_of_ble_eq_true rfl) rfl (fun p e s m args below meth c ls Q hQ C hP hS hl => ?_)
  obtain ⟨hx, hb, hr, hml, hlocks, hown, hnm, hts, hE⟩ := C
  have hK := hE.1
  have hN := hE.2.1
  have hh_620 : w h = some (1, .inr (cx_K, [.ref D.t, .ref D.a, .ref D.lv, .ref D.sn, .ref D.g, .ref D.k, .ref D.ne, .int (nI σ.sf), .int (bo_i σ.ib), .int (nI σ.sq), .int (nI σ.pr), .int (nI σ.mi)])) := hkp.o
  refine lv_iconst (v := nI 0) hx hb de_K_leastLevelToMerge_0 (by decide) ?_
  refine lv_istore_n (lv' := [(1, .int (nI 0)), (0, .ref h)]) hx hb de_K_leastLevelToMerge_1 rfl hl (by decide) rfl (fun ls hl => ?_)
  have lp : ∀ (zk : Nat) (i : Nat), 5 - i < zk → (i ≤ 5) → (∀ j, j < i → (σ.lv j).length < 4) → ∀ (H : Heap) (locs : List Loc), dk_P G w H → dk_S G s.heap H locs → ∀ (ls : Array Slot), lv_has ls 2 [(0, .ref h), (1, .int (nI i))] → W p l e rm_K_leastLevelToMerge s m args below meth c H locs 0 0 Q (F0 m 2 ls []) := by
    intro zk
    induction zk with
    | zero =>
      intro i hk
      exact absurd hk (by omega)
    | succ zk ih =>
      intro i hk hi hno
      intro H locs hP hS
      intro ls hl
      refine lv_iload_n hx hb de_K_leastLevelToMerge_2 rfl (lv_at hl 1 rfl) ?_
      refine lv_iconst (v := nI 5) hx hb de_K_leastLevelToMerge_3 (by decide) ?_
      refine nx_icmp_ge (a := i) (b := 5) (tgt := 28) hx hb (by omega) (by omega) de_K_leastLevelToMerge_4 (by decide) (fun c_621 => ?_) (fun c_621 => ?_)
      · refine lv_iconst (v := (-1)) hx hb de_K_leastLevelToMerge_28 (by decide) ?_
        exact dk_iret hQ hx hb hr hlocks hP hS (Nat.le_refl _) (Nat.le_refl _) (⟨Or.inr ⟨rfl, fun j hj => hno j (by omega)⟩, rfl⟩) de_K_leastLevelToMerge_29
      · have hl9 : (σ.lv i).length ≤ 600 := (hkp.v i (by omega)).2.choose_spec.choose_spec.2.2.2.1
        refine lv_aload_n hx hb de_K_leastLevelToMerge_7 rfl (lv_at hl 0 rfl) ?_
        refine dk_get (a := h) (v := .ref D.lv) (C := kn_K) (T := kt_K) (N := 12) hx hb hts ki_K hown hK hP hh_620 rfl 2 (by decide) (hts _ wi_105) (fun _ h9 => h9) rfl de_K_leastLevelToMerge_8 ?_
        refine lv_iload_n hx hb de_K_leastLevelToMerge_11 rfl (lv_at hl 1 rfl) ?_
        refine dk_aald (a := D.lv) (r := some (D.le i)) (C := dk_nL) hx hb hK hP hkp.l rfl i rfl (by omega) (by omega) ((hkp.v i (by omega)).1) de_K_leastLevelToMerge_12 ?_
        obtain ⟨al_622, _, hc_623, -⟩ := id (hkp.v i (by omega)).2
        refine dk_calli (va_runV (As := []) (rest := []) ⟨hx, hb, hml, hown, hts⟩ (c_V_runCount l G w (D.le i) (20 + 3 * i) (σ.lv i) (hkp.v i (by omega)).2) (cwV 0 hts (wd_gV (C := "RunKeeper$Level") wi_536 wi_533 wi_534 wi_535 wi_4) rfl rfl rfl (by decide +kernel) ⟨Nat.le_of_ble_eq_true rfl, Nat.le_of_ble_eq_true rfl⟩) (dk_preV (kn_V, kt_V, 2) hE hP hS hc_623 rfl) rfl rfl hl.1 rfl (lv_room (Nat.le_of_ble_eq_true rfl)) de_K_leastLevelToMerge_13 ⟨(by first | exact Nat.le_of_ble_eq_true rfl | (simp only [Nat.zero_add]; omega) | omega), (by first | exact Nat.le_of_ble_eq_true rfl | (simp only [Nat.zero_add]; omega) | omega)⟩) hS (fun r_626 w_624 H locs hq_625 hP hS => ?_)
        obtain ⟨hr_627, he_628⟩ := hq_625
        subst hr_627
        rw [he_628] at hP
        refine lv_iconst (v := nI 4) hx hb de_K_leastLevelToMerge_16 (by decide) ?_
        refine nx_icmp_lt (a := (σ.lv i).length) (b := 4) (tgt := 22) hx hb (by omega) (by omega) de_K_leastLevelToMerge_17 (by decide) (fun c_629 => ?_) (fun c_629 => ?_)
        · refine lv_iinc (v := nI (i + 1)) (lv' := [(1, .int (nI (i + 1))), (0, .ref h)]) hx hb de_K_leastLevelToMerge_22 hl (k := 1) rfl (nx_inc i) (by decide) rfl (fun ls hl => ?_)
          refine lv_goto (tgt := 2) hx hb de_K_leastLevelToMerge_25 (by decide) ?_
          have hno2 := lt_s hno c_629
          exact ih (i + 1) (by omega) (by omega) hno2 _ _ hP hS _ (lv_sub hl [1, 0] rfl)
        · refine lv_iload_n hx hb de_K_leastLevelToMerge_20 rfl (lv_at hl 1 rfl) ?_
          exact dk_iret hQ hx hb hr hlocks hP hS (Nat.le_refl _) (Nat.le_refl _) (⟨Or.inl ⟨i, by omega, rfl, by omega, hno⟩, rfl⟩) de_K_leastLevelToMerge_21
  exact lp 6 0 (by omega) (Nat.zero_le _) (fun j hj => absurd hj (by omega)) _ _ hP hS _ (lv_sub hl [1, 0] rfl)
abbrev rm_K_areEmptyFrom : Room := { frames := 2, cells := 0, slots := 0, locals := 40 }
set_option maxHeartbeats 4000000 in
set_option maxRecDepth 100000 in
theorem c_K_areEmptyFrom (l : Launch) (G : dk_G) (w : dk_H) (h : Nat) (D : kp_D) (σ : kp_S) (hkp : kp_at G w h D σ) (k : Nat) (hk6 : k ≤ 6) : dk_Mi l my_K_areEmptyFrom (wd_c my_K_areEmptyFrom mb_K_areEmptyFrom 3 (some .boolean)) rm_K_areEmptyFrom G w [.ref h, .int (nI k)] (fun r w1 => (∃ b, r = bo_i b ∧ (b = true ↔ ∀ i, k ≤ i → i < 6 → σ.lv i = [])) ∧ w1 = w) 0 0 := by
  refine dk_enter (lv := [(0, .ref h), (1, .int (nI k))]) (by decide) (Nat.le_of_ble_eq_true rfl) rfl (fun p e s m args below meth c ls Q hQ C hP hS hl => ?_)
  obtain ⟨hx, hb, hr, hml, hlocks, hown, hnm, hts, hE⟩ := C
  have hK := hE.1
  have hN := hE.2.1
  have hh_630 : w h = some (1, .inr (cx_K, [.ref D.t, .ref D.a, .ref D.lv, .ref D.sn, .ref D.g, .ref D.k, .ref D.ne, .int (nI σ.sf), .int (bo_i σ.ib), .int (nI σ.sq), .int (nI σ.pr), .int (nI σ.mi)])) := hkp.o
  refine lv_iload_n hx hb de_K_areEmptyFrom_0 rfl (lv_at hl 1 rfl) ?_
  refine lv_istore_n (lv' := [(2, .int (nI k)), (0, .ref h), (1, .int (nI k))]) hx hb de_K_areEmptyFrom_1 rfl hl (by decide) rfl (fun ls hl => ?_)
  have lp : ∀ (zk : Nat) (i : Nat), 6 - i < zk → (i ≤ 6) → (k ≤ i) → (∀ j, k ≤ j → j < i → σ.lv j = []) → ∀ (H : Heap) (locs : List Loc), dk_P G w H → dk_S G s.heap H locs → ∀ (ls : Array Slot), lv_has ls 3 [(0, .ref h), (1, .int (nI k)), (2, .int (nI i))] → W p l e rm_K_areEmptyFrom s m args below meth c H locs 0 0 Q (F0 m 2 ls []) := by
    intro zk
    induction zk with
    | zero =>
      intro i hk
      exact absurd hk (by omega)
    | succ zk ih =>
      intro i hk hi hki hno
      intro H locs hP hS
      intro ls hl
      refine lv_iload_n hx hb de_K_areEmptyFrom_2 rfl (lv_at hl 2 rfl) ?_
      refine lv_bipush (v := nI 6) hx hb de_K_areEmptyFrom_3 (by decide) ?_
      refine nx_icmp_ge (a := i) (b := 6) (tgt := 28) hx hb (by omega) (by omega) de_K_areEmptyFrom_5 (by decide) (fun c_631 => ?_) (fun c_631 => ?_)
      · refine lv_iconst (v := nI 1) hx hb de_K_areEmptyFrom_28 (by decide) ?_
        exact dk_zret hQ hx hb hr hlocks hP hS (Nat.le_refl _) (Nat.le_refl _) (by decide +kernel) (⟨⟨true, rfl, fun _ j h1 h2 => hno j h1 (by omega), fun _ => rfl⟩, rfl⟩) de_K_areEmptyFrom_29
      · have hl9 : (σ.lv i).length ≤ 600 := (hkp.v i (by omega)).2.choose_spec.choose_spec.2.2.2.1
        refine lv_aload_n hx hb de_K_areEmptyFrom_8 rfl (lv_at hl 0 rfl) ?_
        refine dk_get (a := h) (v := .ref D.lv) (C := kn_K) (T := kt_K) (N := 12) hx hb hts ki_K hown hK hP hh_630 rfl 2 (by decide) (hts _ wi_105) (fun _ h9 => h9) rfl de_K_areEmptyFrom_9 ?_
        refine lv_iload_n hx hb de_K_areEmptyFrom_12 rfl (lv_at hl 2 rfl) ?_
        refine dk_aald (a := D.lv) (r := some (D.le i)) (C := dk_nL) hx hb hK hP hkp.l rfl i rfl (by omega) (by omega) ((hkp.v i (by omega)).1) de_K_areEmptyFrom_13 ?_
        obtain ⟨al_632, _, hc_633, -⟩ := id (hkp.v i (by omega)).2
        refine dk_calli (va_runV (As := []) (rest := []) ⟨hx, hb, hml, hown, hts⟩ (c_V_runCount l G w (D.le i) (20 + 3 * i) (σ.lv i) (hkp.v i (by omega)).2) (cwV 0 hts (wd_gV (C := "RunKeeper$Level") wi_536 wi_533 wi_534 wi_535 wi_4) rfl rfl rfl (by decide +kernel) ⟨Nat.le_of_ble_eq_true rfl, Nat.le_of_ble_eq_true rfl⟩) (dk_preV (kn_V, kt_V, 2) hE hP hS hc_633 rfl) rfl rfl hl.1 rfl (lv_room (Nat.le_of_ble_eq_true rfl)) de_K_areEmptyFrom_14 ⟨(by first | exact Nat.le_of_ble_eq_true rfl | (simp only [Nat.zero_add]; omega) | omega), (by first | exact Nat.le_of_ble_eq_true rfl | (simp only [Nat.zero_add]; omega) | omega)⟩) hS (fun r_636 w_634 H locs hq_635 hP hS => ?_)
        obtain ⟨hr_637, he_638⟩ := hq_635
        subst hr_637
        rw [he_638] at hP
        refine nx_if_le (a := (σ.lv i).length) (tgt := 22) hx hb (by omega) de_K_areEmptyFrom_17 (by decide) (fun c_639 => ?_) (fun c_639 => ?_)
        · have e9 : σ.lv i = [] := List.length_eq_zero_iff.mp (by omega)
          refine lv_iinc (v := nI (i + 1)) (lv' := [(2, .int (nI (i + 1))), (0, .ref h), (1, .int (nI k))]) hx hb de_K_areEmptyFrom_22 hl (k := 2) rfl (nx_inc i) (by decide) rfl (fun ls hl => ?_)
          refine lv_goto (tgt := 2) hx hb de_K_areEmptyFrom_25 (by decide) ?_
          have hno2 := em_s hno e9
          exact ih (i + 1) (by omega) (by omega) (by omega) hno2 _ _ hP hS _ (lv_sub hl [1, 2, 0] rfl)
        · refine lv_iconst (v := nI 0) hx hb de_K_areEmptyFrom_20 (by decide) ?_
          exact dk_zret hQ hx hb hr hlocks hP hS (Nat.le_refl _) (Nat.le_refl _) (by decide +kernel) (⟨⟨false, rfl, fun z => (Bool.noConfusion z), fun z => absurd (z i hki (by omega)) (fun y => by rw [y] at c_639; simp at c_639)⟩, rfl⟩) de_K_areEmptyFrom_21
  exact lp 7 k (by omega) (by omega) (Nat.le_refl _) (fun j hj h9 => absurd hj (by omega)) _ _ hP hS _ (lv_sub hl [1, 2, 0] rfl)
abbrev rm_K_isSeen : Room := { frames := 1, cells := 0, slots := 0, locals := 23 }
set_option maxHeartbeats 4000000 in
set_option maxRecDepth 100000 in
theorem c_K_isSeenN (l : Launch) (G : dk_G) (w : dk_H) (h : Nat) (D : kp_D) (σ : kp_S) (hkp : kp_at G w h D σ) (a : Nat) : dk_Mi l my_K_isSeen (wd_c my_K_isSeen mb_K_isSeen 3 (some .boolean)) rm_K_isSeen G w [.ref h, .ref a, .null] (fun r w1 => r = bo_i true ∧ w1 = w) 0 0 := by
  refine dk_enter (lv := [(0, .ref h), (1, .ref a), (2, .null)]) (by decide) (Nat.le_of_ble_eq_true rfl) rfl (fun p e s m args below meth c ls Q hQ C hP hS hl => ?_)
  obtain ⟨hx, hb, hr, hml, hlocks, hown, hnm, hts, hE⟩ := C
  have hK := hE.1
  have hN := hE.2.1
  have hh_640 : w h = some (1, .inr (cx_K, [.ref D.t, .ref D.a, .ref D.lv, .ref D.sn, .ref D.g, .ref D.k, .ref D.ne, .int (nI σ.sf), .int (bo_i σ.ib), .int (nI σ.sq), .int (nI σ.pr), .int (nI σ.mi)])) := hkp.o
  refine lv_aload_nN hx hb de_K_isSeen_0 rfl (lv_at hl 2 rfl) ?_
  refine lv_ifnullN (tgt := 12) hx hb de_K_isSeen_1 (by decide) ?_
  refine lv_iconst (v := nI 1) hx hb de_K_isSeen_12 (by decide) ?_
  exact dk_zret hQ hx hb hr hlocks hP hS (Nat.le_refl _) (Nat.le_refl _) (by decide +kernel) (⟨bo_of1 rfl, rfl⟩) de_K_isSeen_13
set_option maxHeartbeats 4000000 in
set_option maxRecDepth 100000 in
theorem c_K_isSeen (l : Launch) (G : dk_G) (w : dk_H) (h : Nat) (D : kp_D) (σ : kp_S) (hkp : kp_at G w h D σ) (a b : Nat) (x y : en_T) (ha : en_at w a x) (hb0 : en_at w b y) (hx0 : en_ok x) (hy0 : en_ok y) : dk_Mi l my_K_isSeen (wd_c my_K_isSeen mb_K_isSeen 3 (some .boolean)) rm_K_isSeen G w [.ref h, .ref a, .ref b] (fun r w1 => r = bo_i (if x.1 = y.1 then sn_an σ.sn x.2.1 y.2.1 6 else true) ∧ w1 = w) 0 0 := by
  have hx1 := hx0.2
  have hy1 := hy0.2
  refine dk_enter (lv := [(0, .ref h), (1, .ref a), (2, .ref b)]) (by decide) (Nat.le_of_ble_eq_true rfl) rfl (fun p e s m args below meth c ls Q hQ C hP hS hl => ?_)
  obtain ⟨hx, hb, hr, hml, hlocks, hown, hnm, hts, hE⟩ := C
  have hK := hE.1
  have hN := hE.2.1
  have hh_642 : w h = some (1, .inr (cx_K, [.ref D.t, .ref D.a, .ref D.lv, .ref D.sn, .ref D.g, .ref D.k, .ref D.ne, .int (nI σ.sf), .int (bo_i σ.ib), .int (nI σ.sq), .int (nI σ.pr), .int (nI σ.mi)])) := hkp.o
  obtain ⟨a_643, a_644, _, _, hc_645, -⟩ := id hkp.s
  refine lv_aload_n hx hb de_K_isSeen_0 rfl (lv_at hl 2 rfl) ?_
  refine lv_ifnull hx hb de_K_isSeen_1 ?_
  refine lv_aload_n hx hb de_K_isSeen_4 rfl (lv_at hl 1 rfl) ?_
  refine lv_aload_n hx hb de_K_isSeen_5 rfl (lv_at hl 2 rfl) ?_
  refine dk_calli (va_runV (As := [.ref b]) (rest := []) ⟨hx, hb, hml, hown, hts⟩ (c_E_hasKeyOf l G w a b x y ha hb0 hx0 hy0) (cwV 1 hts (wd_gV (C := "RunKeeper$Entry") wi_552 wi_549 wi_550 wi_551 wi_14) rfl rfl rfl (by decide +kernel) ⟨Nat.le_of_ble_eq_true rfl, Nat.le_of_ble_eq_true rfl⟩) (dk_preV (kn_E, kt_E, 4) hE hP hS ha rfl) rfl rfl hl.1 rfl (lv_room (Nat.le_of_ble_eq_true rfl)) de_K_isSeen_6 ⟨(by first | exact Nat.le_of_ble_eq_true rfl | (simp only [Nat.zero_add]; omega) | omega), (by first | exact Nat.le_of_ble_eq_true rfl | (simp only [Nat.zero_add]; omega) | omega)⟩) hS (fun r_649 w_647 H locs hq_648 hP hS => ?_)
  obtain ⟨hr_650, he_651⟩ := hq_648
  subst hr_650
  rw [he_651] at hP
  refine bo_if_ne (b := (decide (x.1 = y.1))) (tgt := 14) hx hb de_K_isSeen_9 (by decide) (fun c_652 => ?_) (fun c_652 => ?_)
  · have e9 : x.1 = y.1 := of_decide_eq_true c_652
    refine lv_aload_n hx hb de_K_isSeen_14 rfl (lv_at hl 0 rfl) ?_
    refine dk_get (a := h) (v := .ref D.sn) (C := kn_K) (T := kt_K) (N := 12) hx hb hts ki_K hown hK hP hh_642 rfl 3 (by decide) (hts _ wi_106) (fun _ h9 => h9) rfl de_K_isSeen_15 ?_
    refine lv_aload_n hx hb de_K_isSeen_18 rfl (lv_at hl 1 rfl) ?_
    refine dk_getN (a := a) (v := .int (nI x.2.1)) (C := kn_E) (T := kt_E) (N := 4) (host := "RunKeeper") hx hb hts ki_E hown hK hP ha rfl 1 (by decide) (hN.use (dn_m 450 (by decide +kernel) rfl)) (fun _ h9 => h9) rfl de_K_isSeen_19 ?_
    refine lv_aload_n hx hb de_K_isSeen_22 rfl (lv_at hl 2 rfl) ?_
    refine dk_getN (a := b) (v := .int (nI y.2.1)) (C := kn_E) (T := kt_E) (N := 4) (host := "RunKeeper") hx hb hts ki_E hown hK hP hb0 rfl 1 (by decide) (hN.use (dn_m 450 (by decide +kernel) rfl)) (fun _ h9 => h9) rfl de_K_isSeen_23 ?_
    refine dk_calli (va_runV (As := [.int (nI x.2.1), .int (nI y.2.1)]) (rest := []) ⟨hx, hb, hml, hown, hts⟩ (c_S_anyFromBelow l G w D.sn σ.sn hkp.s x.2.1 y.2.1 (by omega) (by omega)) (cwV 2 hts (wd_gV (C := "RunKeeper$Snapshots") wi_556 wi_553 wi_554 wi_555 wi_3) rfl rfl rfl (by decide +kernel) ⟨Nat.le_of_ble_eq_true rfl, Nat.le_of_ble_eq_true rfl⟩) (dk_preV (kn_S, kt_S, 2) hE hP hS hc_645 rfl) rfl rfl hl.1 rfl (lv_room (Nat.le_of_ble_eq_true rfl)) de_K_isSeen_26 ⟨(by first | exact Nat.le_of_ble_eq_true rfl | (simp only [Nat.zero_add]; omega) | omega), (by first | exact Nat.le_of_ble_eq_true rfl | (simp only [Nat.zero_add]; omega) | omega)⟩) hS (fun r_655 w_653 H locs hq_654 hP hS => ?_)
    obtain ⟨hr_656, he_657⟩ := hq_654
    subst hr_656
    rw [he_657] at hP
    exact dk_zret hQ hx hb hr hlocks hP hS (Nat.le_refl _) (Nat.le_refl _) (bo_nar (sn_an σ.sn x.2.1 y.2.1 6)) (⟨by rw [if_pos e9], rfl⟩) de_K_isSeen_29
  · have e9 : ¬ x.1 = y.1 := of_decide_eq_false c_652
    refine lv_iconst (v := nI 1) hx hb de_K_isSeen_12 (by decide) ?_
    exact dk_zret hQ hx hb hr hlocks hP hS (Nat.le_refl _) (Nat.le_refl _) (by decide +kernel) (⟨by rw [if_neg e9]; exact bo_of1 rfl, rfl⟩) de_K_isSeen_13
end
section
/-! PURE ROWS of merging and looking -/
theorem nI_s1 (j : Nat) : nI (j + 1) - nI 1 = nI j := by rw [← nI_add, Int32.add_sub_cancel]
theorem nI_m1 : nI 0 - nI 1 < 0 := by decide
theorem nI_p1 (j : Nat) : nI j + Int32.ofInt (-1) = nI j - nI 1 := by rw [Int32.sub_eq_add_neg]; rfl
def at_o (L : List en_T) (k : Int32) : Option en_T := if k < 0 then none else L[k.toNatClampNeg]?
theorem at_on {L : List en_T} {j : Nat} (hj : j < 2 ^ 31) : at_o L (nI j) = L[j]? := by rw [at_o, if_neg (nI_pos hj), nI_clamp hj]
def pv_o (L : List en_T) : Nat → Option en_T
  | 0 => none
  | j + 1 => L[j]?
theorem at_m {L : List en_T} {i : Nat} (hi : i < 2 ^ 31) : at_o L (nI i - nI 1) = pv_o L i := by
  cases i with
  | zero => rw [at_o, if_pos nI_m1]; rfl
  | succ j => rw [nI_s1, at_on (by omega)]; rfl
theorem at_q {w : dk_H} {r : Option Nat} {L : List en_T} {k : Int32} (h : (r = none ∧ ∀ i, k = nI i → i < 2 ^ 31 → L.length ≤ i) ∨ ∃ i y, k = nI i ∧ L[i]? = some y ∧ en_q w r (some y)) (hl : L.length < 2 ^ 31) : en_q w r (at_o L k) := by
  by_cases hk : k < 0
  · rw [at_o, if_pos hk]
    rcases h with ⟨h, -⟩ | ⟨i, y, h1, h2, -⟩
    · exact h
    · have := (List.getElem?_eq_some_iff.mp h2).1
      exact absurd (h1 ▸ hk) (nI_pos (by omega))
  · obtain ⟨j, hj, e⟩ := nI_of hk
    rw [e, at_on hj]
    rcases h with ⟨h, h9⟩ | ⟨i, y, h1, h2, h3⟩
    · rw [List.getElem?_eq_none (h9 j e hj)]
      exact h
    · have := (List.getElem?_eq_some_iff.mp h2).1
      have e2 := (nI_eq hj (by omega)).mp (e.symm.trans h1)
      rw [e2, h2]
      exact h3
theorem en_qc {w : dk_H} {r : Option Nat} {o : Option en_T} (h : en_q w r o) : (r = none ∧ o = none) ∨ ∃ a x, r = some a ∧ o = some x ∧ en_at w a x := by
  cases o with
  | none => exact Or.inl ⟨h, rfl⟩
  | some x =>
    obtain ⟨a, h1, h2⟩ := h
    exact Or.inr ⟨a, x, h1, rfl, h2⟩
def se_o (sn : Nat → Option Nat) (x : en_T) : Option en_T → Bool
  | none => true
  | some y => if x.1 = y.1 then sn_an sn x.2.1 y.2.1 6 else true
def hk_o (x : en_T) : Option en_T → Bool
  | none => false
  | some y => decide (x.1 = y.1)
def kw_1 (sn : Nat → Option Nat) (A : List en_T) (i : Nat) (x : en_T) (K : List en_T) : List en_T := if se_o sn x (pv_o A i) = true then K ++ [x] else K
def kw_2 (b : Bool) (A : List en_T) (i : Nat) (x : en_T) (K : List en_T) : List en_T := if b = true ∧ hk_o x A[i + 1]? = false then K.take (cd_L K K.length) else K
def kw_L (sn : Nat → Option Nat) (b : Bool) (A : List en_T) : Nat → List en_T
  | 0 => []
  | i + 1 => match A[i]? with
    | none => kw_L sn b A i
    | some x => kw_2 b A i x (kw_1 sn A i x (kw_L sn b A i))
theorem kw_succ {sn : Nat → Option Nat} {b : Bool} {A : List en_T} {i : Nat} {x : en_T} (h : A[i]? = some x) : kw_L sn b A (i + 1) = kw_2 b A i x (kw_1 sn A i x (kw_L sn b A i)) := by simp only [kw_L, h]
theorem kw_2_len (b : Bool) (A : List en_T) (i : Nat) (x : en_T) (K : List en_T) : (kw_2 b A i x K).length ≤ K.length := by
  unfold kw_2
  split
  · rw [List.length_take]; omega
  · exact Nat.le_refl _
theorem kw_1_len (sn : Nat → Option Nat) (A : List en_T) (i : Nat) (x : en_T) (K : List en_T) : (kw_1 sn A i x K).length ≤ K.length + 1 := by
  unfold kw_1
  split
  · simp
  · omega
theorem kw_len (sn : Nat → Option Nat) (b : Bool) (A : List en_T) (i : Nat) : (kw_L sn b A i).length ≤ i := by
  induction i with
  | zero => simp [kw_L]
  | succ i ih =>
    cases h : A[i]? with
    | none => simp only [kw_L, h]; omega
    | some x =>
      rw [kw_succ h]
      have h1 := kw_2_len b A i x (kw_1 sn A i x (kw_L sn b A i))
      have h2 := kw_1_len sn A i x (kw_L sn b A i)
      omega
theorem kw_mem {sn : Nat → Option Nat} {b : Bool} {A : List en_T} {y : en_T} : ∀ (i : Nat), y ∈ kw_L sn b A i → y ∈ A := by
  intro i
  induction i with
  | zero => intro h; simp [kw_L] at h
  | succ i ih =>
    cases h : A[i]? with
    | none => intro hy; simp only [kw_L, h] at hy; exact ih hy
    | some x =>
      intro hy
      rw [kw_succ h] at hy
      have h1 : y ∈ kw_1 sn A i x (kw_L sn b A i) := by
        unfold kw_2 at hy
        split at hy
        · exact List.mem_of_mem_take hy
        · exact hy
      unfold kw_1 at h1
      split at h1
      · rcases List.mem_append.mp h1 with h2 | h2
        · exact ih h2
        · rw [List.mem_singleton.mp h2]; exact List.mem_of_getElem? h
      · exact ih h1
/-- the least level with runs to merge; are the levels from k on empty -/
def mg_j (lv : Nat → List (List en_T)) : Option Nat := [0, 1, 2, 3, 4].find? (fun j => decide (4 ≤ (lv j).length))
def mg_e (lv : Nat → List (List en_T)) (k : Nat) : Bool := [0, 1, 2, 3, 4, 5].all (fun i => decide (i < k) || (lv i).isEmpty)
theorem mg_js {lv : Nat → List (List en_T)} {j : Nat} (h1 : j < 5) (h2 : 4 ≤ (lv j).length) (h3 : ∀ i, i < j → (lv i).length < 4) : mg_j lv = some j := by
  have g : ∀ i, i < j → ¬ 4 ≤ (lv i).length := fun i hi => by have := h3 i hi; omega
  rcases (show j = 0 ∨ j = 1 ∨ j = 2 ∨ j = 3 ∨ j = 4 by omega) with rfl | rfl | rfl | rfl | rfl
  · simp [mg_j, List.find?, h2]
  · simp [mg_j, List.find?, h2, g 0 (by omega)]
  · simp [mg_j, List.find?, h2, g 0 (by omega), g 1 (by omega)]
  · simp [mg_j, List.find?, h2, g 0 (by omega), g 1 (by omega), g 2 (by omega)]
  · simp [mg_j, List.find?, h2, g 0 (by omega), g 1 (by omega), g 2 (by omega), g 3 (by omega)]
theorem mg_jn {lv : Nat → List (List en_T)} (h3 : ∀ i, i < 5 → (lv i).length < 4) : mg_j lv = none := by
  have g : ∀ i, i < 5 → ¬ 4 ≤ (lv i).length := fun i hi => by have := h3 i hi; omega
  simp [mg_j, List.find?, g 0 (by omega), g 1 (by omega), g 2 (by omega), g 3 (by omega), g 4 (by omega)]
theorem mg_ei {lv : Nat → List (List en_T)} {k : Nat} : mg_e lv k = true ↔ ∀ i, k ≤ i → i < 6 → lv i = [] := by
  constructor
  · intro h i h1 h2
    have h3 := List.all_eq_true.mp h i (by
      rcases (show i = 0 ∨ i = 1 ∨ i = 2 ∨ i = 3 ∨ i = 4 ∨ i = 5 by omega) with rfl | rfl | rfl | rfl | rfl | rfl <;> simp)
    rw [Bool.or_eq_true] at h3
    rcases h3 with h3 | h3
    · exact absurd (of_decide_eq_true h3) (by omega)
    · exact List.isEmpty_iff.mp h3
  · intro h
    refine List.all_eq_true.mpr (fun i hi => ?_)
    rw [Bool.or_eq_true]
    by_cases h1 : i < k
    · exact Or.inl (decide_eq_true h1)
    · have h2 : i < 6 := by simp at hi; omega
      exact Or.inr (List.isEmpty_iff.mpr (h i (by omega) h2))
theorem mg_eb {lv : Nat → List (List en_T)} {k : Nat} {b : Bool} (h : b = true ↔ ∀ i, k ≤ i → i < 6 → lv i = []) : b = mg_e lv k := by
  cases b with
  | true => exact (mg_ei.mpr (h.mp rfl)).symm
  | false =>
    cases he : mg_e lv k with
    | false => rfl
    | true => exact absurd (h.mpr (mg_ei.mp he)) (by decide)
def mg_A (σ : kp_S) (j : Nat) : List en_T := so_st (σ.lv j).flatten
def mg_K (σ : kp_S) (j : Nat) : List en_T := kw_L σ.sn (mg_e σ.lv (j + 1)) (mg_A σ j) (mg_A σ j).length
def mg_S (σ : kp_S) (j : Nat) : kp_S := lv_add (((σ.ga' (mg_A σ j)).ke' (mg_K σ j)).lv' (va_up σ.lv j [])) (j + 1) (mg_K σ j)
def mg_1 (σ : kp_S) : Option kp_S := (mg_j σ.lv).map (mg_S σ)
theorem lv_fl_ok {G : dk_G} {w : dk_H} {h : Nat} {D : kp_D} {σ : kp_S} (H : kp_at G w h D σ) {i : Nat} (hi : i < 6) : ∀ R ∈ σ.lv i, ∀ x ∈ R, en_ok x := by
  intro R hR
  obtain ⟨al, xs, -, -, h3, -⟩ := (H.v i hi).2
  obtain ⟨j, hj⟩ := List.getElem?_of_mem hR
  have hl := (List.getElem?_eq_some_iff.mp hj).1
  obtain ⟨y, hy⟩ := ge_at (L := xs) (i := j) (by rw [h3.1]; exact hl)
  obtain ⟨r, fl, f, -, -, -, -, -, -, hk⟩ := h3.2 j y R hy hj
  exact hk
theorem lv_flk {G : dk_G} {w : dk_H} {h : Nat} {D : kp_D} {σ : kp_S} (H : kp_at G w h D σ) : ∀ n, n ≤ 6 → ∀ x ∈ lv_fl σ.lv n, en_ok x := by
  intro n
  induction n with
  | zero => intro _ x hx; simp [lv_fl] at hx
  | succ n ih =>
    intro hn x hx
    simp only [lv_fl, List.mem_append, List.mem_flatten] at hx
    rcases hx with hx | ⟨R, hR, hx⟩
    · exact ih (by omega) x hx
    · exact lv_fl_ok H (by omega) R hR x hx
theorem ga_ok {G : dk_G} {w : dk_H} {h : Nat} {D : kp_D} {σ : kp_S} (H : kp_at G w h D σ) : ∀ x ∈ σ.tb ++ lv_fl σ.lv 6, en_ok x := by
  intro x hx
  rcases List.mem_append.mp hx with h1 | h1
  · exact H.tk x h1
  · exact lv_flk H 6 (by omega) x h1
/-- looking in a level: the runs below r, the latest first; (how many were probed, how many in vain) -/
def pb_q (k : Nat) (R : List en_T) (q : Nat × Nat) : Nat × Nat := (q.1 + 1, if R.any (fun x => decide (x.1 = k)) = true then q.2 else q.2 + 1)
def lk_l (k u : Nat) (Rs : List (List en_T)) : Nat → Nat × Nat → Option en_T × (Nat × Nat)
  | 0, q => (none, q)
  | r + 1, q => match Rs[r]? with
    | none => lk_l k u Rs r q
    | some R => if rn_m R k = true then (match la_L k u R with
      | none => lk_l k u Rs r (pb_q k R q)
      | some x => (some x, pb_q k R q)) else lk_l k u Rs r q
theorem lk_no {k u : Nat} {Rs : List (List en_T)} {r : Nat} {q : Nat × Nat} {R : List en_T} (h : Rs[r]? = some R) (h1 : rn_m R k = false) : lk_l k u Rs (r + 1) q = lk_l k u Rs r q := by simp [lk_l, h, h1]
theorem lk_0 {k u : Nat} {Rs : List (List en_T)} {r : Nat} {q : Nat × Nat} {R : List en_T} (h : Rs[r]? = some R) (h1 : rn_m R k = true) (h2 : la_L k u R = none) : lk_l k u Rs (r + 1) q = lk_l k u Rs r (pb_q k R q) := by simp [lk_l, h, h1, h2]
theorem lk_1 {k u : Nat} {Rs : List (List en_T)} {r : Nat} {q : Nat × Nat} {R : List en_T} {x : en_T} (h : Rs[r]? = some R) (h1 : rn_m R k = true) (h2 : la_L k u R = some x) : lk_l k u Rs (r + 1) q = (some x, pb_q k R q) := by simp [lk_l, h, h1, h2]
/-- looking in the last n of the six levels -/
def lk_v (k u : Nat) (lv : Nat → List (List en_T)) : Nat → Nat × Nat → Option en_T × (Nat × Nat)
  | 0, q => (none, q)
  | n + 1, q => match (lk_l k u (lv (5 - n)) (lv (5 - n)).length q).1 with
    | none => lk_v k u lv n (lk_l k u (lv (5 - n)) (lv (5 - n)).length q).2
    | some x => (some x, (lk_l k u (lv (5 - n)) (lv (5 - n)).length q).2)
def lk_K (σ : kp_S) (k u : Nat) : Option en_T × (Nat × Nat) := match la_L k u σ.tb with
  | some x => (some x, (0, 0))
  | none => lk_v k u σ.lv 6 (0, 0)
/-- the newest of each key as of u -/
def nn_f (u : Nat) (nw : Nat → Option en_T) (x : en_T) : Nat → Option en_T := if x.2.1 ≤ u ∧ (nw x.1).all (fun y => decide (y.2.1 < x.2.1)) = true then va_up nw x.1 (some x) else nw
def nn_L (u : Nat) (L : List en_T) : Nat → Option en_T := L.foldl (nn_f u) (fun _ => none)
theorem nn_snoc (u : Nat) (L : List en_T) (x : en_T) : nn_L u (L ++ [x]) = nn_f u (nn_L u L) x := by simp [nn_L, List.foldl_append]
theorem nw_at.ext {G : dk_G} {w : dk_H} {a : Nat} {f g : Nat → Option en_T} (H : nw_at G w a f) (h : ∀ i, i < 1024 → g i = f i) : nw_at G w a g := by
  obtain ⟨nf, g1, g2⟩ := H
  exact ⟨nf, g1, fun i hi => by rw [h i hi]; exact g2 i hi⟩
theorem nw_at.put {G : dk_G} {w w1 : dk_H} {a b : Nat} {f : Nat → Option en_T} {nf : Nat → Option Nat} {x : en_T} {j : Nat} (h2 : ∀ i, i < 1024 → en_q w (nf i) (f i)) (hf : dk_fr (fun t => t = 10) w w1) (h1 : w1 a = some (10, dk_ca G 3 1024 (va_up nf j (some b)))) (hb : en_at w b x) : nw_at G w1 a (va_up f j (some x)) := by
  refine ⟨_, h1, fun i hi => ?_⟩
  by_cases e : i = j
  · subst e
    rw [dk_us, dk_us]
    exact ⟨b, rfl, hb.fr hf (by decide)⟩
  · rw [dk_un e, dk_un e]
    exact (h2 i hi).fr hf (by decide)
theorem nw_at.cut {G : dk_G} {w w1 : dk_H} {a : Nat} {f : Nat → Option en_T} {nf : Nat → Option Nat} {j : Nat} (h2 : ∀ i, i < 1024 → en_q w (nf i) (f i)) (hf : dk_fr (fun t => t = 10) w w1) (h1 : w1 a = some (10, dk_ca G 3 1024 (va_up nf j none))) : nw_at G w1 a (va_up f j none) := by
  refine ⟨_, h1, fun i hi => ?_⟩
  by_cases e : i = j
  · subst e
    rw [dk_us, dk_us]
    exact rfl
  · rw [dk_un e, dk_un e]
    exact (h2 i hi).fr hf (by decide)
end
section
/-! RunKeeper: merging (printed by gen/c_keep2.py) -/
theorem lv_two (lv : Nat → List (List en_T)) {j : Nat} (hj : j + 1 < 6) : le_ct (lv j) + le_ct (lv (j + 1)) ≤ lv_ct lv 6 := by
  have h1 : lv_ct lv (j + 1) + le_ct (lv (j + 1)) ≤ lv_ct lv 6 := lv_ct_mono lv (m := j + 1 + 1) (n := 6) (by omega)
  have h2 : lv_ct lv (j + 1) = lv_ct lv j + le_ct (lv j) := rfl
  omega
theorem mg_ok {G : dk_G} {w : dk_H} {h : Nat} {D : kp_D} {σ : kp_S} (H : kp_at G w h D σ) {j : Nat} (hj : j < 6) : ∀ y ∈ mg_A σ j, en_ok y := by
  intro y hy
  obtain ⟨R, hR, hy2⟩ := List.mem_flatten.mp (so_st_mem.mp hy)
  exact lv_fl_ok H hj R hR y hy2
theorem c_K_isSeenO (l : Launch) (G : dk_G) (w : dk_H) (h : Nat) (D : kp_D) (σ : kp_S) (hkp : kp_at G w h D σ) (a : Nat) (x : en_T) (ha : en_at w a x) (hx0 : en_ok x) (r : Option Nat) (o : Option en_T) (hq : en_q w r o) (ho : ∀ y, o = some y → en_ok y) : dk_Mi l my_K_isSeen (wd_c my_K_isSeen mb_K_isSeen 3 (some .boolean)) rm_K_isSeen G w [.ref h, .ref a, va_rf r] (fun r w1 => r = bo_i (se_o σ.sn x o) ∧ w1 = w) 0 0 := by
  cases o with
  | none =>
    have e : r = none := hq
    subst e
    exact c_K_isSeenN l G w h D σ hkp a
  | some y =>
    obtain ⟨b, rfl, hb⟩ := hq
    exact c_K_isSeen l G w h D σ hkp a b x y ha hb hx0 (ho y rfl)
theorem c_E_hasKeyOfO (l : Launch) (G : dk_G) (w : dk_H) (a : Nat) (x : en_T) (ha : en_at w a x) (hx0 : en_ok x) (r : Option Nat) (o : Option en_T) (hq : en_q w r o) (ho : ∀ y, o = some y → en_ok y) : dk_Mi l my_E_hasKeyOf (wd_c my_E_hasKeyOf mb_E_hasKeyOf 2 (some .boolean)) rm_E_hasKeyOf G w [.ref a, va_rf r] (fun r w1 => r = bo_i (hk_o x o) ∧ w1 = w) 0 0 := by
  cases o with
  | none =>
    have e : r = none := hq
    subst e
    exact c_E_hasKeyOfN l G w a x ha
  | some y =>
    obtain ⟨b, rfl, hb⟩ := hq
    exact c_E_hasKeyOf l G w a b x y ha hb hx0 (ho y rfl)
theorem pv_mem {L : List en_T} {i : Nat} {y : en_T} (h : pv_o L i = some y) : y ∈ L := by
  cases i with
  | zero => cases h
  | succ j => exact List.mem_of_getElem? h
abbrev rm_K_keepWhatIsSeen : Room := { frames := 2, cells := 0, slots := 0, locals := 45 }
set_option maxHeartbeats 4000000 in
set_option maxRecDepth 100000 in
theorem c_K_keepWhatIsSeen (l : Launch) (G : dk_G) (w : dk_H) (h : Nat) (D : kp_D) (σ : kp_S) (hkp : kp_at G w h D σ) (b : Bool) (hok : ∀ x ∈ σ.ga, en_ok x) : dk_Mv l my_K_keepWhatIsSeen (wd_c my_K_keepWhatIsSeen mb_K_keepWhatIsSeen 4 none) rm_K_keepWhatIsSeen G w [.ref h, .int (bo_i b)] (fun w1 => kp_at G w1 h D (σ.ke' (kw_L σ.sn b σ.ga σ.ga.length)) ∧ dk_fr kp_T w w1) 0 0 := by
  have hg6 : σ.ga.length ≤ 600 := hkp.g.choose_spec.choose_spec.2.2.1
  refine dk_enter (lv := [(0, .ref h), (1, .int (bo_i b))]) (by decide) (Nat.le_of_ble_eq_true rfl) rfl (fun p e s m args below meth c ls Q hQ C hP hS hl => ?_)
  obtain ⟨hx, hb, hr, hml, hlocks, hown, hnm, hts, hE⟩ := C
  have hK := hE.1
  have hN := hE.2.1
  have hh_658 : w h = some (1, .inr (cx_K, [.ref D.t, .ref D.a, .ref D.lv, .ref D.sn, .ref D.g, .ref D.k, .ref D.ne, .int (nI σ.sf), .int (bo_i σ.ib), .int (nI σ.sq), .int (nI σ.pr), .int (nI σ.mi)])) := hkp.o
  obtain ⟨sl_659, _, hc_660, -⟩ := id hkp.k
  refine lv_aload_n hx hb de_K_keepWhatIsSeen_0 rfl (lv_at hl 0 rfl) ?_
  refine dk_get (a := h) (v := .ref D.k) (C := kn_K) (T := kt_K) (N := 12) hx hb hts ki_K hown hK hP hh_658 rfl 5 (by decide) (hts _ wi_108) (fun _ h9 => h9) rfl de_K_keepWhatIsSeen_1 ?_
  refine lv_iconst (v := nI 0) hx hb de_K_keepWhatIsSeen_4 (by decide) ?_
  refine dk_callv (va_runV (As := [.int (nI 0)]) (rest := []) ⟨hx, hb, hml, hown, hts⟩ (c_R_cutTo l G w D.k 8 9 600 σ.ke hkp.k (by omega) 0 (by decide)) (cwV 1 hts (wd_gV (C := "RunKeeper$Row") wi_279 wi_276 wi_277 wi_278 wi_2) rfl rfl rfl (by decide +kernel) ⟨Nat.le_of_ble_eq_true rfl, Nat.le_of_ble_eq_true rfl⟩) (dk_preV (kn_R, kt_R, 2) hE hP hS hc_660 rfl) rfl rfl hl.1 rfl (lv_room (Nat.le_of_ble_eq_true rfl)) de_K_keepWhatIsSeen_5 ⟨(by first | exact Nat.le_of_ble_eq_true rfl | (simp only [Nat.zero_add]; omega) | omega), (by first | exact Nat.le_of_ble_eq_true rfl | (simp only [Nat.zero_add]; omega) | omega)⟩) hS (fun w_661 H locs hq_662 hP hS => ?_)
  have hk_664 : kp_at G w_661 h D (σ.ke' (σ.ke.take 0)) := hkp.ofk hq_662.2 hq_662.1
  have hh_665 : w_661 h = some (1, .inr (cx_K, [.ref D.t, .ref D.a, .ref D.lv, .ref D.sn, .ref D.g, .ref D.k, .ref D.ne, .int (nI σ.sf), .int (bo_i σ.ib), .int (nI σ.sq), .int (nI σ.pr), .int (nI σ.mi)])) := hk_664.o
  refine lv_iconst (v := nI 0) hx hb de_K_keepWhatIsSeen_8 (by decide) ?_
  refine lv_istore_n (lv' := [(2, .int (nI 0)), (0, .ref h), (1, .int (bo_i b))]) hx hb de_K_keepWhatIsSeen_9 rfl hl (by decide) rfl (fun ls hl => ?_)
  have lp : ∀ (zk : Nat) (i : Nat), σ.ga.length - i < zk → (i ≤ σ.ga.length) → ∀ (H : Heap) (locs : List Loc) (v : dk_H), (kp_at G v h D (σ.ke' (kw_L σ.sn b σ.ga i))) → (dk_fr kp_T w v) → dk_P G v H → dk_S G s.heap H locs → ∀ (ls : Array Slot), lv_has ls 4 [(0, .ref h), (1, .int (bo_i b)), (2, .int (nI i))] → W p l e rm_K_keepWhatIsSeen s m args below meth c H locs (0 + 0) (0 + 0) Q (F0 m 10 ls []) := by
    intro zk
    induction zk with
    | zero =>
      intro i hk
      exact absurd hk (by omega)
    | succ zk ih =>
      intro i hk hi
      intro H locs v hkv hg hP hS
      intro ls hl
      have hh_666 : v h = some (1, .inr (cx_K, [.ref D.t, .ref D.a, .ref D.lv, .ref D.sn, .ref D.g, .ref D.k, .ref D.ne, .int (nI σ.sf), .int (bo_i σ.ib), .int (nI σ.sq), .int (nI σ.pr), .int (nI σ.mi)])) := hkv.o
      obtain ⟨sl_667, _, hc_668, -⟩ := id hkv.g
      refine lv_iload_n hx hb de_K_keepWhatIsSeen_10 rfl (lv_at hl 2 rfl) ?_
      refine lv_aload_n hx hb de_K_keepWhatIsSeen_11 rfl (lv_at hl 0 rfl) ?_
      refine dk_get (a := h) (v := .ref D.g) (C := kn_K) (T := kt_K) (N := 12) hx hb hts ki_K hown hK hP hh_666 rfl 4 (by decide) (hts _ wi_107) (fun _ h9 => h9) rfl de_K_keepWhatIsSeen_12 ?_
      refine dk_calli (va_runV (As := []) (rest := [.int (nI i)]) ⟨hx, hb, hml, hown, hts⟩ (c_R_size l G v D.g 6 7 600 σ.ga hkv.g) (cwV 0 hts (wd_gV (C := "RunKeeper$Row") wi_147 wi_144 wi_145 wi_146 wi_2) rfl rfl rfl (by decide +kernel) ⟨Nat.le_of_ble_eq_true rfl, Nat.le_of_ble_eq_true rfl⟩) (dk_preV (kn_R, kt_R, 2) hE hP hS hc_668 rfl) rfl rfl hl.1 rfl (lv_room (Nat.le_of_ble_eq_true rfl)) de_K_keepWhatIsSeen_15 ⟨(by first | exact Nat.le_of_ble_eq_true rfl | (simp only [Nat.zero_add]; omega) | omega), (by first | exact Nat.le_of_ble_eq_true rfl | (simp only [Nat.zero_add]; omega) | omega)⟩) hS (fun r_671 w_669 H locs hq_670 hP hS => ?_)
      obtain ⟨hr_672, he_673⟩ := hq_670
      subst hr_672
      rw [he_673] at hP
      refine nx_icmp_ge (a := i) (b := σ.ga.length) (tgt := 98) hx hb (by omega) (by omega) de_K_keepWhatIsSeen_18 (by decide) (fun c_674 => ?_) (fun c_674 => ?_)
      · have e9 : i = σ.ga.length := by omega
        subst e9
        exact dk_vret hQ hx hb hr hlocks hP hS (Nat.le_refl _) (Nat.le_refl _) (⟨hkv, hg⟩) de_K_keepWhatIsSeen_98
      · obtain ⟨x, hx9⟩ := ge_at c_674
        have hxo := hok x (List.mem_of_getElem? hx9)
        have hkl := kw_len σ.sn b σ.ga i
        refine lv_aload_n hx hb de_K_keepWhatIsSeen_21 rfl (lv_at hl 0 rfl) ?_
        refine dk_get (a := h) (v := .ref D.g) (C := kn_K) (T := kt_K) (N := 12) hx hb hts ki_K hown hK hP hh_666 rfl 4 (by decide) (hts _ wi_107) (fun _ h9 => h9) rfl de_K_keepWhatIsSeen_22 ?_
        refine lv_iload_n hx hb de_K_keepWhatIsSeen_25 rfl (lv_at hl 2 rfl) ?_
        refine dk_callq (va_runV (As := [.int (nI i)]) (rest := []) ⟨hx, hb, hml, hown, hts⟩ (c_R_at l G v D.g 6 7 600 σ.ga hkv.g (nI i)) (cwV 1 hts (wd_gV (C := "RunKeeper$Row") wi_191 wi_516 wi_189 wi_190 wi_2) rfl rfl rfl (by decide +kernel) ⟨Nat.le_of_ble_eq_true rfl, Nat.le_of_ble_eq_true rfl⟩) (dk_preV (kn_R, kt_R, 2) hE hP hS hc_668 rfl) rfl rfl hl.1 rfl (lv_room (Nat.le_of_ble_eq_true rfl)) de_K_keepWhatIsSeen_26 ⟨(by first | exact Nat.le_of_ble_eq_true rfl | (simp only [Nat.zero_add]; omega) | omega), (by first | exact Nat.le_of_ble_eq_true rfl | (simp only [Nat.zero_add]; omega) | omega)⟩) hS (fun r_677 w_675 H locs hq_676 hP hS => ?_)
        obtain ⟨a1, ha1, ha2⟩ := at_in hq_676.2 (by omega) (by omega) hx9
        rw [hq_676.1] at hP
        subst ha1
        refine lv_astore_n (lv' := [(3, .ref a1), (0, .ref h), (1, .int (bo_i b)), (2, .int (nI i))]) hx hb de_K_keepWhatIsSeen_29 rfl hl (by decide) rfl (fun ls hl => ?_)
        refine lv_aload_n hx hb de_K_keepWhatIsSeen_30 rfl (lv_at hl 0 rfl) ?_
        refine lv_ifnull hx hb de_K_keepWhatIsSeen_31 ?_
        refine lv_aload_n hx hb de_K_keepWhatIsSeen_34 rfl (lv_at hl 1 rfl) ?_
        refine lv_aload_n hx hb de_K_keepWhatIsSeen_35 rfl (lv_at hl 0 rfl) ?_
        refine lv_aload_n hx hb de_K_keepWhatIsSeen_36 rfl (lv_at hl 1 rfl) ?_
        refine dk_get (a := h) (v := .ref D.g) (C := kn_K) (T := kt_K) (N := 12) hx hb hts ki_K hown hK hP hh_666 rfl 4 (by decide) (hts _ wi_107) (fun _ h9 => h9) rfl de_K_keepWhatIsSeen_37 ?_
        refine lv_iload_n hx hb de_K_keepWhatIsSeen_40 rfl (lv_at hl 3 rfl) ?_
        refine lv_iconst (v := nI 1) hx hb de_K_keepWhatIsSeen_41 (by decide) ?_
        refine lv_isub hx hb de_K_keepWhatIsSeen_42 ?_
        refine dk_callq (va_runV (As := [.int (nI i - nI 1)]) (rest := [.ref a1, .ref h]) ⟨hx, hb, hml, hown, hts⟩ (c_R_at l G v D.g 6 7 600 σ.ga hkv.g (nI i - nI 1)) (cwV 1 hts (wd_gV (C := "RunKeeper$Row") wi_191 wi_516 wi_189 wi_190 wi_2) rfl rfl rfl (by decide +kernel) ⟨Nat.le_of_ble_eq_true rfl, Nat.le_of_ble_eq_true rfl⟩) (dk_preV (kn_R, kt_R, 2) hE hP hS hc_668 rfl) rfl rfl hl.1 rfl (lv_room (Nat.le_of_ble_eq_true rfl)) de_K_keepWhatIsSeen_43 ⟨(by first | exact Nat.le_of_ble_eq_true rfl | (simp only [Nat.zero_add]; omega) | omega), (by first | exact Nat.le_of_ble_eq_true rfl | (simp only [Nat.zero_add]; omega) | omega)⟩) hS (fun r_681 w_679 H locs hq_680 hP hS => ?_)
        have hq0 := at_q hq_680.2 (by omega)
        rw [at_m (by omega)] at hq0
        rw [hq_680.1] at hP
        refine dk_calli (va_runV (As := [.ref a1, va_rf r_681]) (rest := []) ⟨hx, hb, hml, hown, hts⟩ (c_K_isSeenO l G v h D _ hkv a1 x ha2 hxo r_681 _ hq0 (fun y hy => hok y (pv_mem hy))) (cwV 2 hts (wd_gV (C := "RunKeeper") wi_548 wi_545 wi_547 (wd_p (q := (⟨"RunKeeper", "isSeen", "(LRunKeeper$Entry;LRunKeeper$Entry;)Z"⟩, 12)) (by decide +kernel) (by decide +kernel)) wi_1) rfl rfl rfl (by decide +kernel) ⟨Nat.le_of_ble_eq_true rfl, Nat.le_of_ble_eq_true rfl⟩) (dk_preV (kn_K, kt_K, 12) hE hP hS hh_666 rfl) rfl rfl hl.1 rfl (lv_room (Nat.le_of_ble_eq_true rfl)) de_K_keepWhatIsSeen_46 ⟨(by first | exact Nat.le_of_ble_eq_true rfl | (simp only [Nat.zero_add]; omega) | omega), (by first | exact Nat.le_of_ble_eq_true rfl | (simp only [Nat.zero_add]; omega) | omega)⟩) hS (fun r_684 w_682 H locs hq_683 hP hS => ?_)
        obtain ⟨hr_685, he_686⟩ := hq_683
        subst hr_685
        rw [he_686] at hP
        refine bo_if_eq (b := (se_o σ.sn x (pv_o σ.ga i))) (tgt := 60) hx hb de_K_keepWhatIsSeen_49 (by decide) (fun c_687 => ?_) (fun c_687 => ?_)
        · have e1 : kw_1 σ.sn σ.ga i x (kw_L σ.sn b σ.ga i) = kw_L σ.sn b σ.ga i := if_neg (fun z => by rw [c_687] at z; exact absurd z (by decide))
          refine lv_iload_n hx hb de_K_keepWhatIsSeen_60 rfl (lv_at hl 2 rfl) ?_
          refine bo_if_eq (b := b) (tgt := 92) hx hb de_K_keepWhatIsSeen_61 (by decide) (fun c_688 => ?_) (fun c_688 => ?_)
          · refine lv_iinc (v := nI (i + 1)) (lv' := [(2, .int (nI (i + 1))), (3, .ref a1), (0, .ref h), (1, .int (bo_i b))]) hx hb de_K_keepWhatIsSeen_92 hl (k := 3) rfl (nx_inc i) (by decide) rfl (fun ls hl => ?_)
            refine lv_goto (tgt := 10) hx hb de_K_keepWhatIsSeen_95 (by decide) ?_
            have hk7 : kp_at G v h D (σ.ke' (kw_L σ.sn b σ.ga (i + 1))) := by rw [kw_succ hx9, e1, kw_2, if_neg (fun z => by rw [c_688] at z; exact absurd z.1 (by decide))]; exact hkv
            exact ih (i + 1) (by omega) (by omega) _ _ _ hk7 (hg.tr dk_fr.rf) hP hS _ (lv_sub hl [2, 3, 0] rfl)
          · refine lv_aload_n hx hb de_K_keepWhatIsSeen_64 rfl (lv_at hl 0 rfl) ?_
            refine lv_ifnull hx hb de_K_keepWhatIsSeen_65 ?_
            refine lv_aload_n hx hb de_K_keepWhatIsSeen_68 rfl (lv_at hl 0 rfl) ?_
            refine lv_aload_n hx hb de_K_keepWhatIsSeen_69 rfl (lv_at hl 1 rfl) ?_
            refine dk_get (a := h) (v := .ref D.g) (C := kn_K) (T := kt_K) (N := 12) hx hb hts ki_K hown hK hP hh_666 rfl 4 (by decide) (hts _ wi_107) (fun _ h9 => h9) rfl de_K_keepWhatIsSeen_70 ?_
            refine lv_iload_n hx hb de_K_keepWhatIsSeen_73 rfl (lv_at hl 3 rfl) ?_
            refine lv_iconst (v := nI 1) hx hb de_K_keepWhatIsSeen_74 (by decide) ?_
            refine nx_iadd (a := i) (b := 1) hx hb de_K_keepWhatIsSeen_75 ?_
            refine dk_callq (va_runV (As := [.int (nI (i + 1))]) (rest := [.ref a1]) ⟨hx, hb, hml, hown, hts⟩ (c_R_at l G v D.g 6 7 600 σ.ga hkv.g (nI (i + 1))) (cwV 1 hts (wd_gV (C := "RunKeeper$Row") wi_191 wi_516 wi_189 wi_190 wi_2) rfl rfl rfl (by decide +kernel) ⟨Nat.le_of_ble_eq_true rfl, Nat.le_of_ble_eq_true rfl⟩) (dk_preV (kn_R, kt_R, 2) hE hP hS hc_668 rfl) rfl rfl hl.1 rfl (lv_room (Nat.le_of_ble_eq_true rfl)) de_K_keepWhatIsSeen_76 ⟨(by first | exact Nat.le_of_ble_eq_true rfl | (simp only [Nat.zero_add]; omega) | omega), (by first | exact Nat.le_of_ble_eq_true rfl | (simp only [Nat.zero_add]; omega) | omega)⟩) hS (fun r_692 w_690 H locs hq_691 hP hS => ?_)
            have hq8 := at_q hq_691.2 (by omega)
            rw [at_on (by omega)] at hq8
            rw [hq_691.1] at hP
            refine dk_calli (va_runV (As := [va_rf r_692]) (rest := []) ⟨hx, hb, hml, hown, hts⟩ (c_E_hasKeyOfO l G v a1 x ha2 hxo r_692 _ hq8 (fun y hy => hok y (List.mem_of_getElem? hy))) (cwV 1 hts (wd_gV (C := "RunKeeper$Entry") wi_552 wi_549 wi_550 wi_551 wi_14) rfl rfl rfl (by decide +kernel) ⟨Nat.le_of_ble_eq_true rfl, Nat.le_of_ble_eq_true rfl⟩) (dk_preV (kn_E, kt_E, 4) hE hP hS ha2 rfl) rfl rfl hl.1 rfl (lv_room (Nat.le_of_ble_eq_true rfl)) de_K_keepWhatIsSeen_79 ⟨(by first | exact Nat.le_of_ble_eq_true rfl | (simp only [Nat.zero_add]; omega) | omega), (by first | exact Nat.le_of_ble_eq_true rfl | (simp only [Nat.zero_add]; omega) | omega)⟩) hS (fun r_695 w_693 H locs hq_694 hP hS => ?_)
            obtain ⟨hr_696, he_697⟩ := hq_694
            subst hr_696
            rw [he_697] at hP
            refine bo_if_ne (b := (hk_o x σ.ga[i + 1]?)) (tgt := 92) hx hb de_K_keepWhatIsSeen_82 (by decide) (fun c_698 => ?_) (fun c_698 => ?_)
            · refine lv_iinc (v := nI (i + 1)) (lv' := [(2, .int (nI (i + 1))), (3, .ref a1), (0, .ref h), (1, .int (bo_i b))]) hx hb de_K_keepWhatIsSeen_92 hl (k := 3) rfl (nx_inc i) (by decide) rfl (fun ls hl => ?_)
              refine lv_goto (tgt := 10) hx hb de_K_keepWhatIsSeen_95 (by decide) ?_
              have hk7 : kp_at G v h D (σ.ke' (kw_L σ.sn b σ.ga (i + 1))) := by rw [kw_succ hx9, e1, kw_2, if_neg (fun z => by rw [c_698] at z; exact absurd z.2 (by decide))]; exact hkv
              exact ih (i + 1) (by omega) (by omega) _ _ _ hk7 (hg.tr dk_fr.rf) hP hS _ (lv_sub hl [2, 3, 0] rfl)
            · refine lv_aload_n hx hb de_K_keepWhatIsSeen_85 rfl (lv_at hl 1 rfl) ?_
              refine dk_get (a := h) (v := .ref D.k) (C := kn_K) (T := kt_K) (N := 12) hx hb hts ki_K hown hK hP hh_666 rfl 5 (by decide) (hts _ wi_108) (fun _ h9 => h9) rfl de_K_keepWhatIsSeen_86 ?_
              obtain ⟨sl_699, _, hc_700, -⟩ := id hkv.k
              refine dk_callv (va_runV (As := []) (rest := []) ⟨hx, hb, hml, hown, hts⟩ (c_R_cutDeletedTail l G v D.k 8 9 600 _ hkv.k (by omega)) (cwV 0 hts (wd_gV (C := "RunKeeper$Row") wi_560 wi_557 wi_558 wi_559 wi_2) rfl rfl rfl (by decide +kernel) ⟨Nat.le_of_ble_eq_true rfl, Nat.le_of_ble_eq_true rfl⟩) (dk_preV (kn_R, kt_R, 2) hE hP hS hc_700 rfl) rfl rfl hl.1 rfl (lv_room (Nat.le_of_ble_eq_true rfl)) de_K_keepWhatIsSeen_89 ⟨(by first | exact Nat.le_of_ble_eq_true rfl | (simp only [Nat.zero_add]; omega) | omega), (by first | exact Nat.le_of_ble_eq_true rfl | (simp only [Nat.zero_add]; omega) | omega)⟩) hS (fun w_701 H locs hq_702 hP hS => ?_)
              have hk_704 : kp_at G w_701 h D ((σ.ke' (kw_L σ.sn b σ.ga i)).ke' ((kw_L σ.sn b σ.ga i).take (cd_L (kw_L σ.sn b σ.ga i) (kw_L σ.sn b σ.ga i).length))) := hkv.ofk hq_702.2 hq_702.1
              have hh_705 : w_701 h = some (1, .inr (cx_K, [.ref D.t, .ref D.a, .ref D.lv, .ref D.sn, .ref D.g, .ref D.k, .ref D.ne, .int (nI σ.sf), .int (bo_i σ.ib), .int (nI σ.sq), .int (nI σ.pr), .int (nI σ.mi)])) := hk_704.o
              refine lv_iinc (v := nI (i + 1)) (lv' := [(2, .int (nI (i + 1))), (3, .ref a1), (0, .ref h), (1, .int (bo_i b))]) hx hb de_K_keepWhatIsSeen_92 hl (k := 3) rfl (nx_inc i) (by decide) rfl (fun ls hl => ?_)
              refine lv_goto (tgt := 10) hx hb de_K_keepWhatIsSeen_95 (by decide) ?_
              have hk7 : kp_at G w_701 h D (σ.ke' (kw_L σ.sn b σ.ga (i + 1))) := by rw [kw_succ hx9, e1, kw_2, if_pos ⟨c_688, c_698⟩]; exact hk_704
              exact ih (i + 1) (by omega) (by omega) _ _ _ hk7 (hg.tr (kp_r hq_702.2 (by omega))) hP hS _ (lv_sub hl [2, 3, 0] rfl)
        · have e1 : kw_1 σ.sn σ.ga i x (kw_L σ.sn b σ.ga i) = kw_L σ.sn b σ.ga i ++ [x] := if_pos c_687
          refine lv_aload_n hx hb de_K_keepWhatIsSeen_52 rfl (lv_at hl 1 rfl) ?_
          refine dk_get (a := h) (v := .ref D.k) (C := kn_K) (T := kt_K) (N := 12) hx hb hts ki_K hown hK hP hh_666 rfl 5 (by decide) (hts _ wi_108) (fun _ h9 => h9) rfl de_K_keepWhatIsSeen_53 ?_
          refine lv_aload_n hx hb de_K_keepWhatIsSeen_56 rfl (lv_at hl 0 rfl) ?_
          obtain ⟨sl_706, _, hc_707, -⟩ := id hkv.k
          refine dk_callv (va_runV (As := [.ref a1]) (rest := []) ⟨hx, hb, hml, hown, hts⟩ (c_R_add l G v D.k 8 9 600 (kw_L σ.sn b σ.ga i) hkv.k (by omega) a1 x ha2 (by omega)) (cwV 1 hts (wd_gV (C := "RunKeeper$Row") wi_187 wi_465 wi_185 wi_186 wi_2) rfl rfl rfl (by decide +kernel) ⟨Nat.le_of_ble_eq_true rfl, Nat.le_of_ble_eq_true rfl⟩) (dk_preV (kn_R, kt_R, 2) hE hP hS hc_707 rfl) rfl rfl hl.1 rfl (lv_room (Nat.le_of_ble_eq_true rfl)) de_K_keepWhatIsSeen_57 ⟨(by first | exact Nat.le_of_ble_eq_true rfl | (simp only [Nat.zero_add]; omega) | omega), (by first | exact Nat.le_of_ble_eq_true rfl | (simp only [Nat.zero_add]; omega) | omega)⟩) hS (fun w_708 H locs hq_709 hP hS => ?_)
          have hk_711 : kp_at G w_708 h D ((σ.ke' (kw_L σ.sn b σ.ga i)).ke' (kw_L σ.sn b σ.ga i ++ [x])) := hkv.ofk hq_709.2 hq_709.1
          have hh_712 : w_708 h = some (1, .inr (cx_K, [.ref D.t, .ref D.a, .ref D.lv, .ref D.sn, .ref D.g, .ref D.k, .ref D.ne, .int (nI σ.sf), .int (bo_i σ.ib), .int (nI σ.sq), .int (nI σ.pr), .int (nI σ.mi)])) := hk_711.o
          have ha3 : en_at w_708 a1 x := ha2.fr hq_709.2 (by omega)
          obtain ⟨sl_713, _, hc_714, -⟩ := id hk_711.g
          refine lv_iload_n hx hb de_K_keepWhatIsSeen_60 rfl (lv_at hl 2 rfl) ?_
          refine bo_if_eq (b := b) (tgt := 92) hx hb de_K_keepWhatIsSeen_61 (by decide) (fun c_715 => ?_) (fun c_715 => ?_)
          · refine lv_iinc (v := nI (i + 1)) (lv' := [(2, .int (nI (i + 1))), (3, .ref a1), (0, .ref h), (1, .int (bo_i b))]) hx hb de_K_keepWhatIsSeen_92 hl (k := 3) rfl (nx_inc i) (by decide) rfl (fun ls hl => ?_)
            refine lv_goto (tgt := 10) hx hb de_K_keepWhatIsSeen_95 (by decide) ?_
            have hk7 : kp_at G w_708 h D (σ.ke' (kw_L σ.sn b σ.ga (i + 1))) := by rw [kw_succ hx9, e1, kw_2, if_neg (fun z => by rw [c_715] at z; exact absurd z.1 (by decide))]; exact hk_711
            exact ih (i + 1) (by omega) (by omega) _ _ _ hk7 (hg.tr (kp_r hq_709.2 (by omega))) hP hS _ (lv_sub hl [2, 3, 0] rfl)
          · refine lv_aload_n hx hb de_K_keepWhatIsSeen_64 rfl (lv_at hl 0 rfl) ?_
            refine lv_ifnull hx hb de_K_keepWhatIsSeen_65 ?_
            refine lv_aload_n hx hb de_K_keepWhatIsSeen_68 rfl (lv_at hl 0 rfl) ?_
            refine lv_aload_n hx hb de_K_keepWhatIsSeen_69 rfl (lv_at hl 1 rfl) ?_
            refine dk_get (a := h) (v := .ref D.g) (C := kn_K) (T := kt_K) (N := 12) hx hb hts ki_K hown hK hP hh_712 rfl 4 (by decide) (hts _ wi_107) (fun _ h9 => h9) rfl de_K_keepWhatIsSeen_70 ?_
            refine lv_iload_n hx hb de_K_keepWhatIsSeen_73 rfl (lv_at hl 3 rfl) ?_
            refine lv_iconst (v := nI 1) hx hb de_K_keepWhatIsSeen_74 (by decide) ?_
            refine nx_iadd (a := i) (b := 1) hx hb de_K_keepWhatIsSeen_75 ?_
            refine dk_callq (va_runV (As := [.int (nI (i + 1))]) (rest := [.ref a1]) ⟨hx, hb, hml, hown, hts⟩ (c_R_at l G w_708 D.g 6 7 600 σ.ga hk_711.g (nI (i + 1))) (cwV 1 hts (wd_gV (C := "RunKeeper$Row") wi_191 wi_516 wi_189 wi_190 wi_2) rfl rfl rfl (by decide +kernel) ⟨Nat.le_of_ble_eq_true rfl, Nat.le_of_ble_eq_true rfl⟩) (dk_preV (kn_R, kt_R, 2) hE hP hS hc_714 rfl) rfl rfl hl.1 rfl (lv_room (Nat.le_of_ble_eq_true rfl)) de_K_keepWhatIsSeen_76 ⟨(by first | exact Nat.le_of_ble_eq_true rfl | (simp only [Nat.zero_add]; omega) | omega), (by first | exact Nat.le_of_ble_eq_true rfl | (simp only [Nat.zero_add]; omega) | omega)⟩) hS (fun r_719 w_717 H locs hq_718 hP hS => ?_)
            have hq8 := at_q hq_718.2 (by omega)
            rw [at_on (by omega)] at hq8
            rw [hq_718.1] at hP
            refine dk_calli (va_runV (As := [va_rf r_719]) (rest := []) ⟨hx, hb, hml, hown, hts⟩ (c_E_hasKeyOfO l G w_708 a1 x ha3 hxo r_719 _ hq8 (fun y hy => hok y (List.mem_of_getElem? hy))) (cwV 1 hts (wd_gV (C := "RunKeeper$Entry") wi_552 wi_549 wi_550 wi_551 wi_14) rfl rfl rfl (by decide +kernel) ⟨Nat.le_of_ble_eq_true rfl, Nat.le_of_ble_eq_true rfl⟩) (dk_preV (kn_E, kt_E, 4) hE hP hS ha3 rfl) rfl rfl hl.1 rfl (lv_room (Nat.le_of_ble_eq_true rfl)) de_K_keepWhatIsSeen_79 ⟨(by first | exact Nat.le_of_ble_eq_true rfl | (simp only [Nat.zero_add]; omega) | omega), (by first | exact Nat.le_of_ble_eq_true rfl | (simp only [Nat.zero_add]; omega) | omega)⟩) hS (fun r_722 w_720 H locs hq_721 hP hS => ?_)
            obtain ⟨hr_723, he_724⟩ := hq_721
            subst hr_723
            rw [he_724] at hP
            refine bo_if_ne (b := (hk_o x σ.ga[i + 1]?)) (tgt := 92) hx hb de_K_keepWhatIsSeen_82 (by decide) (fun c_725 => ?_) (fun c_725 => ?_)
            · refine lv_iinc (v := nI (i + 1)) (lv' := [(2, .int (nI (i + 1))), (3, .ref a1), (0, .ref h), (1, .int (bo_i b))]) hx hb de_K_keepWhatIsSeen_92 hl (k := 3) rfl (nx_inc i) (by decide) rfl (fun ls hl => ?_)
              refine lv_goto (tgt := 10) hx hb de_K_keepWhatIsSeen_95 (by decide) ?_
              have hk7 : kp_at G w_708 h D (σ.ke' (kw_L σ.sn b σ.ga (i + 1))) := by rw [kw_succ hx9, e1, kw_2, if_neg (fun z => by rw [c_725] at z; exact absurd z.2 (by decide))]; exact hk_711
              exact ih (i + 1) (by omega) (by omega) _ _ _ hk7 (hg.tr (kp_r hq_709.2 (by omega))) hP hS _ (lv_sub hl [2, 3, 0] rfl)
            · refine lv_aload_n hx hb de_K_keepWhatIsSeen_85 rfl (lv_at hl 1 rfl) ?_
              refine dk_get (a := h) (v := .ref D.k) (C := kn_K) (T := kt_K) (N := 12) hx hb hts ki_K hown hK hP hh_712 rfl 5 (by decide) (hts _ wi_108) (fun _ h9 => h9) rfl de_K_keepWhatIsSeen_86 ?_
              obtain ⟨sl_726, _, hc_727, -⟩ := id hk_711.k
              refine dk_callv (va_runV (As := []) (rest := []) ⟨hx, hb, hml, hown, hts⟩ (c_R_cutDeletedTail l G w_708 D.k 8 9 600 _ hk_711.k (by omega)) (cwV 0 hts (wd_gV (C := "RunKeeper$Row") wi_560 wi_557 wi_558 wi_559 wi_2) rfl rfl rfl (by decide +kernel) ⟨Nat.le_of_ble_eq_true rfl, Nat.le_of_ble_eq_true rfl⟩) (dk_preV (kn_R, kt_R, 2) hE hP hS hc_727 rfl) rfl rfl hl.1 rfl (lv_room (Nat.le_of_ble_eq_true rfl)) de_K_keepWhatIsSeen_89 ⟨(by first | exact Nat.le_of_ble_eq_true rfl | (simp only [Nat.zero_add]; omega) | omega), (by first | exact Nat.le_of_ble_eq_true rfl | (simp only [Nat.zero_add]; omega) | omega)⟩) hS (fun w_728 H locs hq_729 hP hS => ?_)
              have hk_731 : kp_at G w_728 h D (((σ.ke' (kw_L σ.sn b σ.ga i)).ke' (kw_L σ.sn b σ.ga i ++ [x])).ke' ((kw_L σ.sn b σ.ga i ++ [x]).take (cd_L (kw_L σ.sn b σ.ga i ++ [x]) (kw_L σ.sn b σ.ga i ++ [x]).length))) := hk_711.ofk hq_729.2 hq_729.1
              have hh_732 : w_728 h = some (1, .inr (cx_K, [.ref D.t, .ref D.a, .ref D.lv, .ref D.sn, .ref D.g, .ref D.k, .ref D.ne, .int (nI σ.sf), .int (bo_i σ.ib), .int (nI σ.sq), .int (nI σ.pr), .int (nI σ.mi)])) := hk_731.o
              refine lv_iinc (v := nI (i + 1)) (lv' := [(2, .int (nI (i + 1))), (3, .ref a1), (0, .ref h), (1, .int (bo_i b))]) hx hb de_K_keepWhatIsSeen_92 hl (k := 3) rfl (nx_inc i) (by decide) rfl (fun ls hl => ?_)
              refine lv_goto (tgt := 10) hx hb de_K_keepWhatIsSeen_95 (by decide) ?_
              have hk7 : kp_at G w_728 h D (σ.ke' (kw_L σ.sn b σ.ga (i + 1))) := by rw [kw_succ hx9, e1, kw_2, if_pos ⟨c_715, c_725⟩]; exact hk_731
              exact ih (i + 1) (by omega) (by omega) _ _ _ hk7 (hg.tr (((kp_r hq_709.2 (by omega))).tr (kp_r hq_729.2 (by omega)))) hP hS _ (lv_sub hl [2, 3, 0] rfl)
  exact lp (σ.ga.length + 1) 0 (by omega) (Nat.zero_le _) _ _ _ hk_664 (kp_r hq_662.2 (by omega)) hP hS _ (lv_sub hl [1, 2, 0] rfl)
abbrev rm_K_mergeOnce (c : Nat) : Room := { frames := 9, cells := (5 * c), slots := (1579 * c), locals := 214 }
set_option maxHeartbeats 4000000 in
set_option maxRecDepth 100000 in
theorem c_K_mergeOnce0 (l : Launch) (G : dk_G) (w : dk_H) (h : Nat) (D : kp_D) (σ : kp_S) (hkp : kp_at G w h D σ) (h0 : mg_1 σ = none) : dk_Mi l my_K_mergeOnce (wd_c my_K_mergeOnce mb_K_mergeOnce 3 (some .boolean)) (rm_K_mergeOnce 0) G w [.ref h] (fun r w1 => r = bo_i false ∧ w1 = w) 0 0 := by
  refine dk_enter (lv := [(0, .ref h)]) (by decide) (Nat.le_of_ble_eq_true rfl) rfl (fun p e s m args below meth c ls Q hQ C hP hS hl => ?_)
  obtain ⟨hx, hb, hr, hml, hlocks, hown, hnm, hts, hE⟩ := C
  have hK := hE.1
  have hN := hE.2.1
  have hh_733 : w h = some (1, .inr (cx_K, [.ref D.t, .ref D.a, .ref D.lv, .ref D.sn, .ref D.g, .ref D.k, .ref D.ne, .int (nI σ.sf), .int (bo_i σ.ib), .int (nI σ.sq), .int (nI σ.pr), .int (nI σ.mi)])) := hkp.o
  refine lv_aload_n hx hb de_K_mergeOnce_0 rfl (lv_at hl 0 rfl) ?_
  refine dk_calli (va_runV (As := []) (rest := []) ⟨hx, hb, hml, hown, hts⟩ (c_K_leastLevelToMerge l G w h D σ hkp) (cwV 0 hts (wd_gV (C := "RunKeeper") wi_532 wi_529 wi_531 (wd_p (q := (⟨"RunKeeper", "leastLevelToMerge", "()I"⟩, 12)) (by decide +kernel) (by decide +kernel)) wi_1) rfl rfl rfl (by decide +kernel) ⟨Nat.le_of_ble_eq_true rfl, Nat.le_of_ble_eq_true rfl⟩) (dk_preV (kn_K, kt_K, 12) hE hP hS hh_733 rfl) rfl rfl hl.1 rfl (lv_room (Nat.le_of_ble_eq_true rfl)) de_K_mergeOnce_1 ⟨(by first | exact Nat.le_of_ble_eq_true rfl | (simp only [Nat.zero_add]; omega) | omega), (by first | exact Nat.le_of_ble_eq_true rfl | (simp only [Nat.zero_add]; omega) | omega)⟩) hS (fun r_736 w_734 H locs hq_735 hP hS => ?_)
  obtain ⟨hq1, hq2⟩ := hq_735
  rw [hq2] at hP
  rcases hq1 with ⟨j, hj5, hr9, hj4, hjn⟩ | ⟨hr9, hjn⟩
  · rw [mg_1, mg_js hj5 hj4 hjn] at h0
    cases h0
  · subst hr9
    refine lv_istore_n (lv' := [(1, .int (-1)), (0, .ref h)]) hx hb de_K_mergeOnce_4 rfl hl (by decide) rfl (fun ls hl => ?_)
    refine lv_iload_n hx hb de_K_mergeOnce_5 rfl (lv_at hl 0 rfl) ?_
    refine lv_if_ge (tgt := 11) hx hb de_K_mergeOnce_6 (by decide) (fun c_737 => ?_) (fun c_737 => ?_)
    · exact absurd c_737 (by decide)
    · refine lv_iconst (v := nI 0) hx hb de_K_mergeOnce_9 (by decide) ?_
      exact dk_zret hQ hx hb hr hlocks hP hS (Nat.le_refl _) (Nat.le_refl _) (by decide +kernel) (⟨bo_of0 rfl, rfl⟩) de_K_mergeOnce_10
set_option maxHeartbeats 4000000 in
set_option maxRecDepth 100000 in
theorem c_K_mergeOnce1 (l : Launch) (G : dk_G) (w : dk_H) (h : Nat) (D : kp_D) (σ : kp_S) (hkp : kp_at G w h D σ) (hc6 : kp_n σ ≤ 600) (σ1 : kp_S) (h0 : mg_1 σ = some σ1) : dk_Mi l my_K_mergeOnce (wd_c my_K_mergeOnce mb_K_mergeOnce 3 (some .boolean)) (rm_K_mergeOnce 1) G w [.ref h] (fun r w1 => r = bo_i true ∧ kp_at G w1 h D σ1 ∧ dk_fr kp_T w w1) 5 1579 := by
  unfold kp_n at hc6
  refine dk_enter (lv := [(0, .ref h)]) (by decide) (Nat.le_of_ble_eq_true rfl) rfl (fun p e s m args below meth c ls Q hQ C hP hS hl => ?_)
  obtain ⟨hx, hb, hr, hml, hlocks, hown, hnm, hts, hE⟩ := C
  have hK := hE.1
  have hN := hE.2.1
  have hh_738 : w h = some (1, .inr (cx_K, [.ref D.t, .ref D.a, .ref D.lv, .ref D.sn, .ref D.g, .ref D.k, .ref D.ne, .int (nI σ.sf), .int (bo_i σ.ib), .int (nI σ.sq), .int (nI σ.pr), .int (nI σ.mi)])) := hkp.o
  refine lv_aload_n hx hb de_K_mergeOnce_0 rfl (lv_at hl 0 rfl) ?_
  refine dk_calli (va_runV (As := []) (rest := []) ⟨hx, hb, hml, hown, hts⟩ (c_K_leastLevelToMerge l G w h D σ hkp) (cwV 0 hts (wd_gV (C := "RunKeeper") wi_532 wi_529 wi_531 (wd_p (q := (⟨"RunKeeper", "leastLevelToMerge", "()I"⟩, 12)) (by decide +kernel) (by decide +kernel)) wi_1) rfl rfl rfl (by decide +kernel) ⟨Nat.le_of_ble_eq_true rfl, Nat.le_of_ble_eq_true rfl⟩) (dk_preV (kn_K, kt_K, 12) hE hP hS hh_738 rfl) rfl rfl hl.1 rfl (lv_room (Nat.le_of_ble_eq_true rfl)) de_K_mergeOnce_1 ⟨(by first | exact Nat.le_of_ble_eq_true rfl | (simp only [Nat.zero_add]; omega) | omega), (by first | exact Nat.le_of_ble_eq_true rfl | (simp only [Nat.zero_add]; omega) | omega)⟩) hS (fun r_741 w_739 H locs hq_740 hP hS => ?_)
  obtain ⟨hq1, hq2⟩ := hq_740
  rw [hq2] at hP
  rcases hq1 with ⟨j, hj5, hr9, hj4, hjn⟩ | ⟨hr9, hjn⟩
  · have h9 : σ1 = mg_S σ j := by rw [mg_1, mg_js hj5 hj4 hjn] at h0; exact (Option.some.inj h0).symm
    have hL6 : (σ.lv (j + 1)).length < 600 := by have h1 := hkp.rl (i := j) (by omega); have h2 := hkp.rl (i := j + 1) (by omega); have h3 := lv_two σ.lv (j := j) (by omega); omega
    subst hr9
    refine lv_istore_n (lv' := [(1, .int (nI j)), (0, .ref h)]) hx hb de_K_mergeOnce_4 rfl hl (by decide) rfl (fun ls hl => ?_)
    refine lv_iload_n hx hb de_K_mergeOnce_5 rfl (lv_at hl 0 rfl) ?_
    refine nx_if_ge (a := j) (tgt := 11) hx hb (by omega) de_K_mergeOnce_6 (by decide) ?_
    have hjj : le_ct (σ.lv j) + le_ct (σ.lv (j + 1)) ≤ lv_ct σ.lv 6 := lv_two σ.lv (by omega)
    have hfl : (σ.lv j).flatten.length = le_ct (σ.lv j) := le_flat _
    have hso := so_st_len (σ.lv j).flatten
    have hmA : ∀ y ∈ mg_A σ j, en_ok y := mg_ok hkp (by omega)
    refine lv_aload_n hx hb de_K_mergeOnce_11 rfl (lv_at hl 1 rfl) ?_
    refine lv_iload_n hx hb de_K_mergeOnce_12 rfl (lv_at hl 0 rfl) ?_
    refine lv_iconst (v := nI 1) hx hb de_K_mergeOnce_13 (by decide) ?_
    refine nx_iadd (a := j) (b := 1) hx hb de_K_mergeOnce_14 ?_
    refine dk_calli (va_runV (As := [.int (nI (j + 1))]) (rest := []) ⟨hx, hb, hml, hown, hts⟩ (c_K_areEmptyFrom l G w h D σ hkp (j + 1) (by omega)) (cwV 1 hts (wd_gV (C := "RunKeeper") wi_540 wi_537 wi_539 (wd_p (q := (⟨"RunKeeper", "areEmptyFrom", "(I)Z"⟩, 12)) (by decide +kernel) (by decide +kernel)) wi_1) rfl rfl rfl (by decide +kernel) ⟨Nat.le_of_ble_eq_true rfl, Nat.le_of_ble_eq_true rfl⟩) (dk_preV (kn_K, kt_K, 12) hE hP hS hh_738 rfl) rfl rfl hl.1 rfl (lv_room (Nat.le_of_ble_eq_true rfl)) de_K_mergeOnce_15 ⟨(by first | exact Nat.le_of_ble_eq_true rfl | (simp only [Nat.zero_add]; omega) | omega), (by first | exact Nat.le_of_ble_eq_true rfl | (simp only [Nat.zero_add]; omega) | omega)⟩) hS (fun r_745 w_743 H locs hq_744 hP hS => ?_)
    obtain ⟨⟨b9, hb9, hb8⟩, hq3⟩ := hq_744
    rw [hq3] at hP
    subst hb9
    obtain rfl := mg_eb hb8
    refine lv_istore_n (lv' := [(2, .int (bo_i (mg_e σ.lv (j + 1)))), (1, .int (nI j)), (0, .ref h)]) hx hb de_K_mergeOnce_18 rfl hl (by decide) rfl (fun ls hl => ?_)
    refine lv_aload_n hx hb de_K_mergeOnce_19 rfl (lv_at hl 2 rfl) ?_
    refine dk_get (a := h) (v := .ref D.g) (C := kn_K) (T := kt_K) (N := 12) hx hb hts ki_K hown hK hP hh_738 rfl 4 (by decide) (hts _ wi_107) (fun _ h9 => h9) rfl de_K_mergeOnce_20 ?_
    refine lv_iconst (v := nI 0) hx hb de_K_mergeOnce_23 (by decide) ?_
    obtain ⟨sl_746, _, hc_747, -⟩ := id hkp.g
    refine dk_callv (va_runV (As := [.int (nI 0)]) (rest := []) ⟨hx, hb, hml, hown, hts⟩ (c_R_cutTo l G w D.g 6 7 600 σ.ga hkp.g (by omega) 0 (by decide)) (cwV 1 hts (wd_gV (C := "RunKeeper$Row") wi_279 wi_276 wi_277 wi_278 wi_2) rfl rfl rfl (by decide +kernel) ⟨Nat.le_of_ble_eq_true rfl, Nat.le_of_ble_eq_true rfl⟩) (dk_preV (kn_R, kt_R, 2) hE hP hS hc_747 rfl) rfl rfl hl.1 rfl (lv_room (Nat.le_of_ble_eq_true rfl)) de_K_mergeOnce_24 ⟨(by first | exact Nat.le_of_ble_eq_true rfl | (simp only [Nat.zero_add]; omega) | omega), (by first | exact Nat.le_of_ble_eq_true rfl | (simp only [Nat.zero_add]; omega) | omega)⟩) hS (fun w_748 H locs hq_749 hP hS => ?_)
    have hk_751 : kp_at G w_748 h D (σ.ga' (σ.ga.take 0)) := hkp.ofg hq_749.2 hq_749.1
    have hh_752 : w_748 h = some (1, .inr (cx_K, [.ref D.t, .ref D.a, .ref D.lv, .ref D.sn, .ref D.g, .ref D.k, .ref D.ne, .int (nI σ.sf), .int (bo_i σ.ib), .int (nI σ.sq), .int (nI σ.pr), .int (nI σ.mi)])) := hk_751.o
    refine lv_aload_n hx hb de_K_mergeOnce_27 rfl (lv_at hl 2 rfl) ?_
    refine dk_get (a := h) (v := .ref D.lv) (C := kn_K) (T := kt_K) (N := 12) hx hb hts ki_K hown hK hP hh_752 rfl 2 (by decide) (hts _ wi_105) (fun _ h9 => h9) rfl de_K_mergeOnce_28 ?_
    refine lv_iload_n hx hb de_K_mergeOnce_31 rfl (lv_at hl 1 rfl) ?_
    refine dk_aald (a := D.lv) (r := some (D.le j)) (C := dk_nL) hx hb hK hP hk_751.l rfl j rfl (by omega) (by omega) ((hk_751.v j (by omega)).1) de_K_mergeOnce_32 ?_
    obtain ⟨al_753, _, hc_754, -⟩ := id (hk_751.v j (by omega)).2
    refine lv_aload_n hx hb de_K_mergeOnce_33 rfl (lv_at hl 2 rfl) ?_
    refine dk_get (a := h) (v := .ref D.g) (C := kn_K) (T := kt_K) (N := 12) hx hb hts ki_K hown hK hP hh_752 rfl 4 (by decide) (hts _ wi_107) (fun _ h9 => h9) rfl de_K_mergeOnce_34 ?_
    refine dk_callv (va_runV (As := [.ref D.g]) (rest := []) ⟨hx, hb, hml, hown, hts⟩ (c_V_copyTo l G w_748 (D.le j) (20 + 3 * j) (σ.lv j) (hk_751.v j (by omega)).2 (by omega) D.g 6 7 600 (σ.ga.take 0) hk_751.g (by omega) (fun t z1 z2 => by unfold le_T at z2; omega) (by simp; omega)) (cwV 1 hts (wd_gV (C := "RunKeeper$Level") wi_300 wi_297 wi_298 wi_299 wi_4) rfl rfl rfl (by decide +kernel) ⟨Nat.le_of_ble_eq_true rfl, Nat.le_of_ble_eq_true rfl⟩) (dk_preV (kn_V, kt_V, 2) hE hP hS hc_754 rfl) rfl rfl hl.1 rfl (lv_room (Nat.le_of_ble_eq_true rfl)) de_K_mergeOnce_37 ⟨(by first | exact Nat.le_of_ble_eq_true rfl | (simp only [Nat.zero_add]; omega) | omega), (by first | exact Nat.le_of_ble_eq_true rfl | (simp only [Nat.zero_add]; omega) | omega)⟩) hS (fun w_755 H locs hq_756 hP hS => ?_)
    have hk_758 : kp_at G w_755 h D ((σ.ga' (σ.ga.take 0)).ga' (σ.ga.take 0 ++ (σ.lv j).flatten)) := hk_751.ofg hq_756.2 hq_756.1
    have hh_759 : w_755 h = some (1, .inr (cx_K, [.ref D.t, .ref D.a, .ref D.lv, .ref D.sn, .ref D.g, .ref D.k, .ref D.ne, .int (nI σ.sf), .int (bo_i σ.ib), .int (nI σ.sq), .int (nI σ.pr), .int (nI σ.mi)])) := hk_758.o
    refine lv_aload_n hx hb de_K_mergeOnce_40 rfl (lv_at hl 2 rfl) ?_
    refine dk_get (a := h) (v := .ref D.g) (C := kn_K) (T := kt_K) (N := 12) hx hb hts ki_K hown hK hP hh_759 rfl 4 (by decide) (hts _ wi_107) (fun _ h9 => h9) rfl de_K_mergeOnce_41 ?_
    obtain ⟨sl_760, _, hc_761, -⟩ := id hk_758.g
    refine dk_callv (va_runV (As := []) (rest := []) ⟨hx, hb, hml, hown, hts⟩ (c_R_sortAsRun l G w_755 D.g 6 7 600 (σ.ga.take 0 ++ (σ.lv j).flatten) hk_758.g (by omega) (fun y hy => hmA y (so_st_mem.mpr (by simpa using hy)))) (cwV 0 hts (wd_gV (C := "RunKeeper$Row") wi_159 wi_156 wi_157 wi_158 wi_2) rfl rfl rfl (by decide +kernel) ⟨Nat.le_of_ble_eq_true rfl, Nat.le_of_ble_eq_true rfl⟩) (dk_preV (kn_R, kt_R, 2) hE hP hS hc_761 rfl) rfl rfl hl.1 rfl (lv_room (Nat.le_of_ble_eq_true rfl)) de_K_mergeOnce_44 ⟨(by first | exact Nat.le_of_ble_eq_true rfl | (simp only [Nat.zero_add]; omega) | omega), (by first | exact Nat.le_of_ble_eq_true rfl | (simp only [Nat.zero_add]; omega) | omega)⟩) hS (fun w_762 H locs hq_763 hP hS => ?_)
    have hk_765 : kp_at G w_762 h D (((σ.ga' (σ.ga.take 0)).ga' (σ.ga.take 0 ++ (σ.lv j).flatten)).ga' (so_st (σ.ga.take 0 ++ (σ.lv j).flatten))) := hk_758.ofg hq_763.2 hq_763.1
    have hh_766 : w_762 h = some (1, .inr (cx_K, [.ref D.t, .ref D.a, .ref D.lv, .ref D.sn, .ref D.g, .ref D.k, .ref D.ne, .int (nI σ.sf), .int (bo_i σ.ib), .int (nI σ.sq), .int (nI σ.pr), .int (nI σ.mi)])) := hk_765.o
    have hk6 : kp_at G w_762 h D (σ.ga' (mg_A σ j)) := hk_765
    have hh_767 : w_762 h = some (1, .inr (cx_K, [.ref D.t, .ref D.a, .ref D.lv, .ref D.sn, .ref D.g, .ref D.k, .ref D.ne, .int (nI σ.sf), .int (bo_i σ.ib), .int (nI σ.sq), .int (nI σ.pr), .int (nI σ.mi)])) := hk6.o
    refine lv_aload_n hx hb de_K_mergeOnce_47 rfl (lv_at hl 2 rfl) ?_
    refine lv_iload_n hx hb de_K_mergeOnce_48 rfl (lv_at hl 0 rfl) ?_
    refine dk_callv (va_runV (As := [.int (bo_i (mg_e σ.lv (j + 1)))]) (rest := []) ⟨hx, hb, hml, hown, hts⟩ (c_K_keepWhatIsSeen l G w_762 h D (σ.ga' (mg_A σ j)) hk6 (mg_e σ.lv (j + 1)) hmA) (cwV 1 hts (wd_gV (C := "RunKeeper") wi_544 wi_541 wi_543 (wd_p (q := (⟨"RunKeeper", "keepWhatIsSeen", "(Z)V"⟩, 12)) (by decide +kernel) (by decide +kernel)) wi_1) rfl rfl rfl (by decide +kernel) ⟨Nat.le_of_ble_eq_true rfl, Nat.le_of_ble_eq_true rfl⟩) (dk_preV (kn_K, kt_K, 12) hE hP hS hh_767 rfl) rfl rfl hl.1 rfl (lv_room (Nat.le_of_ble_eq_true rfl)) de_K_mergeOnce_49 ⟨(by first | exact Nat.le_of_ble_eq_true rfl | (simp only [Nat.zero_add]; omega) | omega), (by first | exact Nat.le_of_ble_eq_true rfl | (simp only [Nat.zero_add]; omega) | omega)⟩) hS (fun w_768 H locs hq_769 hP hS => ?_)
    have hk_771 : kp_at G w_768 h D ((σ.ga' (mg_A σ j)).ke' (mg_K σ j)) := hq_769.1
    have hh_772 : w_768 h = some (1, .inr (cx_K, [.ref D.t, .ref D.a, .ref D.lv, .ref D.sn, .ref D.g, .ref D.k, .ref D.ne, .int (nI σ.sf), .int (bo_i σ.ib), .int (nI σ.sq), .int (nI σ.pr), .int (nI σ.mi)])) := hk_771.o
    have hKl : (mg_K σ j).length ≤ le_ct (σ.lv j) := Nat.le_trans (kw_len _ _ _ _) (by rw [mg_A, hso, hfl]; exact Nat.le_refl _)
    refine lv_aload_n hx hb de_K_mergeOnce_52 rfl (lv_at hl 2 rfl) ?_
    refine dk_get (a := h) (v := .ref D.lv) (C := kn_K) (T := kt_K) (N := 12) hx hb hts ki_K hown hK hP hh_772 rfl 2 (by decide) (hts _ wi_105) (fun _ h9 => h9) rfl de_K_mergeOnce_53 ?_
    refine lv_iload_n hx hb de_K_mergeOnce_56 rfl (lv_at hl 1 rfl) ?_
    refine dk_aald (a := D.lv) (r := some (D.le j)) (C := dk_nL) hx hb hK hP hk_771.l rfl j rfl (by omega) (by omega) ((hk_771.v j (by omega)).1) de_K_mergeOnce_57 ?_
    obtain ⟨al_773, _, hc_774, -⟩ := id (hk_771.v j (by omega)).2
    refine dk_callv (va_runV (As := []) (rest := []) ⟨hx, hb, hml, hown, hts⟩ (c_V_clear l G w_768 (D.le j) (20 + 3 * j) (σ.lv j) (hk_771.v j (by omega)).2 (by omega)) (cwV 0 hts (wd_gV (C := "RunKeeper$Level") wi_564 wi_561 wi_562 wi_563 wi_4) rfl rfl rfl (by decide +kernel) ⟨Nat.le_of_ble_eq_true rfl, Nat.le_of_ble_eq_true rfl⟩) (dk_preV (kn_V, kt_V, 2) hE hP hS hc_774 rfl) rfl rfl hl.1 rfl (lv_room (Nat.le_of_ble_eq_true rfl)) de_K_mergeOnce_58 ⟨(by first | exact Nat.le_of_ble_eq_true rfl | (simp only [Nat.zero_add]; omega) | omega), (by first | exact Nat.le_of_ble_eq_true rfl | (simp only [Nat.zero_add]; omega) | omega)⟩) hS (fun w_775 H locs hq_776 hP hS => ?_)
    have hk_778 : kp_at G w_775 h D (((σ.ga' (mg_A σ j)).ke' (mg_K σ j)).lv' (va_up σ.lv j ([]))) := hk_771.ofv (by omega) hq_776.2 hq_776.1
    have hh_779 : w_775 h = some (1, .inr (cx_K, [.ref D.t, .ref D.a, .ref D.lv, .ref D.sn, .ref D.g, .ref D.k, .ref D.ne, .int (nI σ.sf), .int (bo_i σ.ib), .int (nI σ.sq), .int (nI σ.pr), .int (nI σ.mi)])) := hk_778.o
    have hun : va_up σ.lv j [] (j + 1) = σ.lv (j + 1) := dk_un (by omega)
    refine lv_aload_n hx hb de_K_mergeOnce_61 rfl (lv_at hl 2 rfl) ?_
    refine lv_iload_n hx hb de_K_mergeOnce_62 rfl (lv_at hl 1 rfl) ?_
    refine lv_iconst (v := nI 1) hx hb de_K_mergeOnce_63 (by decide) ?_
    refine nx_iadd (a := j) (b := 1) hx hb de_K_mergeOnce_64 ?_
    refine lv_aload_n hx hb de_K_mergeOnce_65 rfl (lv_at hl 2 rfl) ?_
    refine dk_get (a := h) (v := .ref D.k) (C := kn_K) (T := kt_K) (N := 12) hx hb hts ki_K hown hK hP hh_779 rfl 5 (by decide) (hts _ wi_108) (fun _ h9 => h9) rfl de_K_mergeOnce_66 ?_
    refine dk_callv (va_runV (As := [.int (nI (j + 1)), .ref D.k]) (rest := []) ⟨hx, hb, hml, hown, hts⟩ (c_K_addRun l G w_775 h D _ hk_778 (j + 1) D.k 8 9 600 (mg_K σ j) (by omega) hk_778.k (by omega) (by show (va_up σ.lv j [] (j + 1)).length < 600; rw [hun]; exact hL6) (by show le_ct (va_up σ.lv j [] (j + 1)) + _ ≤ 600; rw [hun]; omega) (fun y hy => hmA y (kw_mem _ hy))) (cwV 2 hts (wd_gV (C := "RunKeeper") wi_167 wi_164 wi_166 (wd_p (q := (⟨"RunKeeper", "addRun", "(ILRunKeeper$Row;)V"⟩, 12)) (by decide +kernel) (by decide +kernel)) wi_1) rfl rfl rfl (by decide +kernel) ⟨Nat.le_of_ble_eq_true rfl, Nat.le_of_ble_eq_true rfl⟩) (dk_preV (kn_K, kt_K, 12) hE hP hS hh_779 rfl) rfl rfl hl.1 rfl (lv_room (Nat.le_of_ble_eq_true rfl)) de_K_mergeOnce_69 ⟨(by first | exact Nat.le_of_ble_eq_true rfl | (simp only [Nat.zero_add]; omega) | omega), (by first | exact Nat.le_of_ble_eq_true rfl | (simp only [Nat.zero_add]; omega) | omega)⟩) hS (fun w_780 H locs hq_781 hP hS => ?_)
    have hf9 : dk_fr kp_T _ _ := hq_781.2.mono (fun t z => by unfold kp_T; omega)
    refine lv_iconst (v := nI 1) hx hb de_K_mergeOnce_72 (by decide) ?_
    exact dk_zret hQ hx hb hr hlocks hP hS (by omega) (by omega) (by decide +kernel) (⟨bo_of1 rfl, by rw [h9]; exact hq_781.1, ((((((kp_r hq_749.2 (by omega))).tr (kp_r hq_756.2 (by omega))).tr (kp_r hq_763.2 (by omega))).tr (hq_769.2)).tr (kp_v (by omega) hq_776.2)).tr (hf9)⟩) de_K_mergeOnce_73
  · rw [mg_1, mg_jn hjn] at h0
    cases h0
end
section
/-! RunKeeper: looking (printed by gen/c_keep3.py) -/
abbrev mI (n : Nat) : Int32 := nI n - nI 1
theorem mI_0 {n : Nat} (hn : n < 2 ^ 31) (h : mI n < 0) : n = 0 := by
  cases n with
  | zero => rfl
  | succ j => exact absurd h (by rw [show mI (j + 1) = nI j from nI_s1 j]; exact nI_pos (by omega))
theorem mI_p {n : Nat} (h : ¬ mI n < 0) : ∃ j, n = j + 1 := by
  cases n with
  | zero => exact absurd nI_m1 h
  | succ j => exact ⟨j, rfl⟩
theorem rn_in {G : dk_G} {w : dk_H} {Rs : List (List en_T)} {r : Option Nat} {j : Nat} {R : List en_T} (h : rn_q G w Rs (nI j) r) (hj : j < 2 ^ 31) (hl : Rs.length < 2 ^ 31) (hR : Rs[j]? = some R) : ∃ a, r = some a ∧ rn_at G w a R := by
  have hjl := (List.getElem?_eq_some_iff.mp hR).1
  rcases h with ⟨-, h⟩ | ⟨i, S, a, h1, h2, h3, h4⟩
  · exact absurd (h j rfl hj) (by omega)
  · have hil := (List.getElem?_eq_some_iff.mp h2).1
    have e := (nI_eq hj (by omega)).mp h1
    subst e
    rw [hR] at h2
    cases h2
    exact ⟨a, h3, h4⟩
theorem lk_v0 {k u : Nat} {lv : Nat → List (List en_T)} {i : Nat} {q : Nat × Nat} (hi : i < 6) (h : (lk_l k u (lv i) (lv i).length q).1 = none) : lk_v k u lv (6 - i) q = lk_v k u lv (6 - (i + 1)) (lk_l k u (lv i) (lv i).length q).2 := by
  have e : 6 - i = (6 - (i + 1)) + 1 := by omega
  have e2 : 5 - (6 - (i + 1)) = i := by omega
  rw [e]
  simp only [lk_v, e2, h]
theorem lk_v1 {k u : Nat} {lv : Nat → List (List en_T)} {i : Nat} {q : Nat × Nat} {x : en_T} (hi : i < 6) (h : (lk_l k u (lv i) (lv i).length q).1 = some x) : lk_v k u lv (6 - i) q = (some x, (lk_l k u (lv i) (lv i).length q).2) := by
  have e : 6 - i = (6 - (i + 1)) + 1 := by omega
  have e2 : 5 - (6 - (i + 1)) = i := by omega
  rw [e]
  simp only [lk_v, e2, h]
/-- the sequence that a view is of: -1 is now -/
def vw_u (σ : kp_S) (k : Int32) : Option Nat := if k = -1 then some σ.sq else sn_g σ.sn k
theorem sn_gs {sn : Nat → Option Nat} {k : Int32} {u : Nat} (h : sn_g sn k = some u) : ∃ j, j < 6 ∧ k = nI j ∧ sn j = some u := by
  by_cases hk : k < 0
  · rw [sn_g1 hk] at h; cases h
  · obtain ⟨j, hj, e⟩ := nI_of hk
    subst e
    by_cases h6 : j < 6
    · rw [sn_g3 h6] at h
      exact ⟨j, h6, rfl, h⟩
    · rw [sn_g2 (by omega) hj] at h; cases h
theorem kp_at.nwx {G : dk_G} {w : dk_H} {h : Nat} {D : kp_D} {σ : kp_S} (H : kp_at G w h D σ) {f : Nat → Option en_T} (hf : ∀ i, i < 1024 → f i = σ.nw i) : kp_at G w h D (σ.nw' f) := ⟨H.o, H.t, H.a, H.l, H.v, H.s, H.g, H.k, H.n.ext hf, H.tk⟩
theorem nw_s (i : Nat) (nw : Nat → Option en_T) : ∀ j, j < 1024 → (fun j => if j < i + 1 then none else nw j) j = va_up (fun j => if j < i then none else nw j) i none j := by
  intro j _
  by_cases e : j = i
  · subst e
    rw [dk_us]
    exact if_pos (by omega)
  · rw [dk_un e]
    by_cases h : j < i
    · show (if j < i + 1 then none else nw j) = if j < i then none else nw j
      rw [if_pos h, if_pos (by omega)]
    · show (if j < i + 1 then none else nw j) = if j < i then none else nw j
      rw [if_neg h, if_neg (by omega)]
theorem nn_mem' {u k : Nat} : ∀ (L : List en_T) (f : Nat → Option en_T) {y : en_T}, L.foldl (nn_f u) f k = some y → y ∈ L ∨ f k = some y
  | [], f, y, h => Or.inr h
  | x :: L, f, y, h => by
    rw [List.foldl_cons] at h
    rcases nn_mem' L _ h with h1 | h1
    · exact Or.inl (List.mem_cons_of_mem _ h1)
    · unfold nn_f at h1
      split at h1
      · by_cases e : k = x.1
        · subst e
          rw [dk_us] at h1
          cases h1
          exact Or.inl List.mem_cons_self
        · rw [dk_un e] at h1
          exact Or.inr h1
      · exact Or.inr h1
theorem nn_mem {u k : Nat} (L : List en_T) {y : en_T} (h : nn_L u L k = some y) : y ∈ L := by
  rcases nn_mem' L _ h with h1 | h1
  · exact h1
  · cases h1
abbrev rm_K_probe : Room := { frames := 1, cells := 0, slots := 0, locals := 25 }
set_option maxHeartbeats 4000000 in
set_option maxRecDepth 100000 in
theorem c_K_probe (l : Launch) (G : dk_G) (w : dk_H) (h : Nat) (D : kp_D) (σ : kp_S) (hkp : kp_at G w h D σ) (a : Nat) (R : List en_T) (ha : rn_at G w a R) (k u : Nat) (hk0 : k < 2 ^ 31) (hu0 : u < 2 ^ 31) : dk_Mq l my_K_probe (wd_c my_K_probe mb_K_probe 4 (some (.object "RunKeeper$Entry"))) rm_K_probe G w [.ref h, .ref a, .int (nI k), .int (nI u)] (fun r w1 => en_q w1 r (la_L k u R) ∧ kp_at G w1 h D ((σ.pr' (pb_q k R (σ.pr, σ.mi)).1).mi' (pb_q k R (σ.pr, σ.mi)).2) ∧ dk_fr kp_T w w1) 0 0 := by
  obtain ⟨r9, fl9, f9, hac, hrw, -, -, hR0, hR6, hRk⟩ := id ha
  refine dk_enter (lv := [(0, .ref h), (1, .ref a), (2, .int (nI k)), (3, .int (nI u))]) (by decide) (Nat.le_of_ble_eq_true rfl) rfl (fun p e s m args below meth c ls Q hQ C hP hS hl => ?_)
  obtain ⟨hx, hb, hr, hml, hlocks, hown, hnm, hts, hE⟩ := C
  have hK := hE.1
  have hN := hE.2.1
  have hh_783 : w h = some (1, .inr (cx_K, [.ref D.t, .ref D.a, .ref D.lv, .ref D.sn, .ref D.g, .ref D.k, .ref D.ne, .int (nI σ.sf), .int (bo_i σ.ib), .int (nI σ.sq), .int (nI σ.pr), .int (nI σ.mi)])) := hkp.o
  refine lv_aload_n hx hb de_K_probe_0 rfl (lv_at hl 0 rfl) ?_
  refine lv_dup hx hb de_K_probe_1 rfl ?_
  refine dk_get (a := h) (v := .int (nI σ.pr)) (C := kn_K) (T := kt_K) (N := 12) hx hb hts ki_K hown hK hP hh_783 rfl 10 (by decide) (hts _ wi_113) (fun _ h9 => h9) rfl de_K_probe_2 ?_
  refine lv_iconst (v := nI 1) hx hb de_K_probe_5 (by decide) ?_
  refine nx_iadd (a := σ.pr) (b := 1) hx hb de_K_probe_6 ?_
  refine dk_put (a := h) (v := .int (nI (σ.pr + 1))) (ty := .int) (C := kn_K) (T := kt_K) (N := 12) hx hb hts ki_K ky_K kk_K kd_K hown hK hP hS hh_783 rfl 10 (by decide) (hts _ wi_113) (fun _ h9 => h9) rfl (by decide +kernel) rfl rfl (Nat.le_of_ble_eq_true rfl) de_K_probe_7 (fun H locs w_784 hw_785 hP hS => ?_)
  have h_786 : w_784 h = some (1, .inr (cx_K, [.ref D.t, .ref D.a, .ref D.lv, .ref D.sn, .ref D.g, .ref D.k, .ref D.ne, .int (nI σ.sf), .int (bo_i σ.ib), .int (nI σ.sq), .int (nI (σ.pr + 1)), .int (nI σ.mi)])) := dk_here hw_785
  have h_787 : w_784 D.lv = some (11, dk_ca G 4 6 D.lf) := dk_keep hw_785 hh_783 hkp.l (by decide)
  have h_788 : w_784 a = some (0, .inr (cx_U, [.ref r9, .ref fl9])) := dk_keep hw_785 hh_783 hac (by decide)
  have hf_789 : dk_fr (fun t => t = 1) w w_784 := ((dk_fr.up (T := fun t => t = 1) hh_783 rfl).eq hw_785)
  have hk_790 : kp_at G w_784 h D (σ.pr' (σ.pr + 1)) := hkp.ofo hf_789 h_786 rfl rfl rfl rfl rfl rfl rfl
  have hh_791 : w_784 h = some (1, .inr (cx_K, [.ref D.t, .ref D.a, .ref D.lv, .ref D.sn, .ref D.g, .ref D.k, .ref D.ne, .int (nI σ.sf), .int (bo_i σ.ib), .int (nI σ.sq), .int (nI (σ.pr + 1)), .int (nI σ.mi)])) := hk_790.o
  have hrw2 := hrw.fr hf_789 (by omega) (by omega) (by omega)
  refine lv_aload_n hx hb de_K_probe_10 rfl (lv_at hl 1 rfl) ?_
  refine dk_callq (va_runV (As := []) (rest := []) ⟨hx, hb, hml, hown, hts⟩ (c_U_entries l G w_784 a 0 r9 fl9 h_788) (cwV 0 hts (wd_gV (C := "RunKeeper$Run") wi_274 wi_651 wi_272 wi_273 wi_15) rfl rfl rfl (by decide +kernel) ⟨Nat.le_of_ble_eq_true rfl, Nat.le_of_ble_eq_true rfl⟩) (dk_preV (kn_U, kt_U, 2) hE hP hS h_788 rfl) rfl rfl hl.1 rfl (lv_room (Nat.le_of_ble_eq_true rfl)) de_K_probe_11 ⟨(by first | exact Nat.le_of_ble_eq_true rfl | (simp only [Nat.zero_add]; omega) | omega), (by first | exact Nat.le_of_ble_eq_true rfl | (simp only [Nat.zero_add]; omega) | omega)⟩) hS (fun r_794 w_792 H locs hq_793 hP hS => ?_)
  obtain ⟨hr8, hw8⟩ := hq_793
  subst hr8
  rw [hw8] at hP
  obtain ⟨sl_796, _, hc_795, -⟩ := id hrw2
  refine lv_iload_n hx hb de_K_probe_14 rfl (lv_at hl 2 rfl) ?_
  refine dk_calli (va_runV (As := [.int (nI k)]) (rest := []) ⟨hx, hb, hml, hown, hts⟩ (c_R_hasKey l G w_784 r9 0 0 R.length R hrw2 k hk0 hRk) (cwV 1 hts (wd_gV (C := "RunKeeper$Row") wi_655 wi_652 wi_653 wi_654 wi_2) rfl rfl rfl (by decide +kernel) ⟨Nat.le_of_ble_eq_true rfl, Nat.le_of_ble_eq_true rfl⟩) (dk_preV (kn_R, kt_R, 2) hE hP hS hc_795 rfl) rfl rfl hl.1 rfl (lv_room (Nat.le_of_ble_eq_true rfl)) de_K_probe_15 ⟨(by first | exact Nat.le_of_ble_eq_true rfl | (simp only [Nat.zero_add]; omega) | omega), (by first | exact Nat.le_of_ble_eq_true rfl | (simp only [Nat.zero_add]; omega) | omega)⟩) hS (fun r_799 w_797 H locs hq_798 hP hS => ?_)
  obtain ⟨hr_800, he_801⟩ := hq_798
  subst hr_800
  rw [he_801] at hP
  refine bo_if_ne (b := (R.any (fun x => decide (x.1 = k)))) (tgt := 31) hx hb de_K_probe_18 (by decide) (fun c_802 => ?_) (fun c_802 => ?_)
  · have e7 : (pb_q k R (σ.pr, σ.mi)).2 = σ.mi := if_pos c_802
    refine lv_aload_n hx hb de_K_probe_31 rfl (lv_at hl 1 rfl) ?_
    refine dk_callq (va_runV (As := []) (rest := []) ⟨hx, hb, hml, hown, hts⟩ (c_U_entries l G w_784 a 0 r9 fl9 h_788) (cwV 0 hts (wd_gV (C := "RunKeeper$Run") wi_274 wi_651 wi_272 wi_273 wi_15) rfl rfl rfl (by decide +kernel) ⟨Nat.le_of_ble_eq_true rfl, Nat.le_of_ble_eq_true rfl⟩) (dk_preV (kn_U, kt_U, 2) hE hP hS h_788 rfl) rfl rfl hl.1 rfl (lv_room (Nat.le_of_ble_eq_true rfl)) de_K_probe_32 ⟨(by first | exact Nat.le_of_ble_eq_true rfl | (simp only [Nat.zero_add]; omega) | omega), (by first | exact Nat.le_of_ble_eq_true rfl | (simp only [Nat.zero_add]; omega) | omega)⟩) hS (fun r_805 w_803 H locs hq_804 hP hS => ?_)
    obtain ⟨hr8, hw8⟩ := hq_804
    subst hr8
    rw [hw8] at hP
    obtain ⟨sl_807, _, hc_806, -⟩ := id hrw2
    refine lv_iload_n hx hb de_K_probe_35 rfl (lv_at hl 2 rfl) ?_
    refine lv_iload_n hx hb de_K_probe_36 rfl (lv_at hl 3 rfl) ?_
    refine dk_callq (va_runV (As := [.int (nI k), .int (nI u)]) (rest := []) ⟨hx, hb, hml, hown, hts⟩ (c_R_latestOf l G w_784 r9 0 0 R.length R hrw2 k u hk0 hu0 hRk) (cwV 2 hts (wd_gV (C := "RunKeeper$Row") wi_630 wi_627 wi_628 wi_629 wi_2) rfl rfl rfl (by decide +kernel) ⟨Nat.le_of_ble_eq_true rfl, Nat.le_of_ble_eq_true rfl⟩) (dk_preV (kn_R, kt_R, 2) hE hP hS hc_806 rfl) rfl rfl hl.1 rfl (lv_room (Nat.le_of_ble_eq_true rfl)) de_K_probe_37 ⟨(by first | exact Nat.le_of_ble_eq_true rfl | (simp only [Nat.zero_add]; omega) | omega), (by first | exact Nat.le_of_ble_eq_true rfl | (simp only [Nat.zero_add]; omega) | omega)⟩) hS (fun r_810 w_808 H locs hq_809 hP hS => ?_)
    rw [hq_809.2] at hP
    exact dk_aret (r := r_810) hQ hx hb hr (Or.inl ⟨_, rfl⟩) hlocks hP hS (Nat.le_refl _) (Nat.le_refl _) (⟨hq_809.1, by rw [e7]; exact hk_790, (kp_o hf_789)⟩) de_K_probe_40
  · have e7 : (pb_q k R (σ.pr, σ.mi)).2 = σ.mi + 1 := if_neg (fun z => by rw [c_802] at z; exact absurd z (by decide))
    refine lv_aload_n hx hb de_K_probe_21 rfl (lv_at hl 0 rfl) ?_
    refine lv_dup hx hb de_K_probe_22 rfl ?_
    refine dk_get (a := h) (v := .int (nI σ.mi)) (C := kn_K) (T := kt_K) (N := 12) hx hb hts ki_K hown hK hP hh_791 rfl 11 (by decide) (hts _ wi_114) (fun _ h9 => h9) rfl de_K_probe_23 ?_
    refine lv_iconst (v := nI 1) hx hb de_K_probe_26 (by decide) ?_
    refine nx_iadd (a := σ.mi) (b := 1) hx hb de_K_probe_27 ?_
    refine dk_put (a := h) (v := .int (nI (σ.mi + 1))) (ty := .int) (C := kn_K) (T := kt_K) (N := 12) hx hb hts ki_K ky_K kk_K kd_K hown hK hP hS hh_791 rfl 11 (by decide) (hts _ wi_114) (fun _ h9 => h9) rfl (by decide +kernel) rfl rfl (Nat.le_of_ble_eq_true rfl) de_K_probe_28 (fun H locs w_811 hw_812 hP hS => ?_)
    have h_813 : w_811 h = some (1, .inr (cx_K, [.ref D.t, .ref D.a, .ref D.lv, .ref D.sn, .ref D.g, .ref D.k, .ref D.ne, .int (nI σ.sf), .int (bo_i σ.ib), .int (nI σ.sq), .int (nI (σ.pr + 1)), .int (nI (σ.mi + 1))])) := dk_here hw_812
    have h_814 : w_811 a = some (0, .inr (cx_U, [.ref r9, .ref fl9])) := dk_keep hw_812 hh_791 h_788 (by decide)
    have h_815 : w_811 D.lv = some (11, dk_ca G 4 6 D.lf) := dk_keep hw_812 hh_791 hk_790.l (by decide)
    have h_816 : w_811 r9 = some (0, .inr (cx_R, [.ref sl_796, .int (nI R.length)])) := dk_keep hw_812 hh_791 hc_795 (by decide)
    have hf_817 : dk_fr (fun t => t = 1) w_784 w_811 := ((dk_fr.up (T := fun t => t = 1) hh_791 rfl).eq hw_812)
    have hk_818 : kp_at G w_811 h D ((σ.pr' (σ.pr + 1)).mi' (σ.mi + 1)) := hk_790.ofo hf_817 h_813 rfl rfl rfl rfl rfl rfl rfl
    have hh_819 : w_811 h = some (1, .inr (cx_K, [.ref D.t, .ref D.a, .ref D.lv, .ref D.sn, .ref D.g, .ref D.k, .ref D.ne, .int (nI σ.sf), .int (bo_i σ.ib), .int (nI σ.sq), .int (nI (σ.pr + 1)), .int (nI (σ.mi + 1))])) := hk_818.o
    have hrw3 := hrw2.fr hf_817 (by omega) (by omega) (by omega)
    refine lv_aload_n hx hb de_K_probe_31 rfl (lv_at hl 1 rfl) ?_
    refine dk_callq (va_runV (As := []) (rest := []) ⟨hx, hb, hml, hown, hts⟩ (c_U_entries l G w_811 a 0 r9 fl9 h_814) (cwV 0 hts (wd_gV (C := "RunKeeper$Run") wi_274 wi_651 wi_272 wi_273 wi_15) rfl rfl rfl (by decide +kernel) ⟨Nat.le_of_ble_eq_true rfl, Nat.le_of_ble_eq_true rfl⟩) (dk_preV (kn_U, kt_U, 2) hE hP hS h_814 rfl) rfl rfl hl.1 rfl (lv_room (Nat.le_of_ble_eq_true rfl)) de_K_probe_32 ⟨(by first | exact Nat.le_of_ble_eq_true rfl | (simp only [Nat.zero_add]; omega) | omega), (by first | exact Nat.le_of_ble_eq_true rfl | (simp only [Nat.zero_add]; omega) | omega)⟩) hS (fun r_822 w_820 H locs hq_821 hP hS => ?_)
    obtain ⟨hr8, hw8⟩ := hq_821
    subst hr8
    rw [hw8] at hP
    obtain ⟨sl_824, _, hc_823, -⟩ := id hrw3
    refine lv_iload_n hx hb de_K_probe_35 rfl (lv_at hl 2 rfl) ?_
    refine lv_iload_n hx hb de_K_probe_36 rfl (lv_at hl 3 rfl) ?_
    refine dk_callq (va_runV (As := [.int (nI k), .int (nI u)]) (rest := []) ⟨hx, hb, hml, hown, hts⟩ (c_R_latestOf l G w_811 r9 0 0 R.length R hrw3 k u hk0 hu0 hRk) (cwV 2 hts (wd_gV (C := "RunKeeper$Row") wi_630 wi_627 wi_628 wi_629 wi_2) rfl rfl rfl (by decide +kernel) ⟨Nat.le_of_ble_eq_true rfl, Nat.le_of_ble_eq_true rfl⟩) (dk_preV (kn_R, kt_R, 2) hE hP hS hc_823 rfl) rfl rfl hl.1 rfl (lv_room (Nat.le_of_ble_eq_true rfl)) de_K_probe_37 ⟨(by first | exact Nat.le_of_ble_eq_true rfl | (simp only [Nat.zero_add]; omega) | omega), (by first | exact Nat.le_of_ble_eq_true rfl | (simp only [Nat.zero_add]; omega) | omega)⟩) hS (fun r_827 w_825 H locs hq_826 hP hS => ?_)
    rw [hq_826.2] at hP
    exact dk_aret (r := r_827) hQ hx hb hr (Or.inl ⟨_, rfl⟩) hlocks hP hS (Nat.le_refl _) (Nat.le_refl _) (⟨hq_826.1, by rw [e7]; exact hk_818, ((kp_o hf_789)).tr (kp_o hf_817)⟩) de_K_probe_40
abbrev rm_K_lookInLevel : Room := { frames := 4, cells := 0, slots := 0, locals := 85 }
set_option maxHeartbeats 4000000 in
set_option maxRecDepth 100000 in
theorem c_K_lookInLevel (l : Launch) (G : dk_G) (w : dk_H) (h : Nat) (D : kp_D) (σ : kp_S) (hkp : kp_at G w h D σ) (i : Nat) (hi6 : i < 6) (k u : Nat) (hk0 : k < 2 ^ 31) (hu0 : u < 2 ^ 31) : dk_Mq l my_K_lookInLevel (wd_c my_K_lookInLevel mb_K_lookInLevel 7 (some (.object "RunKeeper$Entry"))) rm_K_lookInLevel G w [.ref h, .ref (D.le i), .int (nI k), .int (nI u)] (fun r w1 => en_q w1 r (lk_l k u (σ.lv i) (σ.lv i).length (σ.pr, σ.mi)).1 ∧ kp_at G w1 h D ((σ.pr' (lk_l k u (σ.lv i) (σ.lv i).length (σ.pr, σ.mi)).2.1).mi' (lk_l k u (σ.lv i) (σ.lv i).length (σ.pr, σ.mi)).2.2) ∧ dk_fr kp_T w w1) 0 0 := by
  have hl9 : (σ.lv i).length ≤ 600 := (hkp.v i hi6).2.choose_spec.choose_spec.2.2.2.1
  refine dk_enter (lv := [(0, .ref h), (1, .ref (D.le i)), (2, .int (nI k)), (3, .int (nI u))]) (by decide) (Nat.le_of_ble_eq_true rfl) rfl (fun p e s m args below meth c ls Q hQ C hP hS hl => ?_)
  obtain ⟨hx, hb, hr, hml, hlocks, hown, hnm, hts, hE⟩ := C
  have hK := hE.1
  have hN := hE.2.1
  have hh_828 : w h = some (1, .inr (cx_K, [.ref D.t, .ref D.a, .ref D.lv, .ref D.sn, .ref D.g, .ref D.k, .ref D.ne, .int (nI σ.sf), .int (bo_i σ.ib), .int (nI σ.sq), .int (nI σ.pr), .int (nI σ.mi)])) := hkp.o
  obtain ⟨al_829, _, hc_830, -⟩ := id (hkp.v i (by omega)).2
  refine lv_null hx hb de_K_lookInLevel_0 ?_
  refine lv_astoreN (lv' := [(4, .null), (0, .ref h), (1, .ref (D.le i)), (2, .int (nI k)), (3, .int (nI u))]) hx hb de_K_lookInLevel_1 hl (by decide) rfl (fun ls hl => ?_)
  refine lv_aload_n hx hb de_K_lookInLevel_3 rfl (lv_at hl 2 rfl) ?_
  refine dk_calli (va_runV (As := []) (rest := []) ⟨hx, hb, hml, hown, hts⟩ (c_V_runCount l G w (D.le i) (20 + 3 * i) (σ.lv i) (hkp.v i hi6).2) (cwV 0 hts (wd_gV (C := "RunKeeper$Level") wi_536 wi_533 wi_534 wi_535 wi_4) rfl rfl rfl (by decide +kernel) ⟨Nat.le_of_ble_eq_true rfl, Nat.le_of_ble_eq_true rfl⟩) (dk_preV (kn_V, kt_V, 2) hE hP hS hc_830 rfl) rfl rfl hl.1 rfl (lv_room (Nat.le_of_ble_eq_true rfl)) de_K_lookInLevel_4 ⟨(by first | exact Nat.le_of_ble_eq_true rfl | (simp only [Nat.zero_add]; omega) | omega), (by first | exact Nat.le_of_ble_eq_true rfl | (simp only [Nat.zero_add]; omega) | omega)⟩) hS (fun r_833 w_831 H locs hq_832 hP hS => ?_)
  obtain ⟨hr_834, he_835⟩ := hq_832
  subst hr_834
  rw [he_835] at hP
  refine lv_iconst (v := nI 1) hx hb de_K_lookInLevel_7 (by decide) ?_
  refine lv_isub hx hb de_K_lookInLevel_8 ?_
  refine lv_istore (lv' := [(5, .int (mI (σ.lv i).length)), (4, .null), (0, .ref h), (1, .ref (D.le i)), (2, .int (nI k)), (3, .int (nI u))]) hx hb de_K_lookInLevel_9 hl (by decide) rfl (fun ls hl => ?_)
  have lp : ∀ (zk : Nat) (n : Nat) (p9 : Nat) (m9 : Nat), n < zk → (n ≤ (σ.lv i).length) → (lk_l k u (σ.lv i) n (p9, m9) = (lk_l k u (σ.lv i) (σ.lv i).length (σ.pr, σ.mi))) → ∀ (H : Heap) (locs : List Loc) (v : dk_H), (kp_at G v h D ((σ.pr' p9).mi' m9)) → (dk_fr kp_T w v) → dk_P G v H → dk_S G s.heap H locs → ∀ (ls : Array Slot), lv_has ls 7 [(0, .ref h), (1, .ref (D.le i)), (2, .int (nI k)), (3, .int (nI u)), (4, .null), (5, .int (mI n))] → W p l e rm_K_lookInLevel s m args below meth c H locs (0 + 0) (0 + 0) Q (F0 m 11 ls []) := by
    intro zk
    induction zk with
    | zero =>
      intro n p9 m9 hk
      exact absurd hk (by omega)
    | succ zk ih =>
      intro n p9 m9 hk hn hres
      intro H locs v hkv hg hP hS
      intro ls hl
      have hh_836 : v h = some (1, .inr (cx_K, [.ref D.t, .ref D.a, .ref D.lv, .ref D.sn, .ref D.g, .ref D.k, .ref D.ne, .int (nI σ.sf), .int (bo_i σ.ib), .int (nI σ.sq), .int (nI p9), .int (nI m9)])) := hkv.o
      obtain ⟨al_837, _, hc_838, -⟩ := id (hkv.v i (by omega)).2
      refine lv_aloadN hx hb de_K_lookInLevel_11 (lv_at hl 4 rfl) ?_
      refine lv_ifnonnullN hx hb de_K_lookInLevel_13 ?_
      refine lv_iload hx hb de_K_lookInLevel_16 (lv_at hl 5 rfl) ?_
      refine lv_if_lt (tgt := 59) hx hb de_K_lookInLevel_18 (by decide) (fun c_840 => ?_) (fun c_840 => ?_)
      · have e9 : n = 0 := mI_0 (by omega) c_840
        subst e9
        have e8 : (lk_l k u (σ.lv i) (σ.lv i).length (σ.pr, σ.mi)) = (none, (p9, m9)) := hres.symm
        refine lv_aloadN hx hb de_K_lookInLevel_59 (lv_at hl 4 rfl) ?_
        exact dk_aret (r := none) hQ hx hb hr (Or.inl ⟨_, rfl⟩) hlocks hP hS (Nat.le_refl _) (Nat.le_refl _) (⟨by rw [e8]; rfl, by rw [e8]; exact hkv, hg⟩) de_K_lookInLevel_61
      · obtain ⟨j, hj⟩ := mI_p c_840
        subst hj
        rw [show mI (j + 1) = nI j from nI_s1 j] at hl
        obtain ⟨R, hR⟩ := ge_at (L := σ.lv i) (i := j) (by omega)
        refine lv_aload_n hx hb de_K_lookInLevel_21 rfl (lv_at hl 1 rfl) ?_
        refine lv_iload hx hb de_K_lookInLevel_22 (lv_at hl 5 rfl) ?_
        refine dk_callq (va_runV (As := [.int (nI j)]) (rest := []) ⟨hx, hb, hml, hown, hts⟩ (c_V_runAt l G v (D.le i) (20 + 3 * i) (σ.lv i) (hkv.v i hi6).2 (nI j)) (cwV 1 hts (wd_gV (C := "RunKeeper$Level") wi_638 wi_635 wi_636 wi_637 wi_4) rfl rfl rfl (by decide +kernel) ⟨Nat.le_of_ble_eq_true rfl, Nat.le_of_ble_eq_true rfl⟩) (dk_preV (kn_V, kt_V, 2) hE hP hS hc_838 rfl) rfl rfl hl.1 rfl (lv_room (Nat.le_of_ble_eq_true rfl)) de_K_lookInLevel_24 ⟨(by first | exact Nat.le_of_ble_eq_true rfl | (simp only [Nat.zero_add]; omega) | omega), (by first | exact Nat.le_of_ble_eq_true rfl | (simp only [Nat.zero_add]; omega) | omega)⟩) hS (fun r_843 w_841 H locs hq_842 hP hS => ?_)
        obtain ⟨a9, ha9, hrn⟩ := rn_in hq_842.1 (by omega) (by omega) hR
        rw [hq_842.2] at hP
        subst ha9
        obtain ⟨r9, fl9, f9, hac, -⟩ := id hrn
        refine lv_astore (lv' := [(6, .ref a9), (0, .ref h), (1, .ref (D.le i)), (2, .int (nI k)), (3, .int (nI u)), (4, .null), (5, .int (nI j))]) hx hb de_K_lookInLevel_27 hl (by decide) rfl (fun ls hl => ?_)
        refine lv_aload hx hb de_K_lookInLevel_29 (lv_at hl 0 rfl) ?_
        refine lv_ifnull hx hb de_K_lookInLevel_31 ?_
        refine lv_aload hx hb de_K_lookInLevel_34 (lv_at hl 0 rfl) ?_
        refine lv_iload_n hx hb de_K_lookInLevel_36 rfl (lv_at hl 3 rfl) ?_
        refine dk_calli (va_runV (As := [.int (nI k)]) (rest := []) ⟨hx, hb, hml, hown, hts⟩ (c_U_mayHave l G v a9 k R hrn hk0) (cwV 1 hts (wd_gV (C := "RunKeeper$Run") wi_642 wi_639 wi_640 wi_641 wi_15) rfl rfl rfl (by decide +kernel) ⟨Nat.le_of_ble_eq_true rfl, Nat.le_of_ble_eq_true rfl⟩) (dk_preV (kn_U, kt_U, 2) hE hP hS hac rfl) rfl rfl hl.1 rfl (lv_room (Nat.le_of_ble_eq_true rfl)) de_K_lookInLevel_37 ⟨(by first | exact Nat.le_of_ble_eq_true rfl | (simp only [Nat.zero_add]; omega) | omega), (by first | exact Nat.le_of_ble_eq_true rfl | (simp only [Nat.zero_add]; omega) | omega)⟩) hS (fun r_847 w_845 H locs hq_846 hP hS => ?_)
        obtain ⟨hr_848, he_849⟩ := hq_846
        subst hr_848
        rw [he_849] at hP
        refine bo_if_eq (b := (rn_m R k)) (tgt := 53) hx hb de_K_lookInLevel_40 (by decide) (fun c_850 => ?_) (fun c_850 => ?_)
        · refine lv_iinc (v := mI j) (lv' := [(5, .int (mI j)), (6, .ref a9), (0, .ref h), (1, .ref (D.le i)), (2, .int (nI k)), (3, .int (nI u)), (4, .null)]) hx hb de_K_lookInLevel_53 hl (k := 6) rfl (nI_p1 j) (by decide) rfl (fun ls hl => ?_)
          refine lv_goto (tgt := 11) hx hb de_K_lookInLevel_56 (by decide) ?_
          exact ih j p9 m9 (by omega) (by omega) (by rw [← hres, lk_no hR c_850]) _ _ _ hkv hg hP hS _ (lv_sub hl [2, 3, 4, 5, 6, 0] rfl)
        · refine lv_aload_n hx hb de_K_lookInLevel_43 rfl (lv_at hl 1 rfl) ?_
          refine lv_aload hx hb de_K_lookInLevel_44 (lv_at hl 0 rfl) ?_
          refine lv_iload_n hx hb de_K_lookInLevel_46 rfl (lv_at hl 3 rfl) ?_
          refine lv_iload_n hx hb de_K_lookInLevel_47 rfl (lv_at hl 4 rfl) ?_
          refine dk_callq (va_runV (As := [.ref a9, .int (nI k), .int (nI u)]) (rest := []) ⟨hx, hb, hml, hown, hts⟩ (c_K_probe l G v h D _ hkv a9 R hrn k u hk0 hu0) (cwV 3 hts (wd_gV (C := "RunKeeper") wi_650 wi_647 wi_649 (wd_p (q := (⟨"RunKeeper", "probe", "(LRunKeeper$Run;II)LRunKeeper$Entry;"⟩, 12)) (by decide +kernel) (by decide +kernel)) wi_1) rfl rfl rfl (by decide +kernel) ⟨Nat.le_of_ble_eq_true rfl, Nat.le_of_ble_eq_true rfl⟩) (dk_preV (kn_K, kt_K, 12) hE hP hS hh_836 rfl) rfl rfl hl.1 rfl (lv_room (Nat.le_of_ble_eq_true rfl)) de_K_lookInLevel_48 ⟨(by first | exact Nat.le_of_ble_eq_true rfl | (simp only [Nat.zero_add]; omega) | omega), (by first | exact Nat.le_of_ble_eq_true rfl | (simp only [Nat.zero_add]; omega) | omega)⟩) hS (fun r_853 w_851 H locs hq_852 hP hS => ?_)
          obtain ⟨hq1, hq2, hq3⟩ := hq_852
          rcases en_qc hq1 with ⟨hr9, hn9⟩ | ⟨a8, x8, hr9, hn9, ha8⟩
          · subst hr9
            refine lv_astoreN (lv' := [(4, .null), (6, .ref a9), (0, .ref h), (1, .ref (D.le i)), (2, .int (nI k)), (3, .int (nI u)), (5, .int (nI j))]) hx hb de_K_lookInLevel_51 hl (by decide) rfl (fun ls hl => ?_)
            refine lv_iinc (v := mI j) (lv' := [(5, .int (mI j)), (4, .null), (6, .ref a9), (0, .ref h), (1, .ref (D.le i)), (2, .int (nI k)), (3, .int (nI u))]) hx hb de_K_lookInLevel_53 hl (k := 6) rfl (nI_p1 j) (by decide) rfl (fun ls hl => ?_)
            refine lv_goto (tgt := 11) hx hb de_K_lookInLevel_56 (by decide) ?_
            exact ih j ((pb_q k R (p9, m9)).1) ((pb_q k R (p9, m9)).2) (by omega) (by omega) (by rw [← hres, lk_0 hR c_850 hn9]) _ _ _ hq2 (hg.tr hq3) hP hS _ (lv_sub hl [3, 4, 5, 6, 1, 0] rfl)
          · subst hr9
            refine lv_astore (lv' := [(4, .ref a8), (6, .ref a9), (0, .ref h), (1, .ref (D.le i)), (2, .int (nI k)), (3, .int (nI u)), (5, .int (nI j))]) hx hb de_K_lookInLevel_51 hl (by decide) rfl (fun ls hl => ?_)
            refine lv_iinc (v := mI j) (lv' := [(5, .int (mI j)), (4, .ref a8), (6, .ref a9), (0, .ref h), (1, .ref (D.le i)), (2, .int (nI k)), (3, .int (nI u))]) hx hb de_K_lookInLevel_53 hl (k := 6) rfl (nI_p1 j) (by decide) rfl (fun ls hl => ?_)
            refine lv_goto (tgt := 11) hx hb de_K_lookInLevel_56 (by decide) ?_
            refine lv_aload hx hb de_K_lookInLevel_11 (lv_at hl 1 rfl) ?_
            refine lv_ifnonnull (tgt := 59) hx hb de_K_lookInLevel_13 (by decide) ?_
            have e8 : (lk_l k u (σ.lv i) (σ.lv i).length (σ.pr, σ.mi)) = (some x8, (pb_q k R (p9, m9))) := by rw [← hres, lk_1 hR c_850 hn9]
            refine lv_aload hx hb de_K_lookInLevel_59 (lv_at hl 1 rfl) ?_
            exact dk_aret (r := some a8) hQ hx hb hr (Or.inl ⟨_, rfl⟩) hlocks hP hS (Nat.le_refl _) (Nat.le_refl _) (⟨by rw [e8]; exact ⟨a8, rfl, ha8⟩, by rw [e8]; exact hq2, hg.tr hq3⟩) de_K_lookInLevel_61
  exact lp ((σ.lv i).length + 1) ((σ.lv i).length) σ.pr σ.mi (by omega) (Nat.le_refl _) rfl _ _ _ hkp dk_fr.rf hP hS _ (lv_sub hl [2, 3, 4, 5, 1, 0] rfl)
abbrev rm_K_look : Room := { frames := 5, cells := 0, slots := 0, locals := 111 }
set_option maxHeartbeats 4000000 in
set_option maxRecDepth 100000 in
theorem c_K_look (l : Launch) (G : dk_G) (w : dk_H) (h : Nat) (D : kp_D) (σ : kp_S) (hkp : kp_at G w h D σ) (k u : Nat) (hk0 : k < 2 ^ 31) (hu0 : u < 2 ^ 31) : dk_Mq l my_K_look (wd_c my_K_look mb_K_look 5 (some (.object "RunKeeper$Entry"))) rm_K_look G w [.ref h, .int (nI k), .int (nI u)] (fun r w1 => en_q w1 r (lk_K σ k u).1 ∧ kp_at G w1 h D ((σ.pr' (lk_K σ k u).2.1).mi' (lk_K σ k u).2.2) ∧ dk_fr kp_T w w1) 0 0 := by
  refine dk_enter (lv := [(0, .ref h), (1, .int (nI k)), (2, .int (nI u))]) (by decide) (Nat.le_of_ble_eq_true rfl) rfl (fun p e s m args below meth c ls Q hQ C hP hS hl => ?_)
  obtain ⟨hx, hb, hr, hml, hlocks, hown, hnm, hts, hE⟩ := C
  have hK := hE.1
  have hN := hE.2.1
  have hh_855 : w h = some (1, .inr (cx_K, [.ref D.t, .ref D.a, .ref D.lv, .ref D.sn, .ref D.g, .ref D.k, .ref D.ne, .int (nI σ.sf), .int (bo_i σ.ib), .int (nI σ.sq), .int (nI σ.pr), .int (nI σ.mi)])) := hkp.o
  refine lv_aload_n hx hb de_K_look_0 rfl (lv_at hl 0 rfl) ?_
  refine lv_iconst (v := nI 0) hx hb de_K_look_1 (by decide) ?_
  refine dk_put (a := h) (v := .int (nI 0)) (ty := .int) (C := kn_K) (T := kt_K) (N := 12) hx hb hts ki_K ky_K kk_K kd_K hown hK hP hS hh_855 rfl 10 (by decide) (hts _ wi_113) (fun _ h9 => h9) rfl (by decide +kernel) rfl rfl (Nat.le_of_ble_eq_true rfl) de_K_look_2 (fun H locs w_856 hw_857 hP hS => ?_)
  have h_858 : w_856 h = some (1, .inr (cx_K, [.ref D.t, .ref D.a, .ref D.lv, .ref D.sn, .ref D.g, .ref D.k, .ref D.ne, .int (nI σ.sf), .int (bo_i σ.ib), .int (nI σ.sq), .int (nI 0), .int (nI σ.mi)])) := dk_here hw_857
  have h_859 : w_856 D.lv = some (11, dk_ca G 4 6 D.lf) := dk_keep hw_857 hh_855 hkp.l (by decide)
  refine lv_aload_n hx hb de_K_look_5 rfl (lv_at hl 0 rfl) ?_
  refine lv_iconst (v := nI 0) hx hb de_K_look_6 (by decide) ?_
  refine dk_put (a := h) (v := .int (nI 0)) (ty := .int) (C := kn_K) (T := kt_K) (N := 12) hx hb hts ki_K ky_K kk_K kd_K hown hK hP hS h_858 rfl 11 (by decide) (hts _ wi_114) (fun _ h9 => h9) rfl (by decide +kernel) rfl rfl (Nat.le_of_ble_eq_true rfl) de_K_look_7 (fun H locs w_860 hw_861 hP hS => ?_)
  have h_862 : w_860 h = some (1, .inr (cx_K, [.ref D.t, .ref D.a, .ref D.lv, .ref D.sn, .ref D.g, .ref D.k, .ref D.ne, .int (nI σ.sf), .int (bo_i σ.ib), .int (nI σ.sq), .int (nI 0), .int (nI 0)])) := dk_here hw_861
  have h_863 : w_860 D.lv = some (11, dk_ca G 4 6 D.lf) := dk_keep hw_861 h_858 h_859 (by decide)
  have hf_864 : dk_fr (fun t => t = 1) w w_860 := (((dk_fr.up (T := fun t => t = 1) hh_855 rfl).eq hw_857)).tr ((dk_fr.up (T := fun t => t = 1) h_858 rfl).eq hw_861)
  have hk_865 : kp_at G w_860 h D ((σ.pr' (0)).mi' (0)) := hkp.ofo hf_864 h_862 rfl rfl rfl rfl rfl rfl rfl
  have hh_866 : w_860 h = some (1, .inr (cx_K, [.ref D.t, .ref D.a, .ref D.lv, .ref D.sn, .ref D.g, .ref D.k, .ref D.ne, .int (nI σ.sf), .int (bo_i σ.ib), .int (nI σ.sq), .int (nI 0), .int (nI 0)])) := hk_865.o
  obtain ⟨sl_867, _, hc_868, -⟩ := id hk_865.t
  refine lv_aload_n hx hb de_K_look_10 rfl (lv_at hl 0 rfl) ?_
  refine dk_get (a := h) (v := .ref D.t) (C := kn_K) (T := kt_K) (N := 12) hx hb hts ki_K hown hK hP hh_866 rfl 0 (by decide) (hts _ wi_103) (fun _ h9 => h9) rfl de_K_look_11 ?_
  refine lv_iload_n hx hb de_K_look_14 rfl (lv_at hl 1 rfl) ?_
  refine lv_iload_n hx hb de_K_look_15 rfl (lv_at hl 2 rfl) ?_
  refine dk_callq (va_runV (As := [.int (nI k), .int (nI u)]) (rest := []) ⟨hx, hb, hml, hown, hts⟩ (c_R_latestOf l G w_860 D.t 2 3 40 σ.tb hk_865.t k u hk0 hu0 hkp.tk) (cwV 2 hts (wd_gV (C := "RunKeeper$Row") wi_630 wi_627 wi_628 wi_629 wi_2) rfl rfl rfl (by decide +kernel) ⟨Nat.le_of_ble_eq_true rfl, Nat.le_of_ble_eq_true rfl⟩) (dk_preV (kn_R, kt_R, 2) hE hP hS hc_868 rfl) rfl rfl hl.1 rfl (lv_room (Nat.le_of_ble_eq_true rfl)) de_K_look_16 ⟨(by first | exact Nat.le_of_ble_eq_true rfl | (simp only [Nat.zero_add]; omega) | omega), (by first | exact Nat.le_of_ble_eq_true rfl | (simp only [Nat.zero_add]; omega) | omega)⟩) hS (fun r_871 w_869 H locs hq_870 hP hS => ?_)
  obtain ⟨hq1, hq2⟩ := hq_870
  rw [hq2] at hP
  rcases en_qc hq1 with ⟨hr9, hn9⟩ | ⟨a8, x8, hr9, hn9, ha8⟩
  · subst hr9
    have e8 : (lk_K σ k u) = lk_v k u σ.lv 6 (0, 0) := by rw [lk_K, hn9]
    refine lv_astore_nN (lv' := [(3, .null), (0, .ref h), (1, .int (nI k)), (2, .int (nI u))]) hx hb de_K_look_19 rfl hl (by decide) rfl (fun ls hl => ?_)
    refine lv_iconst (v := nI 0) hx hb de_K_look_20 (by decide) ?_
    refine lv_istore (lv' := [(4, .int (nI 0)), (3, .null), (0, .ref h), (1, .int (nI k)), (2, .int (nI u))]) hx hb de_K_look_21 hl (by decide) rfl (fun ls hl => ?_)
    have lp : ∀ (zk : Nat) (i : Nat) (p9 : Nat) (m9 : Nat), 6 - i < zk → (i ≤ 6) → (lk_v k u σ.lv (6 - i) (p9, m9) = (lk_K σ k u)) → ∀ (H : Heap) (locs : List Loc) (v : dk_H), (kp_at G v h D ((σ.pr' p9).mi' m9)) → (dk_fr kp_T w v) → dk_P G v H → dk_S G s.heap H locs → ∀ (ls : Array Slot), lv_has ls 5 [(0, .ref h), (1, .int (nI k)), (2, .int (nI u)), (3, .null), (4, .int (nI i))] → W p l e rm_K_look s m args below meth c H locs (0 + 0) (0 + 0) Q (F0 m 23 ls []) := by
      intro zk
      induction zk with
      | zero =>
        intro i p9 m9 hk
        exact absurd hk (by omega)
      | succ zk ih =>
        intro i p9 m9 hk hi hres
        intro H locs v hkv hg hP hS
        intro ls hl
        have hh_873 : v h = some (1, .inr (cx_K, [.ref D.t, .ref D.a, .ref D.lv, .ref D.sn, .ref D.g, .ref D.k, .ref D.ne, .int (nI σ.sf), .int (bo_i σ.ib), .int (nI σ.sq), .int (nI p9), .int (nI m9)])) := hkv.o
        refine lv_aload_nN hx hb de_K_look_23 rfl (lv_at hl 3 rfl) ?_
        refine lv_ifnonnullN hx hb de_K_look_24 ?_
        refine lv_iload hx hb de_K_look_27 (lv_at hl 4 rfl) ?_
        refine lv_bipush (v := nI 6) hx hb de_K_look_29 (by decide) ?_
        refine nx_icmp_ge (a := i) (b := 6) (tgt := 54) hx hb (by omega) (by omega) de_K_look_31 (by decide) (fun c_875 => ?_) (fun c_875 => ?_)
        · have e9 : i = 6 := by omega
          subst e9
          have e7 : (lk_K σ k u) = (none, (p9, m9)) := hres.symm
          refine lv_aload_nN hx hb de_K_look_54 rfl (lv_at hl 3 rfl) ?_
          exact dk_aret (r := none) hQ hx hb hr (Or.inl ⟨_, rfl⟩) hlocks hP hS (Nat.le_refl _) (Nat.le_refl _) (⟨by rw [e7]; rfl, by rw [e7]; exact hkv, hg⟩) de_K_look_55
        · refine lv_aload_n hx hb de_K_look_34 rfl (lv_at hl 0 rfl) ?_
          refine lv_aload_n hx hb de_K_look_35 rfl (lv_at hl 0 rfl) ?_
          refine dk_get (a := h) (v := .ref D.lv) (C := kn_K) (T := kt_K) (N := 12) hx hb hts ki_K hown hK hP hh_873 rfl 2 (by decide) (hts _ wi_105) (fun _ h9 => h9) rfl de_K_look_36 ?_
          refine lv_iload hx hb de_K_look_39 (lv_at hl 4 rfl) ?_
          refine dk_aald (a := D.lv) (r := some (D.le i)) (C := dk_nL) hx hb hK hP hkv.l rfl i rfl (by omega) (by omega) ((hkv.v i (by omega)).1) de_K_look_41 ?_
          obtain ⟨al_876, _, hc_877, -⟩ := id (hkv.v i (by omega)).2
          refine lv_iload_n hx hb de_K_look_42 rfl (lv_at hl 1 rfl) ?_
          refine lv_iload_n hx hb de_K_look_43 rfl (lv_at hl 2 rfl) ?_
          refine dk_callq (va_runV (As := [.ref (D.le i), .int (nI k), .int (nI u)]) (rest := []) ⟨hx, hb, hml, hown, hts⟩ (c_K_lookInLevel l G v h D _ hkv i (by omega) k u hk0 hu0) (cwV 3 hts (wd_gV (C := "RunKeeper") wi_634 wi_631 wi_633 (wd_p (q := (⟨"RunKeeper", "lookInLevel", "(LRunKeeper$Level;II)LRunKeeper$Entry;"⟩, 12)) (by decide +kernel) (by decide +kernel)) wi_1) rfl rfl rfl (by decide +kernel) ⟨Nat.le_of_ble_eq_true rfl, Nat.le_of_ble_eq_true rfl⟩) (dk_preV (kn_K, kt_K, 12) hE hP hS hh_873 rfl) rfl rfl hl.1 rfl (lv_room (Nat.le_of_ble_eq_true rfl)) de_K_look_44 ⟨(by first | exact Nat.le_of_ble_eq_true rfl | (simp only [Nat.zero_add]; omega) | omega), (by first | exact Nat.le_of_ble_eq_true rfl | (simp only [Nat.zero_add]; omega) | omega)⟩) hS (fun r_880 w_878 H locs hq_879 hP hS => ?_)
          obtain ⟨hq1, hq2, hq3⟩ := hq_879
          rcases en_qc hq1 with ⟨hr9, hn9⟩ | ⟨a8, x8, hr9, hn9, ha8⟩
          · subst hr9
            refine lv_astore_nN (lv' := [(3, .null), (0, .ref h), (1, .int (nI k)), (2, .int (nI u)), (4, .int (nI i))]) hx hb de_K_look_47 rfl hl (by decide) rfl (fun ls hl => ?_)
            refine lv_iinc (v := nI (i + 1)) (lv' := [(4, .int (nI (i + 1))), (3, .null), (0, .ref h), (1, .int (nI k)), (2, .int (nI u))]) hx hb de_K_look_48 hl (k := 4) rfl (nx_inc i) (by decide) rfl (fun ls hl => ?_)
            refine lv_goto (tgt := 23) hx hb de_K_look_51 (by decide) ?_
            exact ih (i + 1) ((lk_l k u (σ.lv i) (σ.lv i).length (p9, m9)).2.1) ((lk_l k u (σ.lv i) (σ.lv i).length (p9, m9)).2.2) (by omega) (by omega) (by rw [← hres, lk_v0 (by omega) hn9]) _ _ _ hq2 (hg.tr hq3) hP hS _ (lv_sub hl [2, 3, 4, 1, 0] rfl)
          · subst hr9
            refine lv_astore_n (lv' := [(3, .ref a8), (0, .ref h), (1, .int (nI k)), (2, .int (nI u)), (4, .int (nI i))]) hx hb de_K_look_47 rfl hl (by decide) rfl (fun ls hl => ?_)
            refine lv_iinc (v := nI (i + 1)) (lv' := [(4, .int (nI (i + 1))), (3, .ref a8), (0, .ref h), (1, .int (nI k)), (2, .int (nI u))]) hx hb de_K_look_48 hl (k := 4) rfl (nx_inc i) (by decide) rfl (fun ls hl => ?_)
            refine lv_goto (tgt := 23) hx hb de_K_look_51 (by decide) ?_
            refine lv_aload_n hx hb de_K_look_23 rfl (lv_at hl 1 rfl) ?_
            refine lv_ifnonnull (tgt := 54) hx hb de_K_look_24 (by decide) ?_
            have e7 : (lk_K σ k u) = (some x8, (lk_l k u (σ.lv i) (σ.lv i).length (p9, m9)).2) := by rw [← hres, lk_v1 (by omega) hn9]
            refine lv_aload_n hx hb de_K_look_54 rfl (lv_at hl 1 rfl) ?_
            exact dk_aret (r := some a8) hQ hx hb hr (Or.inl ⟨_, rfl⟩) hlocks hP hS (Nat.le_refl _) (Nat.le_refl _) (⟨by rw [e7]; exact ⟨a8, rfl, ha8⟩, by rw [e7]; exact hq2, hg.tr hq3⟩) de_K_look_55
    exact lp 7 0 0 0 (by omega) (by omega) e8.symm _ _ _ hk_865 (kp_o hf_864) hP hS _ (lv_sub hl [2, 3, 4, 1, 0] rfl)
  · subst hr9
    refine lv_astore_n (lv' := [(3, .ref a8), (0, .ref h), (1, .int (nI k)), (2, .int (nI u))]) hx hb de_K_look_19 rfl hl (by decide) rfl (fun ls hl => ?_)
    refine lv_iconst (v := nI 0) hx hb de_K_look_20 (by decide) ?_
    refine lv_istore (lv' := [(4, .int (nI 0)), (3, .ref a8), (0, .ref h), (1, .int (nI k)), (2, .int (nI u))]) hx hb de_K_look_21 hl (by decide) rfl (fun ls hl => ?_)
    refine lv_aload_n hx hb de_K_look_23 rfl (lv_at hl 1 rfl) ?_
    refine lv_ifnonnull (tgt := 54) hx hb de_K_look_24 (by decide) ?_
    have e8 : (lk_K σ k u) = (some x8, (0, 0)) := by rw [lk_K, hn9]
    refine lv_aload_n hx hb de_K_look_54 rfl (lv_at hl 1 rfl) ?_
    exact dk_aret (r := some a8) hQ hx hb hr (Or.inl ⟨_, rfl⟩) hlocks hP hS (Nat.le_refl _) (Nat.le_refl _) (⟨by rw [e8]; exact ⟨a8, rfl, ha8⟩, by rw [e8]; exact hk_865, (kp_o hf_864)⟩) de_K_look_55
abbrev rm_K_sequenceOf : Room := { frames := 2, cells := 0, slots := 0, locals := 42 }
set_option maxHeartbeats 4000000 in
set_option maxRecDepth 100000 in
theorem c_K_sequenceOf (l : Launch) (G : dk_G) (w : dk_H) (h : Nat) (D : kp_D) (σ : kp_S) (hkp : kp_at G w h D σ) (k : Int32) (u : Nat) (hv : vw_u σ k = some u) : dk_Mi l my_K_sequenceOf (wd_c my_K_sequenceOf mb_K_sequenceOf 2 (some .int)) rm_K_sequenceOf G w [.ref h, .int k] (fun r w1 => r = nI u ∧ w1 = w) 0 0 := by
  refine dk_enter (lv := [(0, .ref h), (1, .int k)]) (by decide) (Nat.le_of_ble_eq_true rfl) rfl (fun p e s m args below meth c ls Q hQ C hP hS hl => ?_)
  obtain ⟨hx, hb, hr, hml, hlocks, hown, hnm, hts, hE⟩ := C
  have hK := hE.1
  have hN := hE.2.1
  have hh_882 : w h = some (1, .inr (cx_K, [.ref D.t, .ref D.a, .ref D.lv, .ref D.sn, .ref D.g, .ref D.k, .ref D.ne, .int (nI σ.sf), .int (bo_i σ.ib), .int (nI σ.sq), .int (nI σ.pr), .int (nI σ.mi)])) := hkp.o
  refine lv_iload_n hx hb de_K_sequenceOf_0 rfl (lv_at hl 1 rfl) ?_
  refine lv_iconst (v := (-1)) hx hb de_K_sequenceOf_1 (by decide) ?_
  refine lv_icmp_ne (tgt := 12) hx hb de_K_sequenceOf_2 (by decide) (fun c_883 => ?_) (fun c_883 => ?_)
  · rw [vw_u, if_neg c_883] at hv
    obtain ⟨j, hj6, rfl, hsj⟩ := sn_gs hv
    obtain ⟨a_884, a_885, _, _, hc_886, -⟩ := id hkp.s
    refine lv_aload_n hx hb de_K_sequenceOf_12 rfl (lv_at hl 0 rfl) ?_
    refine dk_get (a := h) (v := .ref D.sn) (C := kn_K) (T := kt_K) (N := 12) hx hb hts ki_K hown hK hP hh_882 rfl 3 (by decide) (hts _ wi_106) (fun _ h9 => h9) rfl de_K_sequenceOf_13 ?_
    refine lv_iload_n hx hb de_K_sequenceOf_16 rfl (lv_at hl 1 rfl) ?_
    refine dk_calli (va_runV (As := [.int (nI j)]) (rest := []) ⟨hx, hb, hml, hown, hts⟩ (c_S_sequenceAt l G w D.sn σ.sn hkp.s j u hj6 hsj) (cwV 1 hts (wd_gV (C := "RunKeeper$Snapshots") wi_622 wi_619 wi_620 wi_621 wi_3) rfl rfl rfl (by decide +kernel) ⟨Nat.le_of_ble_eq_true rfl, Nat.le_of_ble_eq_true rfl⟩) (dk_preV (kn_S, kt_S, 2) hE hP hS hc_886 rfl) rfl rfl hl.1 rfl (lv_room (Nat.le_of_ble_eq_true rfl)) de_K_sequenceOf_17 ⟨(by first | exact Nat.le_of_ble_eq_true rfl | (simp only [Nat.zero_add]; omega) | omega), (by first | exact Nat.le_of_ble_eq_true rfl | (simp only [Nat.zero_add]; omega) | omega)⟩) hS (fun r_889 w_887 H locs hq_888 hP hS => ?_)
    obtain ⟨hr_890, he_891⟩ := hq_888
    subst hr_890
    rw [he_891] at hP
    exact dk_iret hQ hx hb hr hlocks hP hS (Nat.le_refl _) (Nat.le_refl _) (⟨rfl, rfl⟩) de_K_sequenceOf_20
  · rw [vw_u, if_pos (by simpa using c_883)] at hv
    refine lv_aload_n hx hb de_K_sequenceOf_5 rfl (lv_at hl 0 rfl) ?_
    refine dk_get (a := h) (v := .int (nI σ.sq)) (C := kn_K) (T := kt_K) (N := 12) hx hb hts ki_K hown hK hP hh_882 rfl 9 (by decide) (hts _ wi_112) (fun _ h9 => h9) rfl de_K_sequenceOf_6 ?_
    refine lv_goto (tgt := 20) hx hb de_K_sequenceOf_9 (by decide) ?_
    exact dk_iret hQ hx hb hr hlocks hP hS (Nat.le_refl _) (Nat.le_refl _) (⟨by rw [Option.some.inj hv], rfl⟩) de_K_sequenceOf_20
abbrev rm_K_noteIfNewest : Room := { frames := 1, cells := 0, slots := 0, locals := 20 }
set_option maxHeartbeats 4000000 in
set_option maxRecDepth 100000 in
theorem c_K_noteIfNewest (l : Launch) (G : dk_G) (w : dk_H) (h : Nat) (D : kp_D) (σ : kp_S) (hkp : kp_at G w h D σ) (a : Nat) (x : en_T) (ha : en_at w a x) (hx0 : en_ok x) (u : Nat) (hu0 : u < 2 ^ 31) (hno : ∀ y, σ.nw x.1 = some y → en_ok y) : dk_Mv l my_K_noteIfNewest (wd_c my_K_noteIfNewest mb_K_noteIfNewest 4 none) rm_K_noteIfNewest G w [.ref h, .ref a, .int (nI u)] (fun w1 => kp_at G w1 h D (σ.nw' (nn_f u σ.nw x)) ∧ dk_fr kp_T w w1) 0 0 := by
  have hx1 := hx0.1
  have hx2 := hx0.2
  obtain ⟨nf, hnf, hne⟩ := id hkp.n
  refine dk_enter (lv := [(0, .ref h), (1, .ref a), (2, .int (nI u))]) (by decide) (Nat.le_of_ble_eq_true rfl) rfl (fun p e s m args below meth c ls Q hQ C hP hS hl => ?_)
  obtain ⟨hx, hb, hr, hml, hlocks, hown, hnm, hts, hE⟩ := C
  have hK := hE.1
  have hN := hE.2.1
  have hh_892 : w h = some (1, .inr (cx_K, [.ref D.t, .ref D.a, .ref D.lv, .ref D.sn, .ref D.g, .ref D.k, .ref D.ne, .int (nI σ.sf), .int (bo_i σ.ib), .int (nI σ.sq), .int (nI σ.pr), .int (nI σ.mi)])) := hkp.o
  refine lv_aload_n hx hb de_K_noteIfNewest_0 rfl (lv_at hl 1 rfl) ?_
  refine lv_ifnull hx hb de_K_noteIfNewest_1 ?_
  refine lv_aload_n hx hb de_K_noteIfNewest_4 rfl (lv_at hl 1 rfl) ?_
  refine dk_getN (a := a) (v := .int (nI x.2.1)) (C := kn_E) (T := kt_E) (N := 4) (host := "RunKeeper") hx hb hts ki_E hown hK hP ha rfl 1 (by decide) (hN.use (dn_m 450 (by decide +kernel) rfl)) (fun _ h9 => h9) rfl de_K_noteIfNewest_5 ?_
  refine lv_iload_n hx hb de_K_noteIfNewest_8 rfl (lv_at hl 2 rfl) ?_
  refine nx_icmp_gt (a := x.2.1) (b := u) (tgt := 22) hx hb (by omega) (by omega) de_K_noteIfNewest_9 (by decide) (fun c_894 => ?_) (fun c_894 => ?_)
  · exact dk_vret hQ hx hb hr hlocks hP hS (Nat.le_refl _) (Nat.le_refl _) (⟨by rw [nn_f, if_neg (fun z => absurd z.1 (by omega))]; exact hkp, dk_fr.rf⟩) de_K_noteIfNewest_22
  · refine lv_aload_n hx hb de_K_noteIfNewest_12 rfl (lv_at hl 1 rfl) ?_
    refine dk_getN (a := a) (v := .int (nI x.1)) (C := kn_E) (T := kt_E) (N := 4) (host := "RunKeeper") hx hb hts ki_E hown hK hP ha rfl 0 (by decide) (hN.use (dn_m 447 (by decide +kernel) rfl)) (fun _ h9 => h9) rfl de_K_noteIfNewest_13 ?_
    refine dk_calli (va_runS (As := [.int (nI x.1)]) (rest := []) ⟨hx, hb, hml, hown, hts⟩ (c_K_isKey l G w (nI x.1)) (va_cwS 1 hts (wd_gS wi_341 wi_339 wi_340 wi_1) rfl rfl rfl (by decide +kernel) ⟨Nat.le_of_ble_eq_true rfl, Nat.le_of_ble_eq_true rfl⟩) (dk_preS hE hP hS) rfl rfl hl.1 rfl (lv_room (Nat.le_of_ble_eq_true rfl)) de_K_noteIfNewest_16 ⟨(by first | exact Nat.le_of_ble_eq_true rfl | (simp only [Nat.zero_add]; omega) | omega), (by first | exact Nat.le_of_ble_eq_true rfl | (simp only [Nat.zero_add]; omega) | omega)⟩) hS (fun r_897 w_895 H locs hq_896 hP hS => ?_)
    rw [in_nat (by omega) (by decide)] at hq_896
    obtain ⟨hr_898, he_899⟩ := hq_896
    subst hr_898
    rw [he_899] at hP
    refine bo_if_ne (b := (decide (x.1 < 1024))) (tgt := 23) hx hb de_K_noteIfNewest_19 (by decide) (fun c_900 => ?_) (fun c_900 => ?_)
    · refine lv_aload_n hx hb de_K_noteIfNewest_23 rfl (lv_at hl 0 rfl) ?_
      refine dk_get (a := h) (v := .ref D.ne) (C := kn_K) (T := kt_K) (N := 12) hx hb hts ki_K hown hK hP hh_892 rfl 6 (by decide) (hts _ wi_109) (fun _ h9 => h9) rfl de_K_noteIfNewest_24 ?_
      refine lv_aload_n hx hb de_K_noteIfNewest_27 rfl (lv_at hl 1 rfl) ?_
      refine dk_getN (a := a) (v := .int (nI x.1)) (C := kn_E) (T := kt_E) (N := 4) (host := "RunKeeper") hx hb hts ki_E hown hK hP ha rfl 0 (by decide) (hN.use (dn_m 447 (by decide +kernel) rfl)) (fun _ h9 => h9) rfl de_K_noteIfNewest_28 ?_
      have hq := hne x.1 hx1
      rcases en_qc hq with ⟨hr9, hn9⟩ | ⟨b9, y9, hr9, hn9, hb9⟩
      · refine dk_aald (a := D.ne) (r := none) (C := dk_nE) hx hb hK hP hnf rfl x.1 rfl (by omega) (by omega) hr9 de_K_noteIfNewest_31 ?_
        refine lv_astore_nN (lv' := [(3, .null), (0, .ref h), (1, .ref a), (2, .int (nI u))]) hx hb de_K_noteIfNewest_32 rfl hl (by decide) rfl (fun ls hl => ?_)
        refine lv_aload_nN hx hb de_K_noteIfNewest_33 rfl (lv_at hl 0 rfl) ?_
        refine lv_ifnullN (tgt := 48) hx hb de_K_noteIfNewest_34 (by decide) ?_
        refine lv_aload_n hx hb de_K_noteIfNewest_48 rfl (lv_at hl 1 rfl) ?_
        refine dk_get (a := h) (v := .ref D.ne) (C := kn_K) (T := kt_K) (N := 12) hx hb hts ki_K hown hK hP hh_892 rfl 6 (by decide) (hts _ wi_109) (fun _ h9 => h9) rfl de_K_noteIfNewest_49 ?_
        refine lv_aload_n hx hb de_K_noteIfNewest_52 rfl (lv_at hl 2 rfl) ?_
        refine dk_getN (a := a) (v := .int (nI x.1)) (C := kn_E) (T := kt_E) (N := 4) (host := "RunKeeper") hx hb hts ki_E hown hK hP ha rfl 0 (by decide) (hN.use (dn_m 447 (by decide +kernel) rfl)) (fun _ h9 => h9) rfl de_K_noteIfNewest_53 ?_
        refine lv_aload_n hx hb de_K_noteIfNewest_56 rfl (lv_at hl 2 rfl) ?_
        refine dk_aast (a := D.ne) (v := a) (r := (kn_E, kt_E, 4)) hx hb hK hP hS hnf rfl ha rfl x.1 rfl (by omega) (by omega) de_K_noteIfNewest_57 (fun H locs w_902 hw_903 hP hS => ?_)
        have h_904 : w_902 D.ne = some (10, dk_ca G 3 1024 (va_up nf x.1 (some a))) := dk_here hw_903
        have h_905 : w_902 h = some (1, .inr (cx_K, [.ref D.t, .ref D.a, .ref D.lv, .ref D.sn, .ref D.g, .ref D.k, .ref D.ne, .int (nI σ.sf), .int (bo_i σ.ib), .int (nI σ.sq), .int (nI σ.pr), .int (nI σ.mi)])) := dk_keep hw_903 hnf hh_892 (by decide)
        have h_906 : w_902 D.lv = some (11, dk_ca G 4 6 D.lf) := dk_keep hw_903 hnf hkp.l (by decide)
        have h_907 : w_902 a = some (0, .inr (cx_E, [.int (nI x.1), .int (nI x.2.1), .long x.2.2.1, .int (bo_i x.2.2.2)])) := dk_keep hw_903 hnf ha (by decide)
        have hf9 : dk_fr (fun t => t = 10) w w_902 := (dk_fr.up (T := fun t => t = 10) hnf rfl).eq hw_903
        exact dk_vret hQ hx hb hr hlocks hP hS (Nat.le_refl _) (Nat.le_refl _) (⟨by rw [nn_f, if_pos ⟨by omega, by rw [hn9]; rfl⟩]; exact hkp.ofn hf9 (nw_at.put hne hf9 h_904 ha), hf9.mono (fun t z => by unfold kp_T; omega)⟩) de_K_noteIfNewest_58
      · have hyo := (hno y9 hn9).2
        refine dk_aald (a := D.ne) (r := some b9) (C := dk_nE) hx hb hK hP hnf rfl x.1 rfl (by omega) (by omega) hr9 de_K_noteIfNewest_31 ?_
        refine lv_astore_n (lv' := [(3, .ref b9), (0, .ref h), (1, .ref a), (2, .int (nI u))]) hx hb de_K_noteIfNewest_32 rfl hl (by decide) rfl (fun ls hl => ?_)
        refine lv_aload_n hx hb de_K_noteIfNewest_33 rfl (lv_at hl 0 rfl) ?_
        refine lv_ifnull hx hb de_K_noteIfNewest_34 ?_
        refine lv_aload_n hx hb de_K_noteIfNewest_37 rfl (lv_at hl 0 rfl) ?_
        refine dk_getN (a := b9) (v := .int (nI y9.2.1)) (C := kn_E) (T := kt_E) (N := 4) (host := "RunKeeper") hx hb hts ki_E hown hK hP hb9 rfl 1 (by decide) (hN.use (dn_m 450 (by decide +kernel) rfl)) (fun _ h9 => h9) rfl de_K_noteIfNewest_38 ?_
        refine lv_aload_n hx hb de_K_noteIfNewest_41 rfl (lv_at hl 2 rfl) ?_
        refine dk_getN (a := a) (v := .int (nI x.2.1)) (C := kn_E) (T := kt_E) (N := 4) (host := "RunKeeper") hx hb hts ki_E hown hK hP ha rfl 1 (by decide) (hN.use (dn_m 450 (by decide +kernel) rfl)) (fun _ h9 => h9) rfl de_K_noteIfNewest_42 ?_
        refine nx_icmp_ge (a := y9.2.1) (b := x.2.1) (tgt := 58) hx hb (by omega) (by omega) de_K_noteIfNewest_45 (by decide) (fun c_909 => ?_) (fun c_909 => ?_)
        · exact dk_vret hQ hx hb hr hlocks hP hS (Nat.le_refl _) (Nat.le_refl _) (⟨by rw [nn_f, if_neg (fun z => absurd z.2 (by rw [hn9]; simp; omega))]; exact hkp, dk_fr.rf⟩) de_K_noteIfNewest_58
        · refine lv_aload_n hx hb de_K_noteIfNewest_48 rfl (lv_at hl 1 rfl) ?_
          refine dk_get (a := h) (v := .ref D.ne) (C := kn_K) (T := kt_K) (N := 12) hx hb hts ki_K hown hK hP hh_892 rfl 6 (by decide) (hts _ wi_109) (fun _ h9 => h9) rfl de_K_noteIfNewest_49 ?_
          refine lv_aload_n hx hb de_K_noteIfNewest_52 rfl (lv_at hl 2 rfl) ?_
          refine dk_getN (a := a) (v := .int (nI x.1)) (C := kn_E) (T := kt_E) (N := 4) (host := "RunKeeper") hx hb hts ki_E hown hK hP ha rfl 0 (by decide) (hN.use (dn_m 447 (by decide +kernel) rfl)) (fun _ h9 => h9) rfl de_K_noteIfNewest_53 ?_
          refine lv_aload_n hx hb de_K_noteIfNewest_56 rfl (lv_at hl 2 rfl) ?_
          refine dk_aast (a := D.ne) (v := a) (r := (kn_E, kt_E, 4)) hx hb hK hP hS hnf rfl ha rfl x.1 rfl (by omega) (by omega) de_K_noteIfNewest_57 (fun H locs w_910 hw_911 hP hS => ?_)
          have h_912 : w_910 D.ne = some (10, dk_ca G 3 1024 (va_up nf x.1 (some a))) := dk_here hw_911
          have h_913 : w_910 h = some (1, .inr (cx_K, [.ref D.t, .ref D.a, .ref D.lv, .ref D.sn, .ref D.g, .ref D.k, .ref D.ne, .int (nI σ.sf), .int (bo_i σ.ib), .int (nI σ.sq), .int (nI σ.pr), .int (nI σ.mi)])) := dk_keep hw_911 hnf hh_892 (by decide)
          have h_914 : w_910 D.lv = some (11, dk_ca G 4 6 D.lf) := dk_keep hw_911 hnf hkp.l (by decide)
          have h_915 : w_910 a = some (0, .inr (cx_E, [.int (nI x.1), .int (nI x.2.1), .long x.2.2.1, .int (bo_i x.2.2.2)])) := dk_keep hw_911 hnf ha (by decide)
          have h_916 : w_910 b9 = some (0, .inr (cx_E, [.int (nI y9.1), .int (nI y9.2.1), .long y9.2.2.1, .int (bo_i y9.2.2.2)])) := dk_keep hw_911 hnf hb9 (by decide)
          have hf9 : dk_fr (fun t => t = 10) w w_910 := (dk_fr.up (T := fun t => t = 10) hnf rfl).eq hw_911
          exact dk_vret hQ hx hb hr hlocks hP hS (Nat.le_refl _) (Nat.le_refl _) (⟨by rw [nn_f, if_pos ⟨by omega, by rw [hn9]; simp; omega⟩]; exact hkp.ofn hf9 (nw_at.put hne hf9 h_912 ha), hf9.mono (fun t z => by unfold kp_T; omega)⟩) de_K_noteIfNewest_58
    · exact absurd c_900 (by simp [hx1])
abbrev rm_K_noteNewestOfKeys : Room := { frames := 5, cells := 0, slots := 0, locals := 107 }
set_option maxHeartbeats 4000000 in
set_option maxRecDepth 100000 in
theorem c_K_noteNewestOfKeys (l : Launch) (G : dk_G) (w : dk_H) (h : Nat) (D : kp_D) (σ : kp_S) (hkp : kp_at G w h D σ) (u : Nat) (hu0 : u < 2 ^ 31) (hc6 : kp_n σ ≤ 600) : dk_Mv l my_K_noteNewestOfKeys (wd_c my_K_noteNewestOfKeys mb_K_noteNewestOfKeys 3 none) rm_K_noteNewestOfKeys G w [.ref h, .int (nI u)] (fun w1 => kp_at G w1 h D ((σ.ga' (σ.tb ++ lv_fl σ.lv 6)).nw' (nn_L u (σ.tb ++ lv_fl σ.lv 6))) ∧ dk_fr kp_T w w1) 0 0 := by
  have hgl : (σ.tb ++ lv_fl σ.lv 6).length ≤ 600 := by rw [List.length_append, lv_fl_len]; exact hc6
  have hok := ga_ok hkp
  refine dk_enter (lv := [(0, .ref h), (1, .int (nI u))]) (by decide) (Nat.le_of_ble_eq_true rfl) rfl (fun p e s m args below meth c ls Q hQ C hP hS hl => ?_)
  obtain ⟨hx, hb, hr, hml, hlocks, hown, hnm, hts, hE⟩ := C
  have hK := hE.1
  have hN := hE.2.1
  have hh_917 : w h = some (1, .inr (cx_K, [.ref D.t, .ref D.a, .ref D.lv, .ref D.sn, .ref D.g, .ref D.k, .ref D.ne, .int (nI σ.sf), .int (bo_i σ.ib), .int (nI σ.sq), .int (nI σ.pr), .int (nI σ.mi)])) := hkp.o
  refine lv_iconst (v := nI 0) hx hb de_K_noteNewestOfKeys_0 (by decide) ?_
  refine lv_istore_n (lv' := [(2, .int (nI 0)), (0, .ref h), (1, .int (nI u))]) hx hb de_K_noteNewestOfKeys_1 rfl hl (by decide) rfl (fun ls hl => ?_)
  have lp : ∀ (zk : Nat) (i : Nat), 1024 - i < zk → (i ≤ 1024) → ∀ (H : Heap) (locs : List Loc) (v : dk_H), (kp_at G v h D (σ.nw' (fun j => if j < i then none else σ.nw j))) → (dk_fr kp_T w v) → dk_P G v H → dk_S G s.heap H locs → ∀ (ls : Array Slot), lv_has ls 3 [(0, .ref h), (1, .int (nI u)), (2, .int (nI i))] → W p l e rm_K_noteNewestOfKeys s m args below meth c H locs 0 0 Q (F0 m 2 ls []) := by
    intro zk
    induction zk with
    | zero =>
      intro i hk
      exact absurd hk (by omega)
    | succ zk ih =>
      intro i hk hi
      intro H locs v hkv hg hP hS
      intro ls hl
      have hh_918 : v h = some (1, .inr (cx_K, [.ref D.t, .ref D.a, .ref D.lv, .ref D.sn, .ref D.g, .ref D.k, .ref D.ne, .int (nI σ.sf), .int (bo_i σ.ib), .int (nI σ.sq), .int (nI σ.pr), .int (nI σ.mi)])) := hkv.o
      refine lv_iload_n hx hb de_K_noteNewestOfKeys_2 rfl (lv_at hl 2 rfl) ?_
      refine lv_sipush (v := nI 1024) hx hb de_K_noteNewestOfKeys_3 (by decide) ?_
      refine nx_icmp_ge (a := i) (b := 1024) (tgt := 22) hx hb (by omega) (by omega) de_K_noteNewestOfKeys_6 (by decide) (fun c_919 => ?_) (fun c_919 => ?_)
      · have e9 : i = 1024 := by omega
        subst e9
        have hk8 : kp_at G v h D (σ.nw' (fun _ => none)) := hkv.nwx (fun j hj => (if_pos hj).symm)
        have hh_925 : v h = some (1, .inr (cx_K, [.ref D.t, .ref D.a, .ref D.lv, .ref D.sn, .ref D.g, .ref D.k, .ref D.ne, .int (nI σ.sf), .int (bo_i σ.ib), .int (nI σ.sq), .int (nI σ.pr), .int (nI σ.mi)])) := hk8.o
        refine lv_aload_n hx hb de_K_noteNewestOfKeys_22 rfl (lv_at hl 0 rfl) ?_
        refine dk_callv (va_runV (As := []) (rest := []) ⟨hx, hb, hml, hown, hts⟩ (c_K_gatherEverything l G v h D _ hk8 hc6) (cwV 0 hts (wd_gV (C := "RunKeeper") wi_295 wi_292 wi_294 (wd_p (q := (⟨"RunKeeper", "gatherEverything", "()V"⟩, 12)) (by decide +kernel) (by decide +kernel)) wi_1) rfl rfl rfl (by decide +kernel) ⟨Nat.le_of_ble_eq_true rfl, Nat.le_of_ble_eq_true rfl⟩) (dk_preV (kn_K, kt_K, 12) hE hP hS hh_925 rfl) rfl rfl hl.1 rfl (lv_room (Nat.le_of_ble_eq_true rfl)) de_K_noteNewestOfKeys_23 ⟨(by first | exact Nat.le_of_ble_eq_true rfl | (simp only [Nat.zero_add]; omega) | omega), (by first | exact Nat.le_of_ble_eq_true rfl | (simp only [Nat.zero_add]; omega) | omega)⟩) hS (fun w_926 H locs hq_927 hP hS => ?_)
        have hk_929 : kp_at G w_926 h D ((σ.nw' (fun _ => none)).ga' (σ.tb ++ lv_fl σ.lv 6)) := hq_927.1
        have hh_930 : w_926 h = some (1, .inr (cx_K, [.ref D.t, .ref D.a, .ref D.lv, .ref D.sn, .ref D.g, .ref D.k, .ref D.ne, .int (nI σ.sf), .int (bo_i σ.ib), .int (nI σ.sq), .int (nI σ.pr), .int (nI σ.mi)])) := hk_929.o
        refine lv_iconst (v := nI 0) hx hb de_K_noteNewestOfKeys_26 (by decide) ?_
        refine lv_istore_n (lv' := [(2, .int (nI 0)), (0, .ref h), (1, .int (nI u))]) hx hb de_K_noteNewestOfKeys_27 rfl hl (by decide) rfl (fun ls hl => ?_)
        have lp2 : ∀ (zk2 : Nat) (i2 : Nat), (σ.tb ++ lv_fl σ.lv 6).length - i2 < zk2 → (i2 ≤ (σ.tb ++ lv_fl σ.lv 6).length) → ∀ (H : Heap) (locs : List Loc) (v2 : dk_H), (kp_at G v2 h D ((σ.ga' (σ.tb ++ lv_fl σ.lv 6)).nw' (nn_L u ((σ.tb ++ lv_fl σ.lv 6).take i2)))) → (dk_fr kp_T w v2) → dk_P G v2 H → dk_S G s.heap H locs → ∀ (ls : Array Slot), lv_has ls 3 [(0, .ref h), (1, .int (nI u)), (2, .int (nI i2))] → W p l e rm_K_noteNewestOfKeys s m args below meth c H locs (0 + 0) (0 + 0) Q (F0 m 28 ls []) := by
          intro zk2
          induction zk2 with
          | zero =>
            intro i2 hk
            exact absurd hk (by omega)
          | succ zk2 ih2 =>
            intro i2 hk hi2
            intro H locs v2 hkv2 hg2 hP hS
            intro ls hl
            have hh_931 : v2 h = some (1, .inr (cx_K, [.ref D.t, .ref D.a, .ref D.lv, .ref D.sn, .ref D.g, .ref D.k, .ref D.ne, .int (nI σ.sf), .int (bo_i σ.ib), .int (nI σ.sq), .int (nI σ.pr), .int (nI σ.mi)])) := hkv2.o
            obtain ⟨sl_932, _, hc_933, -⟩ := id hkv2.g
            refine lv_iload_n hx hb de_K_noteNewestOfKeys_28 rfl (lv_at hl 2 rfl) ?_
            refine lv_aload_n hx hb de_K_noteNewestOfKeys_29 rfl (lv_at hl 0 rfl) ?_
            refine dk_get (a := h) (v := .ref D.g) (C := kn_K) (T := kt_K) (N := 12) hx hb hts ki_K hown hK hP hh_931 rfl 4 (by decide) (hts _ wi_107) (fun _ h9 => h9) rfl de_K_noteNewestOfKeys_30 ?_
            refine dk_calli (va_runV (As := []) (rest := [.int (nI i2)]) ⟨hx, hb, hml, hown, hts⟩ (c_R_size l G v2 D.g 6 7 600 (σ.tb ++ lv_fl σ.lv 6) hkv2.g) (cwV 0 hts (wd_gV (C := "RunKeeper$Row") wi_147 wi_144 wi_145 wi_146 wi_2) rfl rfl rfl (by decide +kernel) ⟨Nat.le_of_ble_eq_true rfl, Nat.le_of_ble_eq_true rfl⟩) (dk_preV (kn_R, kt_R, 2) hE hP hS hc_933 rfl) rfl rfl hl.1 rfl (lv_room (Nat.le_of_ble_eq_true rfl)) de_K_noteNewestOfKeys_33 ⟨(by first | exact Nat.le_of_ble_eq_true rfl | (simp only [Nat.zero_add]; omega) | omega), (by first | exact Nat.le_of_ble_eq_true rfl | (simp only [Nat.zero_add]; omega) | omega)⟩) hS (fun r_936 w_934 H locs hq_935 hP hS => ?_)
            obtain ⟨hr_937, he_938⟩ := hq_935
            subst hr_937
            rw [he_938] at hP
            refine nx_icmp_ge (a := i2) (b := (σ.tb ++ lv_fl σ.lv 6).length) (tgt := 58) hx hb (by omega) (by omega) de_K_noteNewestOfKeys_36 (by decide) (fun c_939 => ?_) (fun c_939 => ?_)
            · have e9 : (σ.tb ++ lv_fl σ.lv 6).take i2 = (σ.tb ++ lv_fl σ.lv 6) := List.take_of_length_le (by omega)
              rw [e9] at hkv2
              exact dk_vret hQ hx hb hr hlocks hP hS (Nat.le_refl _) (Nat.le_refl _) (⟨hkv2, hg2⟩) de_K_noteNewestOfKeys_58
            · obtain ⟨x, hx9⟩ := ge_at c_939
              have hxo := hok x (List.mem_of_getElem? hx9)
              refine lv_aload_n hx hb de_K_noteNewestOfKeys_39 rfl (lv_at hl 0 rfl) ?_
              refine lv_aload_n hx hb de_K_noteNewestOfKeys_40 rfl (lv_at hl 0 rfl) ?_
              refine dk_get (a := h) (v := .ref D.g) (C := kn_K) (T := kt_K) (N := 12) hx hb hts ki_K hown hK hP hh_931 rfl 4 (by decide) (hts _ wi_107) (fun _ h9 => h9) rfl de_K_noteNewestOfKeys_41 ?_
              refine lv_iload_n hx hb de_K_noteNewestOfKeys_44 rfl (lv_at hl 2 rfl) ?_
              refine dk_callq (va_runV (As := [.int (nI i2)]) (rest := [.ref h]) ⟨hx, hb, hml, hown, hts⟩ (c_R_at l G v2 D.g 6 7 600 (σ.tb ++ lv_fl σ.lv 6) hkv2.g (nI i2)) (cwV 1 hts (wd_gV (C := "RunKeeper$Row") wi_191 wi_516 wi_189 wi_190 wi_2) rfl rfl rfl (by decide +kernel) ⟨Nat.le_of_ble_eq_true rfl, Nat.le_of_ble_eq_true rfl⟩) (dk_preV (kn_R, kt_R, 2) hE hP hS hc_933 rfl) rfl rfl hl.1 rfl (lv_room (Nat.le_of_ble_eq_true rfl)) de_K_noteNewestOfKeys_45 ⟨(by first | exact Nat.le_of_ble_eq_true rfl | (simp only [Nat.zero_add]; omega) | omega), (by first | exact Nat.le_of_ble_eq_true rfl | (simp only [Nat.zero_add]; omega) | omega)⟩) hS (fun r_942 w_940 H locs hq_941 hP hS => ?_)
              obtain ⟨a1, ha1, ha2⟩ := at_in hq_941.2 (by omega) (by omega) hx9
              rw [hq_941.1] at hP
              subst ha1
              refine lv_iload_n hx hb de_K_noteNewestOfKeys_48 rfl (lv_at hl 1 rfl) ?_
              refine dk_callv (va_runV (As := [.ref a1, .int (nI u)]) (rest := []) ⟨hx, hb, hml, hown, hts⟩ (c_K_noteIfNewest l G v2 h D _ hkv2 a1 x ha2 hxo u hu0 (fun y hy => hok y (List.mem_of_mem_take (nn_mem _ hy)))) (cwV 2 hts (wd_gV (C := "RunKeeper") wi_686 wi_683 wi_685 (wd_p (q := (⟨"RunKeeper", "noteIfNewest", "(LRunKeeper$Entry;I)V"⟩, 12)) (by decide +kernel) (by decide +kernel)) wi_1) rfl rfl rfl (by decide +kernel) ⟨Nat.le_of_ble_eq_true rfl, Nat.le_of_ble_eq_true rfl⟩) (dk_preV (kn_K, kt_K, 12) hE hP hS hh_931 rfl) rfl rfl hl.1 rfl (lv_room (Nat.le_of_ble_eq_true rfl)) de_K_noteNewestOfKeys_49 ⟨(by first | exact Nat.le_of_ble_eq_true rfl | (simp only [Nat.zero_add]; omega) | omega), (by first | exact Nat.le_of_ble_eq_true rfl | (simp only [Nat.zero_add]; omega) | omega)⟩) hS (fun w_943 H locs hq_944 hP hS => ?_)
              have hk7 : kp_at G w_943 h D ((σ.ga' (σ.tb ++ lv_fl σ.lv 6)).nw' (nn_L u ((σ.tb ++ lv_fl σ.lv 6).take (i2 + 1)))) := by rw [ta_s hx9, nn_snoc]; exact hq_944.1
              refine lv_iinc (v := nI (i2 + 1)) (lv' := [(2, .int (nI (i2 + 1))), (0, .ref h), (1, .int (nI u))]) hx hb de_K_noteNewestOfKeys_52 hl (k := 2) rfl (nx_inc i2) (by decide) rfl (fun ls hl => ?_)
              refine lv_goto (tgt := 28) hx hb de_K_noteNewestOfKeys_55 (by decide) ?_
              exact ih2 (i2 + 1) (by omega) (by omega) _ _ _ hk7 (hg2.tr hq_944.2) hP hS _ (lv_sub hl [1, 2, 0] rfl)
        exact lp2 ((σ.tb ++ lv_fl σ.lv 6).length + 1) 0 (by omega) (by omega) _ _ _ (by exact hk_929) (hg.tr ((hq_927.2))) hP hS _ (lv_sub hl [1, 2, 0] rfl)
      · obtain ⟨nf, hnf, hne⟩ := id hkv.n
        refine lv_aload_n hx hb de_K_noteNewestOfKeys_9 rfl (lv_at hl 0 rfl) ?_
        refine dk_get (a := h) (v := .ref D.ne) (C := kn_K) (T := kt_K) (N := 12) hx hb hts ki_K hown hK hP hh_918 rfl 6 (by decide) (hts _ wi_109) (fun _ h9 => h9) rfl de_K_noteNewestOfKeys_10 ?_
        refine lv_iload_n hx hb de_K_noteNewestOfKeys_13 rfl (lv_at hl 2 rfl) ?_
        refine lv_null hx hb de_K_noteNewestOfKeys_14 ?_
        refine dk_aastN (a := D.ne) (C := dk_nE) hx hb hK hP hS hnf rfl i rfl (by omega) (by omega) de_K_noteNewestOfKeys_15 (fun H locs w_920 hw_921 hP hS => ?_)
        have h_922 : w_920 D.ne = some (10, dk_ca G 3 1024 (va_up nf i none)) := dk_here hw_921
        have h_923 : w_920 h = some (1, .inr (cx_K, [.ref D.t, .ref D.a, .ref D.lv, .ref D.sn, .ref D.g, .ref D.k, .ref D.ne, .int (nI σ.sf), .int (bo_i σ.ib), .int (nI σ.sq), .int (nI σ.pr), .int (nI σ.mi)])) := dk_keep hw_921 hnf hh_918 (by decide)
        have h_924 : w_920 D.lv = some (11, dk_ca G 4 6 D.lf) := dk_keep hw_921 hnf hkv.l (by decide)
        have hf9 : dk_fr (fun t => t = 10) v w_920 := (dk_fr.up (T := fun t => t = 10) hnf rfl).eq hw_921
        have hk7 : kp_at G w_920 h D (σ.nw' (fun j => if j < i + 1 then none else σ.nw j)) := hkv.ofn hf9 ((nw_at.cut hne hf9 h_922).ext (nw_s i σ.nw))
        refine lv_iinc (v := nI (i + 1)) (lv' := [(2, .int (nI (i + 1))), (0, .ref h), (1, .int (nI u))]) hx hb de_K_noteNewestOfKeys_16 hl (k := 2) rfl (nx_inc i) (by decide) rfl (fun ls hl => ?_)
        refine lv_goto (tgt := 2) hx hb de_K_noteNewestOfKeys_19 (by decide) ?_
        exact ih (i + 1) (by omega) (by omega) _ _ _ hk7 (hg.tr (hf9.mono (fun t z => by unfold kp_T; omega))) hP hS _ (lv_sub hl [1, 2, 0] rfl)
  exact lp 1025 0 (by omega) (by omega) _ _ _ (hkp.nwx (fun j hj => by simp)) dk_fr.rf hP hS _ (lv_sub hl [1, 2, 0] rfl)
end
section
/-! RunKeeper: what its calls do where they do not throw (printed by gen/c_keep4.py) -/
def kp_cr (σ : kp_S) : kp_S := (((((σ.tb' (σ.tb.take σ.sf)).ib' false).ad' []).sn' (fun _ => none)).ga' (σ.tb.take σ.sf ++ lv_fl σ.lv 6)).sq' (mx_L (σ.tb.take σ.sf ++ lv_fl σ.lv 6))
theorem sn_lf {sn : Nat → Option Nat} {j : Nat} {r : Int32} (hj : j < 6) (h0 : sn j = none) (h1 : ∀ i, i < j → (sn i).isSome = true) (h : (∃ j, j < 6 ∧ r = nI j ∧ sn j = none ∧ ∀ i, i < j → (sn i).isSome = true) ∨ (r = -1 ∧ ∀ i, i < 6 → (sn i).isSome = true)) : r = nI j := by
  rcases h with ⟨i, a1, a2, a3, a4⟩ | ⟨a1, a2⟩
  · rcases Nat.lt_trichotomy i j with h | h | h
    · have := h1 i h; rw [a3] at this; cases this
    · rw [a2, h]
    · have := a4 j h; rw [h0] at this; cases this
  · have := a2 j hj; rw [h0] at this; cases this
/-- has the key a number -/
def lv_k (nw : Nat → Option en_T) (j : Nat) : Bool := match nw j with
  | none => false
  | some y => !y.2.2.2
theorem lv_kn {nw : Nat → Option en_T} {j : Nat} (h : nw j = none) : lv_k nw j = false := by simp only [lv_k, h]
theorem lv_kd {nw : Nat → Option en_T} {j : Nat} {y : en_T} (h : nw j = some y) (h1 : y.2.2.2 = true) : lv_k nw j = false := by simp only [lv_k, h, h1]; rfl
theorem lv_kl {nw : Nat → Option en_T} {j : Nat} {y : en_T} (h : nw j = some y) (h1 : y.2.2.2 = false) : lv_k nw j = true := by simp only [lv_k, h, h1]; rfl
theorem lk_s {f : Nat → Bool} {k i : Nat} (h : ∀ j, k ≤ j → j < i → f j = false) (e : f i = false) : ∀ j, k ≤ j → j < i + 1 → f j = false := by
  intro j h1 h2
  by_cases e8 : j = i
  · rw [e8]; exact e
  · exact h j h1 (by omega)
def nx_r (nw : Nat → Option en_T) (k : Nat) (r : Int32) : Prop := (∃ j, k ≤ j ∧ j < 1024 ∧ r = nI j ∧ lv_k nw j = true ∧ ∀ i, k ≤ i → i < j → lv_k nw i = false) ∨ (r = -1 ∧ ∀ i, k ≤ i → i < 1024 → lv_k nw i = false)
abbrev rm_K_sync : Room := { frames := 1, cells := 0, slots := 0, locals := 20 }
set_option maxHeartbeats 4000000 in
set_option maxRecDepth 100000 in
theorem c_K_sync (l : Launch) (G : dk_G) (w : dk_H) (h : Nat) (D : kp_D) (σ : kp_S) (hkp : kp_at G w h D σ) : dk_Mi l my_K_sync (wd_c my_K_sync mb_K_sync 1 (some .int)) rm_K_sync G w [.ref h] (fun r w1 => r = nI σ.tb.length ∧ kp_at G w1 h D (σ.sf' σ.tb.length) ∧ dk_fr kp_T w w1) 0 0 := by
  refine dk_enter (lv := [(0, .ref h)]) (by decide) (Nat.le_of_ble_eq_true rfl) rfl (fun p e s m args below meth c ls Q hQ C hP hS hl => ?_)
  obtain ⟨hx, hb, hr, hml, hlocks, hown, hnm, hts, hE⟩ := C
  have hK := hE.1
  have hN := hE.2.1
  have hh_946 : w h = some (1, .inr (cx_K, [.ref D.t, .ref D.a, .ref D.lv, .ref D.sn, .ref D.g, .ref D.k, .ref D.ne, .int (nI σ.sf), .int (bo_i σ.ib), .int (nI σ.sq), .int (nI σ.pr), .int (nI σ.mi)])) := hkp.o
  obtain ⟨sl_947, _, hc_948, -⟩ := id hkp.t
  refine lv_aload_n hx hb de_K_sync_0 rfl (lv_at hl 0 rfl) ?_
  refine lv_aload_n hx hb de_K_sync_1 rfl (lv_at hl 0 rfl) ?_
  refine dk_get (a := h) (v := .ref D.t) (C := kn_K) (T := kt_K) (N := 12) hx hb hts ki_K hown hK hP hh_946 rfl 0 (by decide) (hts _ wi_103) (fun _ h9 => h9) rfl de_K_sync_2 ?_
  refine dk_calli (va_runV (As := []) (rest := [.ref h]) ⟨hx, hb, hml, hown, hts⟩ (c_R_size l G w D.t 2 3 40 σ.tb hkp.t) (cwV 0 hts (wd_gV (C := "RunKeeper$Row") wi_147 wi_144 wi_145 wi_146 wi_2) rfl rfl rfl (by decide +kernel) ⟨Nat.le_of_ble_eq_true rfl, Nat.le_of_ble_eq_true rfl⟩) (dk_preV (kn_R, kt_R, 2) hE hP hS hc_948 rfl) rfl rfl hl.1 rfl (lv_room (Nat.le_of_ble_eq_true rfl)) de_K_sync_5 ⟨(by first | exact Nat.le_of_ble_eq_true rfl | (simp only [Nat.zero_add]; omega) | omega), (by first | exact Nat.le_of_ble_eq_true rfl | (simp only [Nat.zero_add]; omega) | omega)⟩) hS (fun r_951 w_949 H locs hq_950 hP hS => ?_)
  obtain ⟨hr_952, he_953⟩ := hq_950
  subst hr_952
  rw [he_953] at hP
  refine dk_put (a := h) (v := .int (nI σ.tb.length)) (ty := .int) (C := kn_K) (T := kt_K) (N := 12) hx hb hts ki_K ky_K kk_K kd_K hown hK hP hS hh_946 rfl 7 (by decide) (hts _ wi_110) (fun _ h9 => h9) rfl (by decide +kernel) rfl rfl (Nat.le_of_ble_eq_true rfl) de_K_sync_8 (fun H locs w_954 hw_955 hP hS => ?_)
  have h_956 : w_954 h = some (1, .inr (cx_K, [.ref D.t, .ref D.a, .ref D.lv, .ref D.sn, .ref D.g, .ref D.k, .ref D.ne, .int (nI σ.tb.length), .int (bo_i σ.ib), .int (nI σ.sq), .int (nI σ.pr), .int (nI σ.mi)])) := dk_here hw_955
  have h_957 : w_954 D.lv = some (11, dk_ca G 4 6 D.lf) := dk_keep hw_955 hh_946 hkp.l (by decide)
  have h_958 : w_954 D.t = some (2, .inr (cx_R, [.ref sl_947, .int (nI (σ.tb).length)])) := dk_keep hw_955 hh_946 hc_948 (by decide)
  have hf_959 : dk_fr (fun t => t = 1) w w_954 := ((dk_fr.up (T := fun t => t = 1) hh_946 rfl).eq hw_955)
  have hk_960 : kp_at G w_954 h D (σ.sf' (σ.tb.length)) := hkp.ofo hf_959 h_956 rfl rfl rfl rfl rfl rfl rfl
  have hh_961 : w_954 h = some (1, .inr (cx_K, [.ref D.t, .ref D.a, .ref D.lv, .ref D.sn, .ref D.g, .ref D.k, .ref D.ne, .int (nI σ.tb.length), .int (bo_i σ.ib), .int (nI σ.sq), .int (nI σ.pr), .int (nI σ.mi)])) := hk_960.o
  refine lv_aload_n hx hb de_K_sync_11 rfl (lv_at hl 0 rfl) ?_
  refine dk_get (a := h) (v := .int (nI σ.tb.length)) (C := kn_K) (T := kt_K) (N := 12) hx hb hts ki_K hown hK hP hh_961 rfl 7 (by decide) (hts _ wi_110) (fun _ h9 => h9) rfl de_K_sync_12 ?_
  exact dk_iret hQ hx hb hr hlocks hP hS (Nat.le_refl _) (Nat.le_refl _) (⟨rfl, hk_960, (kp_o hf_959)⟩) de_K_sync_15
abbrev rm_K_flush : Room := { frames := 10, cells := 5, slots := 1579, locals := 235 }
set_option maxHeartbeats 4000000 in
set_option maxRecDepth 100000 in
theorem c_K_flush (l : Launch) (G : dk_G) (w : dk_H) (h : Nat) (D : kp_D) (σ : kp_S) (hkp : kp_at G w h D σ) (hc6 : kp_n σ ≤ 600) : dk_Mi l my_K_flush (wd_c my_K_flush mb_K_flush 2 (some .int)) rm_K_flush G w [.ref h] (fun r w1 => r = nI σ.tb.length ∧ kp_at G w1 h D (kp_fl σ 1) ∧ dk_fr kp_T w w1) 5 1579 := by
  refine dk_enter (lv := [(0, .ref h)]) (by decide) (Nat.le_of_ble_eq_true rfl) rfl (fun p e s m args below meth c ls Q hQ C hP hS hl => ?_)
  obtain ⟨hx, hb, hr, hml, hlocks, hown, hnm, hts, hE⟩ := C
  have hK := hE.1
  have hN := hE.2.1
  have hh_962 : w h = some (1, .inr (cx_K, [.ref D.t, .ref D.a, .ref D.lv, .ref D.sn, .ref D.g, .ref D.k, .ref D.ne, .int (nI σ.sf), .int (bo_i σ.ib), .int (nI σ.sq), .int (nI σ.pr), .int (nI σ.mi)])) := hkp.o
  obtain ⟨sl_963, _, hc_964, -⟩ := id hkp.t
  refine lv_aload_n hx hb de_K_flush_0 rfl (lv_at hl 0 rfl) ?_
  refine dk_get (a := h) (v := .ref D.t) (C := kn_K) (T := kt_K) (N := 12) hx hb hts ki_K hown hK hP hh_962 rfl 0 (by decide) (hts _ wi_103) (fun _ h9 => h9) rfl de_K_flush_1 ?_
  refine dk_calli (va_runV (As := []) (rest := []) ⟨hx, hb, hml, hown, hts⟩ (c_R_size l G w D.t 2 3 40 σ.tb hkp.t) (cwV 0 hts (wd_gV (C := "RunKeeper$Row") wi_147 wi_144 wi_145 wi_146 wi_2) rfl rfl rfl (by decide +kernel) ⟨Nat.le_of_ble_eq_true rfl, Nat.le_of_ble_eq_true rfl⟩) (dk_preV (kn_R, kt_R, 2) hE hP hS hc_964 rfl) rfl rfl hl.1 rfl (lv_room (Nat.le_of_ble_eq_true rfl)) de_K_flush_4 ⟨(by first | exact Nat.le_of_ble_eq_true rfl | (simp only [Nat.zero_add]; omega) | omega), (by first | exact Nat.le_of_ble_eq_true rfl | (simp only [Nat.zero_add]; omega) | omega)⟩) hS (fun r_967 w_965 H locs hq_966 hP hS => ?_)
  obtain ⟨hr_968, he_969⟩ := hq_966
  subst hr_968
  rw [he_969] at hP
  refine lv_istore_n (lv' := [(1, .int (nI σ.tb.length)), (0, .ref h)]) hx hb de_K_flush_7 rfl hl (by decide) rfl (fun ls hl => ?_)
  refine lv_aload_n hx hb de_K_flush_8 rfl (lv_at hl 1 rfl) ?_
  refine lv_iconst (v := nI 1) hx hb de_K_flush_9 (by decide) ?_
  refine dk_callv (va_runV (As := [.int (nI 1)]) (rest := []) ⟨hx, hb, hml, hown, hts⟩ (c_K_flushTableIfItHas l G w h D σ hkp 1 (by decide) (by decide) hc6) (cwV 1 hts (wd_gV (C := "RunKeeper") wi_155 wi_152 wi_154 (wd_p (q := (⟨"RunKeeper", "flushTableIfItHas", "(I)V"⟩, 12)) (by decide +kernel) (by decide +kernel)) wi_1) rfl rfl rfl (by decide +kernel) ⟨Nat.le_of_ble_eq_true rfl, Nat.le_of_ble_eq_true rfl⟩) (dk_preV (kn_K, kt_K, 12) hE hP hS hh_962 rfl) rfl rfl hl.1 rfl (lv_room (Nat.le_of_ble_eq_true rfl)) de_K_flush_10 ⟨(by first | exact Nat.le_of_ble_eq_true rfl | (simp only [Nat.zero_add]; omega) | omega), (by first | exact Nat.le_of_ble_eq_true rfl | (simp only [Nat.zero_add]; omega) | omega)⟩) hS (fun w_970 H locs hq_971 hP hS => ?_)
  refine lv_iload_n hx hb de_K_flush_13 rfl (lv_at hl 0 rfl) ?_
  exact dk_iret hQ hx hb hr hlocks hP hS (by omega) (by omega) (⟨rfl, hq_971.1, hq_971.2⟩) de_K_flush_14
abbrev rm_K_crash : Room := { frames := 5, cells := 0, slots := 0, locals := 107 }
set_option maxHeartbeats 4000000 in
set_option maxRecDepth 100000 in
theorem c_K_crash (l : Launch) (G : dk_G) (w : dk_H) (h : Nat) (D : kp_D) (σ : kp_S) (hkp : kp_at G w h D σ) (hs : σ.sf < 2 ^ 31) (hc6 : kp_n σ ≤ 600) : dk_Mi l my_K_crash (wd_c my_K_crash mb_K_crash 1 (some .int)) rm_K_crash G w [.ref h] (fun r w1 => r = nI (σ.tb.take σ.sf).length ∧ kp_at G w1 h D (kp_cr σ) ∧ dk_fr kp_T w w1) 0 0 := by
  unfold kp_n at hc6
  have htl : (σ.tb.take σ.sf).length ≤ σ.tb.length := by rw [List.length_take]; omega
  refine dk_enter (lv := [(0, .ref h)]) (by decide) (Nat.le_of_ble_eq_true rfl) rfl (fun p e s m args below meth c ls Q hQ C hP hS hl => ?_)
  obtain ⟨hx, hb, hr, hml, hlocks, hown, hnm, hts, hE⟩ := C
  have hK := hE.1
  have hN := hE.2.1
  have hh_973 : w h = some (1, .inr (cx_K, [.ref D.t, .ref D.a, .ref D.lv, .ref D.sn, .ref D.g, .ref D.k, .ref D.ne, .int (nI σ.sf), .int (bo_i σ.ib), .int (nI σ.sq), .int (nI σ.pr), .int (nI σ.mi)])) := hkp.o
  obtain ⟨sl_974, _, hc_975, -⟩ := id hkp.t
  refine lv_aload_n hx hb de_K_crash_0 rfl (lv_at hl 0 rfl) ?_
  refine dk_get (a := h) (v := .ref D.t) (C := kn_K) (T := kt_K) (N := 12) hx hb hts ki_K hown hK hP hh_973 rfl 0 (by decide) (hts _ wi_103) (fun _ h9 => h9) rfl de_K_crash_1 ?_
  refine lv_aload_n hx hb de_K_crash_4 rfl (lv_at hl 0 rfl) ?_
  refine dk_get (a := h) (v := .int (nI σ.sf)) (C := kn_K) (T := kt_K) (N := 12) hx hb hts ki_K hown hK hP hh_973 rfl 7 (by decide) (hts _ wi_110) (fun _ h9 => h9) rfl de_K_crash_5 ?_
  refine dk_callv (va_runV (As := [.int (nI σ.sf)]) (rest := []) ⟨hx, hb, hml, hown, hts⟩ (c_R_cutTo l G w D.t 2 3 40 σ.tb hkp.t (by omega) σ.sf hs) (cwV 1 hts (wd_gV (C := "RunKeeper$Row") wi_279 wi_276 wi_277 wi_278 wi_2) rfl rfl rfl (by decide +kernel) ⟨Nat.le_of_ble_eq_true rfl, Nat.le_of_ble_eq_true rfl⟩) (dk_preV (kn_R, kt_R, 2) hE hP hS hc_975 rfl) rfl rfl hl.1 rfl (lv_room (Nat.le_of_ble_eq_true rfl)) de_K_crash_8 ⟨(by first | exact Nat.le_of_ble_eq_true rfl | (simp only [Nat.zero_add]; omega) | omega), (by first | exact Nat.le_of_ble_eq_true rfl | (simp only [Nat.zero_add]; omega) | omega)⟩) hS (fun w_976 H locs hq_977 hP hS => ?_)
  have hk_979 : kp_at G w_976 h D (σ.tb' (σ.tb.take σ.sf)) := hkp.oft hq_977.2 hq_977.1 (fun y hy => hkp.tk y (List.mem_of_mem_take hy))
  have hh_980 : w_976 h = some (1, .inr (cx_K, [.ref D.t, .ref D.a, .ref D.lv, .ref D.sn, .ref D.g, .ref D.k, .ref D.ne, .int (nI σ.sf), .int (bo_i σ.ib), .int (nI σ.sq), .int (nI σ.pr), .int (nI σ.mi)])) := hk_979.o
  refine lv_aload_n hx hb de_K_crash_11 rfl (lv_at hl 0 rfl) ?_
  refine dk_callv (va_runV (As := []) (rest := []) ⟨hx, hb, hml, hown, hts⟩ (c_K_dropBatch l G w_976 h D _ hk_979) (cwV 0 hts (wd_gV (C := "RunKeeper") wi_287 wi_284 wi_286 (wd_p (q := (⟨"RunKeeper", "dropBatch", "()V"⟩, 12)) (by decide +kernel) (by decide +kernel)) wi_1) rfl rfl rfl (by decide +kernel) ⟨Nat.le_of_ble_eq_true rfl, Nat.le_of_ble_eq_true rfl⟩) (dk_preV (kn_K, kt_K, 12) hE hP hS hh_980 rfl) rfl rfl hl.1 rfl (lv_room (Nat.le_of_ble_eq_true rfl)) de_K_crash_12 ⟨(by first | exact Nat.le_of_ble_eq_true rfl | (simp only [Nat.zero_add]; omega) | omega), (by first | exact Nat.le_of_ble_eq_true rfl | (simp only [Nat.zero_add]; omega) | omega)⟩) hS (fun w_981 H locs hq_982 hP hS => ?_)
  have hk_984 : kp_at G w_981 h D (((σ.tb' (σ.tb.take σ.sf)).ib' false).ad' []) := hq_982.1
  have hh_985 : w_981 h = some (1, .inr (cx_K, [.ref D.t, .ref D.a, .ref D.lv, .ref D.sn, .ref D.g, .ref D.k, .ref D.ne, .int (nI σ.sf), .int (bo_i false), .int (nI σ.sq), .int (nI σ.pr), .int (nI σ.mi)])) := hk_984.o
  obtain ⟨a_986, a_987, _, _, hc_988, -⟩ := id hk_984.s
  refine lv_aload_n hx hb de_K_crash_15 rfl (lv_at hl 0 rfl) ?_
  refine dk_get (a := h) (v := .ref D.sn) (C := kn_K) (T := kt_K) (N := 12) hx hb hts ki_K hown hK hP hh_985 rfl 3 (by decide) (hts _ wi_106) (fun _ h9 => h9) rfl de_K_crash_16 ?_
  refine dk_callv (va_runV (As := []) (rest := []) ⟨hx, hb, hml, hown, hts⟩ (c_S_forgetAll l G w_981 D.sn σ.sn hk_984.s) (cwV 0 hts (wd_gV (C := "RunKeeper$Snapshots") wi_291 wi_288 wi_289 wi_290 wi_3) rfl rfl rfl (by decide +kernel) ⟨Nat.le_of_ble_eq_true rfl, Nat.le_of_ble_eq_true rfl⟩) (dk_preV (kn_S, kt_S, 2) hE hP hS hc_988 rfl) rfl rfl hl.1 rfl (lv_room (Nat.le_of_ble_eq_true rfl)) de_K_crash_19 ⟨(by first | exact Nat.le_of_ble_eq_true rfl | (simp only [Nat.zero_add]; omega) | omega), (by first | exact Nat.le_of_ble_eq_true rfl | (simp only [Nat.zero_add]; omega) | omega)⟩) hS (fun w_989 H locs hq_990 hP hS => ?_)
  have hk_992 : kp_at G w_989 h D ((((σ.tb' (σ.tb.take σ.sf)).ib' false).ad' []).sn' (fun _ => none)) := hk_984.ofs hq_990.2 hq_990.1
  have hh_993 : w_989 h = some (1, .inr (cx_K, [.ref D.t, .ref D.a, .ref D.lv, .ref D.sn, .ref D.g, .ref D.k, .ref D.ne, .int (nI σ.sf), .int (bo_i false), .int (nI σ.sq), .int (nI σ.pr), .int (nI σ.mi)])) := hk_992.o
  refine lv_aload_n hx hb de_K_crash_22 rfl (lv_at hl 0 rfl) ?_
  refine dk_callv (va_runV (As := []) (rest := []) ⟨hx, hb, hml, hown, hts⟩ (c_K_gatherEverything l G w_989 h D _ hk_992 (by show (σ.tb.take σ.sf).length + lv_ct σ.lv 6 ≤ 600; omega)) (cwV 0 hts (wd_gV (C := "RunKeeper") wi_295 wi_292 wi_294 (wd_p (q := (⟨"RunKeeper", "gatherEverything", "()V"⟩, 12)) (by decide +kernel) (by decide +kernel)) wi_1) rfl rfl rfl (by decide +kernel) ⟨Nat.le_of_ble_eq_true rfl, Nat.le_of_ble_eq_true rfl⟩) (dk_preV (kn_K, kt_K, 12) hE hP hS hh_993 rfl) rfl rfl hl.1 rfl (lv_room (Nat.le_of_ble_eq_true rfl)) de_K_crash_23 ⟨(by first | exact Nat.le_of_ble_eq_true rfl | (simp only [Nat.zero_add]; omega) | omega), (by first | exact Nat.le_of_ble_eq_true rfl | (simp only [Nat.zero_add]; omega) | omega)⟩) hS (fun w_994 H locs hq_995 hP hS => ?_)
  have hk_997 : kp_at G w_994 h D (((((σ.tb' (σ.tb.take σ.sf)).ib' false).ad' []).sn' (fun _ => none)).ga' (σ.tb.take σ.sf ++ lv_fl σ.lv 6)) := hq_995.1
  have hh_998 : w_994 h = some (1, .inr (cx_K, [.ref D.t, .ref D.a, .ref D.lv, .ref D.sn, .ref D.g, .ref D.k, .ref D.ne, .int (nI σ.sf), .int (bo_i false), .int (nI σ.sq), .int (nI σ.pr), .int (nI σ.mi)])) := hk_997.o
  obtain ⟨sl_999, _, hc_1000, -⟩ := id hk_997.g
  refine lv_aload_n hx hb de_K_crash_26 rfl (lv_at hl 0 rfl) ?_
  refine lv_aload_n hx hb de_K_crash_27 rfl (lv_at hl 0 rfl) ?_
  refine dk_get (a := h) (v := .ref D.g) (C := kn_K) (T := kt_K) (N := 12) hx hb hts ki_K hown hK hP hh_998 rfl 4 (by decide) (hts _ wi_107) (fun _ h9 => h9) rfl de_K_crash_28 ?_
  have hgo : ∀ x ∈ (σ.tb.take σ.sf ++ lv_fl σ.lv 6), en_ok x := fun x hx => (List.mem_append.mp hx).elim (fun q => hkp.tk x (List.mem_of_mem_take q)) (fun q => lv_flk hkp 6 (by omega) x q)
  refine dk_calli (va_runV (As := []) (rest := [.ref h]) ⟨hx, hb, hml, hown, hts⟩ (c_R_greatestSequence l G w_994 D.g 6 7 600 (σ.tb.take σ.sf ++ lv_fl σ.lv 6) hk_997.g hgo) (cwV 0 hts (wd_gV (C := "RunKeeper$Row") wi_324 wi_321 wi_322 wi_323 wi_2) rfl rfl rfl (by decide +kernel) ⟨Nat.le_of_ble_eq_true rfl, Nat.le_of_ble_eq_true rfl⟩) (dk_preV (kn_R, kt_R, 2) hE hP hS hc_1000 rfl) rfl rfl hl.1 rfl (lv_room (Nat.le_of_ble_eq_true rfl)) de_K_crash_31 ⟨(by first | exact Nat.le_of_ble_eq_true rfl | (simp only [Nat.zero_add]; omega) | omega), (by first | exact Nat.le_of_ble_eq_true rfl | (simp only [Nat.zero_add]; omega) | omega)⟩) hS (fun r_1003 w_1001 H locs hq_1002 hP hS => ?_)
  obtain ⟨hr_1004, he_1005⟩ := hq_1002
  subst hr_1004
  rw [he_1005] at hP
  refine dk_put (a := h) (v := .int (nI (mx_L (σ.tb.take σ.sf ++ lv_fl σ.lv 6)))) (ty := .int) (C := kn_K) (T := kt_K) (N := 12) hx hb hts ki_K ky_K kk_K kd_K hown hK hP hS hh_998 rfl 9 (by decide) (hts _ wi_112) (fun _ h9 => h9) rfl (by decide +kernel) rfl rfl (Nat.le_of_ble_eq_true rfl) de_K_crash_34 (fun H locs w_1006 hw_1007 hP hS => ?_)
  have h_1008 : w_1006 h = some (1, .inr (cx_K, [.ref D.t, .ref D.a, .ref D.lv, .ref D.sn, .ref D.g, .ref D.k, .ref D.ne, .int (nI σ.sf), .int (bo_i false), .int (nI (mx_L (σ.tb.take σ.sf ++ lv_fl σ.lv 6))), .int (nI σ.pr), .int (nI σ.mi)])) := dk_here hw_1007
  have h_1009 : w_1006 D.lv = some (11, dk_ca G 4 6 D.lf) := dk_keep hw_1007 hh_998 hk_997.l (by decide)
  have h_1010 : w_1006 D.g = some (6, .inr (cx_R, [.ref sl_999, .int (nI ((σ.tb.take σ.sf ++ lv_fl σ.lv 6)).length)])) := dk_keep hw_1007 hh_998 hc_1000 (by decide)
  have hf_1011 : dk_fr (fun t => t = 1) w_994 w_1006 := ((dk_fr.up (T := fun t => t = 1) hh_998 rfl).eq hw_1007)
  have hk_1012 : kp_at G w_1006 h D ((((((σ.tb' (σ.tb.take σ.sf)).ib' false).ad' []).sn' (fun _ => none)).ga' (σ.tb.take σ.sf ++ lv_fl σ.lv 6)).sq' (mx_L (σ.tb.take σ.sf ++ lv_fl σ.lv 6))) := hk_997.ofo hf_1011 h_1008 rfl rfl rfl rfl rfl rfl rfl
  have hh_1013 : w_1006 h = some (1, .inr (cx_K, [.ref D.t, .ref D.a, .ref D.lv, .ref D.sn, .ref D.g, .ref D.k, .ref D.ne, .int (nI σ.sf), .int (bo_i false), .int (nI (mx_L (σ.tb.take σ.sf ++ lv_fl σ.lv 6))), .int (nI σ.pr), .int (nI σ.mi)])) := hk_1012.o
  obtain ⟨sl_1014, _, hc_1015, -⟩ := id hk_1012.t
  refine lv_aload_n hx hb de_K_crash_37 rfl (lv_at hl 0 rfl) ?_
  refine dk_get (a := h) (v := .ref D.t) (C := kn_K) (T := kt_K) (N := 12) hx hb hts ki_K hown hK hP hh_1013 rfl 0 (by decide) (hts _ wi_103) (fun _ h9 => h9) rfl de_K_crash_38 ?_
  refine dk_calli (va_runV (As := []) (rest := []) ⟨hx, hb, hml, hown, hts⟩ (c_R_size l G w_1006 D.t 2 3 40 (σ.tb.take σ.sf) hk_1012.t) (cwV 0 hts (wd_gV (C := "RunKeeper$Row") wi_147 wi_144 wi_145 wi_146 wi_2) rfl rfl rfl (by decide +kernel) ⟨Nat.le_of_ble_eq_true rfl, Nat.le_of_ble_eq_true rfl⟩) (dk_preV (kn_R, kt_R, 2) hE hP hS hc_1015 rfl) rfl rfl hl.1 rfl (lv_room (Nat.le_of_ble_eq_true rfl)) de_K_crash_41 ⟨(by first | exact Nat.le_of_ble_eq_true rfl | (simp only [Nat.zero_add]; omega) | omega), (by first | exact Nat.le_of_ble_eq_true rfl | (simp only [Nat.zero_add]; omega) | omega)⟩) hS (fun r_1018 w_1016 H locs hq_1017 hP hS => ?_)
  obtain ⟨hr_1019, he_1020⟩ := hq_1017
  subst hr_1019
  rw [he_1020] at hP
  exact dk_iret hQ hx hb hr hlocks hP hS (Nat.le_refl _) (Nat.le_refl _) (⟨rfl, hk_1012, (((((kp_r hq_977.2 (by omega))).tr (hq_982.2)).tr (kp_s hq_990.2)).tr (hq_995.2)).tr (kp_o hf_1011)⟩) de_K_crash_44
abbrev rm_K_snapshot : Room := { frames := 1, cells := 0, slots := 0, locals := 22 }
set_option maxHeartbeats 4000000 in
set_option maxRecDepth 100000 in
theorem c_K_snapshot (l : Launch) (G : dk_G) (w : dk_H) (h : Nat) (D : kp_D) (σ : kp_S) (hkp : kp_at G w h D σ) (j : Nat) (hj : j < 6) (hj0 : σ.sn j = none) (hj1 : ∀ i, i < j → (σ.sn i).isSome = true) (hs : σ.sq < 2 ^ 30) : dk_Mi l my_K_snapshot (wd_c my_K_snapshot mb_K_snapshot 2 (some .int)) rm_K_snapshot G w [.ref h] (fun r w1 => r = nI j ∧ kp_at G w1 h D (σ.sn' (va_up σ.sn j (some σ.sq))) ∧ dk_fr kp_T w w1) 0 0 := by
  refine dk_enter (lv := [(0, .ref h)]) (by decide) (Nat.le_of_ble_eq_true rfl) rfl (fun p e s m args below meth c ls Q hQ C hP hS hl => ?_)
  obtain ⟨hx, hb, hr, hml, hlocks, hown, hnm, hts, hE⟩ := C
  have hK := hE.1
  have hN := hE.2.1
  have hh_1021 : w h = some (1, .inr (cx_K, [.ref D.t, .ref D.a, .ref D.lv, .ref D.sn, .ref D.g, .ref D.k, .ref D.ne, .int (nI σ.sf), .int (bo_i σ.ib), .int (nI σ.sq), .int (nI σ.pr), .int (nI σ.mi)])) := hkp.o
  obtain ⟨a_1022, a_1023, _, _, hc_1024, -⟩ := id hkp.s
  refine lv_aload_n hx hb de_K_snapshot_0 rfl (lv_at hl 0 rfl) ?_
  refine dk_get (a := h) (v := .ref D.sn) (C := kn_K) (T := kt_K) (N := 12) hx hb hts ki_K hown hK hP hh_1021 rfl 3 (by decide) (hts _ wi_106) (fun _ h9 => h9) rfl de_K_snapshot_1 ?_
  refine dk_calli (va_runV (As := []) (rest := []) ⟨hx, hb, hml, hown, hts⟩ (c_S_leastFree l G w D.sn σ.sn hkp.s) (cwV 0 hts (wd_gV (C := "RunKeeper$Snapshots") wi_579 wi_576 wi_577 wi_578 wi_3) rfl rfl rfl (by decide +kernel) ⟨Nat.le_of_ble_eq_true rfl, Nat.le_of_ble_eq_true rfl⟩) (dk_preV (kn_S, kt_S, 2) hE hP hS hc_1024 rfl) rfl rfl hl.1 rfl (lv_room (Nat.le_of_ble_eq_true rfl)) de_K_snapshot_4 ⟨(by first | exact Nat.le_of_ble_eq_true rfl | (simp only [Nat.zero_add]; omega) | omega), (by first | exact Nat.le_of_ble_eq_true rfl | (simp only [Nat.zero_add]; omega) | omega)⟩) hS (fun r_1027 w_1025 H locs hq_1026 hP hS => ?_)
  obtain ⟨hq1, hq2⟩ := hq_1026
  rw [hq2] at hP
  have hr9 := sn_lf hj hj0 hj1 hq1
  subst hr9
  refine lv_istore_n (lv' := [(1, .int (nI j)), (0, .ref h)]) hx hb de_K_snapshot_7 rfl hl (by decide) rfl (fun ls hl => ?_)
  refine lv_iload_n hx hb de_K_snapshot_8 rfl (lv_at hl 0 rfl) ?_
  refine nx_if_ge (a := j) (tgt := 22) hx hb (by omega) de_K_snapshot_9 (by decide) ?_
  refine lv_aload_n hx hb de_K_snapshot_22 rfl (lv_at hl 1 rfl) ?_
  refine dk_get (a := h) (v := .ref D.sn) (C := kn_K) (T := kt_K) (N := 12) hx hb hts ki_K hown hK hP hh_1021 rfl 3 (by decide) (hts _ wi_106) (fun _ h9 => h9) rfl de_K_snapshot_23 ?_
  refine lv_iload_n hx hb de_K_snapshot_26 rfl (lv_at hl 0 rfl) ?_
  refine lv_aload_n hx hb de_K_snapshot_27 rfl (lv_at hl 1 rfl) ?_
  refine dk_get (a := h) (v := .int (nI σ.sq)) (C := kn_K) (T := kt_K) (N := 12) hx hb hts ki_K hown hK hP hh_1021 rfl 9 (by decide) (hts _ wi_112) (fun _ h9 => h9) rfl de_K_snapshot_28 ?_
  refine dk_callv (va_runV (As := [.int (nI j), .int (nI σ.sq)]) (rest := []) ⟨hx, hb, hml, hown, hts⟩ (c_S_keep l G w D.sn σ.sn hkp.s j σ.sq hj hs) (cwV 2 hts (wd_gV (C := "RunKeeper$Snapshots") wi_584 wi_581 wi_582 wi_583 wi_3) rfl rfl rfl (by decide +kernel) ⟨Nat.le_of_ble_eq_true rfl, Nat.le_of_ble_eq_true rfl⟩) (dk_preV (kn_S, kt_S, 2) hE hP hS hc_1024 rfl) rfl rfl hl.1 rfl (lv_room (Nat.le_of_ble_eq_true rfl)) de_K_snapshot_31 ⟨(by first | exact Nat.le_of_ble_eq_true rfl | (simp only [Nat.zero_add]; omega) | omega), (by first | exact Nat.le_of_ble_eq_true rfl | (simp only [Nat.zero_add]; omega) | omega)⟩) hS (fun w_1029 H locs hq_1030 hP hS => ?_)
  have hk_1032 : kp_at G w_1029 h D (σ.sn' (va_up σ.sn j (some σ.sq))) := hkp.ofs hq_1030.2 hq_1030.1
  have hh_1033 : w_1029 h = some (1, .inr (cx_K, [.ref D.t, .ref D.a, .ref D.lv, .ref D.sn, .ref D.g, .ref D.k, .ref D.ne, .int (nI σ.sf), .int (bo_i σ.ib), .int (nI σ.sq), .int (nI σ.pr), .int (nI σ.mi)])) := hk_1032.o
  refine lv_iload_n hx hb de_K_snapshot_34 rfl (lv_at hl 0 rfl) ?_
  exact dk_iret hQ hx hb hr hlocks hP hS (Nat.le_refl _) (Nat.le_refl _) (⟨rfl, hk_1032, (kp_s hq_1030.2)⟩) de_K_snapshot_35
abbrev rm_K_release : Room := { frames := 2, cells := 0, slots := 0, locals := 42 }
set_option maxHeartbeats 4000000 in
set_option maxRecDepth 100000 in
theorem c_K_release (l : Launch) (G : dk_G) (w : dk_H) (h : Nat) (D : kp_D) (σ : kp_S) (hkp : kp_at G w h D σ) (j : Nat) (hj : j < 6) (hj1 : (σ.sn j).isSome = true) : dk_Mv l my_K_release (wd_c my_K_release mb_K_release 2 none) rm_K_release G w [.ref h, .int (nI j)] (fun w1 => kp_at G w1 h D (σ.sn' (va_up σ.sn j none)) ∧ dk_fr kp_T w w1) 0 0 := by
  refine dk_enter (lv := [(0, .ref h), (1, .int (nI j))]) (by decide) (Nat.le_of_ble_eq_true rfl) rfl (fun p e s m args below meth c ls Q hQ C hP hS hl => ?_)
  obtain ⟨hx, hb, hr, hml, hlocks, hown, hnm, hts, hE⟩ := C
  have hK := hE.1
  have hN := hE.2.1
  have hh_1034 : w h = some (1, .inr (cx_K, [.ref D.t, .ref D.a, .ref D.lv, .ref D.sn, .ref D.g, .ref D.k, .ref D.ne, .int (nI σ.sf), .int (bo_i σ.ib), .int (nI σ.sq), .int (nI σ.pr), .int (nI σ.mi)])) := hkp.o
  obtain ⟨a_1035, a_1036, _, _, hc_1037, -⟩ := id hkp.s
  refine lv_aload_n hx hb de_K_release_0 rfl (lv_at hl 0 rfl) ?_
  refine dk_get (a := h) (v := .ref D.sn) (C := kn_K) (T := kt_K) (N := 12) hx hb hts ki_K hown hK hP hh_1034 rfl 3 (by decide) (hts _ wi_106) (fun _ h9 => h9) rfl de_K_release_1 ?_
  refine lv_iload_n hx hb de_K_release_4 rfl (lv_at hl 1 rfl) ?_
  refine dk_calli (va_runV (As := [.int (nI j)]) (rest := []) ⟨hx, hb, hml, hown, hts⟩ (c_S_has l G w D.sn σ.sn hkp.s (nI j)) (cwV 1 hts (wd_gV (C := "RunKeeper$Snapshots") wi_595 wi_592 wi_593 wi_594 wi_3) rfl rfl rfl (by decide +kernel) ⟨Nat.le_of_ble_eq_true rfl, Nat.le_of_ble_eq_true rfl⟩) (dk_preV (kn_S, kt_S, 2) hE hP hS hc_1037 rfl) rfl rfl hl.1 rfl (lv_room (Nat.le_of_ble_eq_true rfl)) de_K_release_5 ⟨(by first | exact Nat.le_of_ble_eq_true rfl | (simp only [Nat.zero_add]; omega) | omega), (by first | exact Nat.le_of_ble_eq_true rfl | (simp only [Nat.zero_add]; omega) | omega)⟩) hS (fun r_1040 w_1038 H locs hq_1039 hP hS => ?_)
  rw [sn_g3 hj] at hq_1039
  obtain ⟨hr_1041, he_1042⟩ := hq_1039
  subst hr_1041
  rw [he_1042] at hP
  refine bo_if_ne (b := (σ.sn j).isSome) (tgt := 21) hx hb de_K_release_8 (by decide) (fun c_1043 => ?_) (fun c_1043 => ?_)
  · refine lv_aload_n hx hb de_K_release_21 rfl (lv_at hl 0 rfl) ?_
    refine dk_get (a := h) (v := .ref D.sn) (C := kn_K) (T := kt_K) (N := 12) hx hb hts ki_K hown hK hP hh_1034 rfl 3 (by decide) (hts _ wi_106) (fun _ h9 => h9) rfl de_K_release_22 ?_
    refine lv_iload_n hx hb de_K_release_25 rfl (lv_at hl 1 rfl) ?_
    refine dk_callv (va_runV (As := [.int (nI j)]) (rest := []) ⟨hx, hb, hml, hown, hts⟩ (c_S_forget l G w D.sn σ.sn hkp.s j hj hj1) (cwV 1 hts (wd_gV (C := "RunKeeper$Snapshots") wi_600 wi_597 wi_598 wi_599 wi_3) rfl rfl rfl (by decide +kernel) ⟨Nat.le_of_ble_eq_true rfl, Nat.le_of_ble_eq_true rfl⟩) (dk_preV (kn_S, kt_S, 2) hE hP hS hc_1037 rfl) rfl rfl hl.1 rfl (lv_room (Nat.le_of_ble_eq_true rfl)) de_K_release_26 ⟨(by first | exact Nat.le_of_ble_eq_true rfl | (simp only [Nat.zero_add]; omega) | omega), (by first | exact Nat.le_of_ble_eq_true rfl | (simp only [Nat.zero_add]; omega) | omega)⟩) hS (fun w_1044 H locs hq_1045 hP hS => ?_)
    have hk_1047 : kp_at G w_1044 h D (σ.sn' (va_up σ.sn j none)) := hkp.ofs hq_1045.2 hq_1045.1
    have hh_1048 : w_1044 h = some (1, .inr (cx_K, [.ref D.t, .ref D.a, .ref D.lv, .ref D.sn, .ref D.g, .ref D.k, .ref D.ne, .int (nI σ.sf), .int (bo_i σ.ib), .int (nI σ.sq), .int (nI σ.pr), .int (nI σ.mi)])) := hk_1047.o
    exact dk_vret hQ hx hb hr hlocks hP hS (Nat.le_refl _) (Nat.le_refl _) (⟨hk_1047, (kp_s hq_1045.2)⟩) de_K_release_29
  · exact absurd (hj1.symm.trans c_1043) (by decide)
abbrev rm_K_batch : Room := { frames := 0, cells := 0, slots := 0, locals := 0 }
set_option maxHeartbeats 4000000 in
set_option maxRecDepth 100000 in
theorem c_K_batch (l : Launch) (G : dk_G) (w : dk_H) (h : Nat) (D : kp_D) (σ : kp_S) (hkp : kp_at G w h D σ) (hb0 : σ.ib = false) : dk_Mv l my_K_batch (wd_c my_K_batch mb_K_batch 1 none) rm_K_batch G w [.ref h] (fun w1 => kp_at G w1 h D (σ.ib' true) ∧ dk_fr kp_T w w1) 0 0 := by
  refine dk_enter (lv := [(0, .ref h)]) (by decide) (Nat.le_of_ble_eq_true rfl) rfl (fun p e s m args below meth c ls Q hQ C hP hS hl => ?_)
  obtain ⟨hx, hb, hr, hml, hlocks, hown, hnm, hts, hE⟩ := C
  have hK := hE.1
  have hN := hE.2.1
  have hh_1049 : w h = some (1, .inr (cx_K, [.ref D.t, .ref D.a, .ref D.lv, .ref D.sn, .ref D.g, .ref D.k, .ref D.ne, .int (nI σ.sf), .int (bo_i σ.ib), .int (nI σ.sq), .int (nI σ.pr), .int (nI σ.mi)])) := hkp.o
  refine lv_aload_n hx hb de_K_batch_0 rfl (lv_at hl 0 rfl) ?_
  refine dk_get (a := h) (v := .int (bo_i σ.ib)) (C := kn_K) (T := kt_K) (N := 12) hx hb hts ki_K hown hK hP hh_1049 rfl 8 (by decide) (hts _ wi_111) (fun _ h9 => h9) rfl de_K_batch_1 ?_
  refine bo_if_eq (b := σ.ib) (tgt := 17) hx hb de_K_batch_4 (by decide) (fun c_1050 => ?_) (fun c_1050 => ?_)
  · refine lv_aload_n hx hb de_K_batch_17 rfl (lv_at hl 0 rfl) ?_
    refine lv_iconst (v := nI 1) hx hb de_K_batch_18 (by decide) ?_
    refine dk_put (a := h) (v := .int (nI 1)) (ty := .boolean) (C := kn_K) (T := kt_K) (N := 12) hx hb hts ki_K ky_K kk_K kd_K hown hK hP hS hh_1049 rfl 8 (by decide) (hts _ wi_111) (fun _ h9 => h9) rfl (by decide +kernel) (by decide) (by decide) (Nat.le_of_ble_eq_true rfl) de_K_batch_19 (fun H locs w_1051 hw_1052 hP hS => ?_)
    have h_1053 : w_1051 h = some (1, .inr (cx_K, [.ref D.t, .ref D.a, .ref D.lv, .ref D.sn, .ref D.g, .ref D.k, .ref D.ne, .int (nI σ.sf), .int (nI 1), .int (nI σ.sq), .int (nI σ.pr), .int (nI σ.mi)])) := dk_here hw_1052
    have h_1054 : w_1051 D.lv = some (11, dk_ca G 4 6 D.lf) := dk_keep hw_1052 hh_1049 hkp.l (by decide)
    have hf_1055 : dk_fr (fun t => t = 1) w w_1051 := ((dk_fr.up (T := fun t => t = 1) hh_1049 rfl).eq hw_1052)
    have hg_1057 : w_1051 h = some (1, .inr (cx_K, [.ref D.t, .ref D.a, .ref D.lv, .ref D.sn, .ref D.g, .ref D.k, .ref D.ne, .int (nI σ.sf), .int (bo_i true), .int (nI σ.sq), .int (nI σ.pr), .int (nI σ.mi)])) := by rw [bo_nt]; exact h_1053
    have hk_1056 : kp_at G w_1051 h D (σ.ib' (true)) := hkp.ofo hf_1055 hg_1057 rfl rfl rfl rfl rfl rfl rfl
    have hh_1058 : w_1051 h = some (1, .inr (cx_K, [.ref D.t, .ref D.a, .ref D.lv, .ref D.sn, .ref D.g, .ref D.k, .ref D.ne, .int (nI σ.sf), .int (bo_i true), .int (nI σ.sq), .int (nI σ.pr), .int (nI σ.mi)])) := hk_1056.o
    exact dk_vret hQ hx hb hr hlocks hP hS (Nat.le_refl _) (Nat.le_refl _) (⟨hk_1056, (kp_o hf_1055)⟩) de_K_batch_22
  · exact absurd (hb0.symm.trans c_1050) (by decide)
abbrev rm_K_requireKeyAndView : Room := { frames := 1, cells := 0, slots := 0, locals := 21 }
set_option maxHeartbeats 4000000 in
set_option maxRecDepth 100000 in
theorem c_K_requireKeyAndView (l : Launch) (G : dk_G) (w : dk_H) (h : Nat) (D : kp_D) (σ : kp_S) (hkp : kp_at G w h D σ) (v : Int32) (k u : Nat) (hk0 : k < 1024) (hv : vw_u σ v = some u) : dk_Mv l my_K_requireKeyAndView (wd_c my_K_requireKeyAndView mb_K_requireKeyAndView 3 none) rm_K_requireKeyAndView G w [.ref h, .int v, .int (nI k)] (fun w1 => w1 = w) 0 0 := by
  refine dk_enter (lv := [(0, .ref h), (1, .int v), (2, .int (nI k))]) (by decide) (Nat.le_of_ble_eq_true rfl) rfl (fun p e s m args below meth c ls Q hQ C hP hS hl => ?_)
  obtain ⟨hx, hb, hr, hml, hlocks, hown, hnm, hts, hE⟩ := C
  have hK := hE.1
  have hN := hE.2.1
  have hh_1059 : w h = some (1, .inr (cx_K, [.ref D.t, .ref D.a, .ref D.lv, .ref D.sn, .ref D.g, .ref D.k, .ref D.ne, .int (nI σ.sf), .int (bo_i σ.ib), .int (nI σ.sq), .int (nI σ.pr), .int (nI σ.mi)])) := hkp.o
  refine lv_iload_n hx hb de_K_requireKeyAndView_0 rfl (lv_at hl 2 rfl) ?_
  refine dk_calli (va_runS (As := [.int (nI k)]) (rest := []) ⟨hx, hb, hml, hown, hts⟩ (c_K_isKey l G w (nI k)) (va_cwS 1 hts (wd_gS wi_341 wi_339 wi_340 wi_1) rfl rfl rfl (by decide +kernel) ⟨Nat.le_of_ble_eq_true rfl, Nat.le_of_ble_eq_true rfl⟩) (dk_preS hE hP hS) rfl rfl hl.1 rfl (lv_room (Nat.le_of_ble_eq_true rfl)) de_K_requireKeyAndView_1 ⟨(by first | exact Nat.le_of_ble_eq_true rfl | (simp only [Nat.zero_add]; omega) | omega), (by first | exact Nat.le_of_ble_eq_true rfl | (simp only [Nat.zero_add]; omega) | omega)⟩) hS (fun r_1062 w_1060 H locs hq_1061 hP hS => ?_)
  rw [in_nat (by omega) (by decide)] at hq_1061
  obtain ⟨hr_1063, he_1064⟩ := hq_1061
  subst hr_1063
  rw [he_1064] at hP
  refine bo_if_eq (b := (decide (k < 1024))) (tgt := 23) hx hb de_K_requireKeyAndView_4 (by decide) (fun c_1065 => ?_) (fun c_1065 => ?_)
  · exact absurd c_1065 (by simp [hk0])
  · refine lv_iload_n hx hb de_K_requireKeyAndView_7 rfl (lv_at hl 1 rfl) ?_
    refine lv_iconst (v := (-1)) hx hb de_K_requireKeyAndView_8 (by decide) ?_
    refine lv_icmp_eq (tgt := 34) hx hb de_K_requireKeyAndView_9 (by decide) (fun c_1066 => ?_) (fun c_1066 => ?_)
    · exact dk_vret hQ hx hb hr hlocks hP hS (Nat.le_refl _) (Nat.le_refl _) rfl de_K_requireKeyAndView_34
    · rw [vw_u, if_neg c_1066] at hv
      obtain ⟨a_1067, a_1068, _, _, hc_1069, -⟩ := id hkp.s
      refine lv_aload_n hx hb de_K_requireKeyAndView_12 rfl (lv_at hl 0 rfl) ?_
      refine dk_get (a := h) (v := .ref D.sn) (C := kn_K) (T := kt_K) (N := 12) hx hb hts ki_K hown hK hP hh_1059 rfl 3 (by decide) (hts _ wi_106) (fun _ h9 => h9) rfl de_K_requireKeyAndView_13 ?_
      refine lv_iload_n hx hb de_K_requireKeyAndView_16 rfl (lv_at hl 1 rfl) ?_
      refine dk_calli (va_runV (As := [.int v]) (rest := []) ⟨hx, hb, hml, hown, hts⟩ (c_S_has l G w D.sn σ.sn hkp.s v) (cwV 1 hts (wd_gV (C := "RunKeeper$Snapshots") wi_595 wi_592 wi_593 wi_594 wi_3) rfl rfl rfl (by decide +kernel) ⟨Nat.le_of_ble_eq_true rfl, Nat.le_of_ble_eq_true rfl⟩) (dk_preV (kn_S, kt_S, 2) hE hP hS hc_1069 rfl) rfl rfl hl.1 rfl (lv_room (Nat.le_of_ble_eq_true rfl)) de_K_requireKeyAndView_17 ⟨(by first | exact Nat.le_of_ble_eq_true rfl | (simp only [Nat.zero_add]; omega) | omega), (by first | exact Nat.le_of_ble_eq_true rfl | (simp only [Nat.zero_add]; omega) | omega)⟩) hS (fun r_1072 w_1070 H locs hq_1071 hP hS => ?_)
      rw [hv] at hq_1071
      obtain ⟨hr_1073, he_1074⟩ := hq_1071
      subst hr_1073
      rw [he_1074] at hP
      refine bo_if_ne (b := (some u).isSome) (tgt := 34) hx hb de_K_requireKeyAndView_20 (by decide) (fun c_1075 => ?_) (fun c_1075 => ?_)
      · exact dk_vret hQ hx hb hr hlocks hP hS (Nat.le_refl _) (Nat.le_refl _) rfl de_K_requireKeyAndView_34
      · exact absurd c_1075 (by simp)
abbrev rm_K_get : Room := { frames := 6, cells := 0, slots := 0, locals := 135 }
set_option maxHeartbeats 4000000 in
set_option maxRecDepth 100000 in
theorem c_K_get (l : Launch) (G : dk_G) (w : dk_H) (h : Nat) (D : kp_D) (σ : kp_S) (hkp : kp_at G w h D σ) (v : Int32) (k u : Nat) (hk0 : k < 1024) (hv : vw_u σ v = some u) (hu0 : u < 2 ^ 31) (x : en_T) (hx0 : (lk_K σ k u).1 = some x) (hx1 : x.2.2.2 = false) : dk_Ml l my_K_get (wd_c my_K_get mb_K_get 4 (some .long)) rm_K_get G w [.ref h, .int v, .int (nI k)] (fun r w1 => r = x.2.2.1 ∧ kp_at G w1 h D ((σ.pr' (lk_K σ k u).2.1).mi' (lk_K σ k u).2.2) ∧ dk_fr kp_T w w1) 0 0 := by
  refine dk_enter (lv := [(0, .ref h), (1, .int v), (2, .int (nI k))]) (by decide) (Nat.le_of_ble_eq_true rfl) rfl (fun p e s m args below meth c ls Q hQ C hP hS hl => ?_)
  obtain ⟨hx, hb, hr, hml, hlocks, hown, hnm, hts, hE⟩ := C
  have hK := hE.1
  have hN := hE.2.1
  have hh_1076 : w h = some (1, .inr (cx_K, [.ref D.t, .ref D.a, .ref D.lv, .ref D.sn, .ref D.g, .ref D.k, .ref D.ne, .int (nI σ.sf), .int (bo_i σ.ib), .int (nI σ.sq), .int (nI σ.pr), .int (nI σ.mi)])) := hkp.o
  refine lv_aload_n hx hb de_K_get_0 rfl (lv_at hl 0 rfl) ?_
  refine lv_iload_n hx hb de_K_get_1 rfl (lv_at hl 1 rfl) ?_
  refine lv_iload_n hx hb de_K_get_2 rfl (lv_at hl 2 rfl) ?_
  refine dk_callv (va_runV (As := [.int v, .int (nI k)]) (rest := []) ⟨hx, hb, hml, hown, hts⟩ (c_K_requireKeyAndView l G w h D σ hkp v k u hk0 hv) (cwV 2 hts (wd_gV (C := "RunKeeper") wi_613 wi_610 wi_612 (wd_p (q := (⟨"RunKeeper", "requireKeyAndView", "(II)V"⟩, 12)) (by decide +kernel) (by decide +kernel)) wi_1) rfl rfl rfl (by decide +kernel) ⟨Nat.le_of_ble_eq_true rfl, Nat.le_of_ble_eq_true rfl⟩) (dk_preV (kn_K, kt_K, 12) hE hP hS hh_1076 rfl) rfl rfl hl.1 rfl (lv_room (Nat.le_of_ble_eq_true rfl)) de_K_get_3 ⟨(by first | exact Nat.le_of_ble_eq_true rfl | (simp only [Nat.zero_add]; omega) | omega), (by first | exact Nat.le_of_ble_eq_true rfl | (simp only [Nat.zero_add]; omega) | omega)⟩) hS (fun w_1077 H locs hq_1078 hP hS => ?_)
  rw [hq_1078] at hP
  refine lv_aload_n hx hb de_K_get_6 rfl (lv_at hl 0 rfl) ?_
  refine lv_iload_n hx hb de_K_get_7 rfl (lv_at hl 2 rfl) ?_
  refine lv_aload_n hx hb de_K_get_8 rfl (lv_at hl 0 rfl) ?_
  refine lv_iload_n hx hb de_K_get_9 rfl (lv_at hl 1 rfl) ?_
  refine dk_calli (va_runV (As := [.int v]) (rest := [.int (nI k), .ref h]) ⟨hx, hb, hml, hown, hts⟩ (c_K_sequenceOf l G w h D σ hkp v u hv) (cwV 1 hts (wd_gV (C := "RunKeeper") wi_618 wi_615 wi_617 (wd_p (q := (⟨"RunKeeper", "sequenceOf", "(I)I"⟩, 12)) (by decide +kernel) (by decide +kernel)) wi_1) rfl rfl rfl (by decide +kernel) ⟨Nat.le_of_ble_eq_true rfl, Nat.le_of_ble_eq_true rfl⟩) (dk_preV (kn_K, kt_K, 12) hE hP hS hh_1076 rfl) rfl rfl hl.1 rfl (lv_room (Nat.le_of_ble_eq_true rfl)) de_K_get_10 ⟨(by first | exact Nat.le_of_ble_eq_true rfl | (simp only [Nat.zero_add]; omega) | omega), (by first | exact Nat.le_of_ble_eq_true rfl | (simp only [Nat.zero_add]; omega) | omega)⟩) hS (fun r_1082 w_1080 H locs hq_1081 hP hS => ?_)
  obtain ⟨hr_1083, he_1084⟩ := hq_1081
  subst hr_1083
  rw [he_1084] at hP
  refine dk_callq (va_runV (As := [.int (nI k), .int (nI u)]) (rest := []) ⟨hx, hb, hml, hown, hts⟩ (c_K_look l G w h D σ hkp k u (by omega) hu0) (cwV 2 hts (wd_gV (C := "RunKeeper") wi_626 wi_623 wi_625 (wd_p (q := (⟨"RunKeeper", "look", "(II)LRunKeeper$Entry;"⟩, 12)) (by decide +kernel) (by decide +kernel)) wi_1) rfl rfl rfl (by decide +kernel) ⟨Nat.le_of_ble_eq_true rfl, Nat.le_of_ble_eq_true rfl⟩) (dk_preV (kn_K, kt_K, 12) hE hP hS hh_1076 rfl) rfl rfl hl.1 rfl (lv_room (Nat.le_of_ble_eq_true rfl)) de_K_get_13 ⟨(by first | exact Nat.le_of_ble_eq_true rfl | (simp only [Nat.zero_add]; omega) | omega), (by first | exact Nat.le_of_ble_eq_true rfl | (simp only [Nat.zero_add]; omega) | omega)⟩) hS (fun r_1087 w_1085 H locs hq_1086 hP hS => ?_)
  obtain ⟨hq1, hq2, hq3⟩ := hq_1086
  rw [hx0] at hq1
  obtain ⟨a9, ha9, hae⟩ := hq1
  subst ha9
  refine lv_astore_n (lv' := [(3, .ref a9), (0, .ref h), (1, .int v), (2, .int (nI k))]) hx hb de_K_get_16 rfl hl (by decide) rfl (fun ls hl => ?_)
  refine lv_aload_n hx hb de_K_get_17 rfl (lv_at hl 0 rfl) ?_
  refine lv_ifnull hx hb de_K_get_18 ?_
  refine lv_aload_n hx hb de_K_get_21 rfl (lv_at hl 0 rfl) ?_
  refine dk_getN (a := a9) (v := .int (bo_i x.2.2.2)) (C := kn_E) (T := kt_E) (N := 4) (host := "RunKeeper") hx hb hts ki_E hown hK hP hae rfl 3 (by decide) (hN.use (dn_m 455 (by decide +kernel) rfl)) (fun _ h9 => h9) rfl de_K_get_22 ?_
  refine bo_if_eq (b := x.2.2.2) (tgt := 38) hx hb de_K_get_25 (by decide) (fun c_1089 => ?_) (fun c_1089 => ?_)
  · refine lv_aload_n hx hb de_K_get_38 rfl (lv_at hl 0 rfl) ?_
    refine dk_getN (a := a9) (v := .long x.2.2.1) (C := kn_E) (T := kt_E) (N := 4) (host := "RunKeeper") hx hb hts ki_E hown hK hP hae rfl 2 (by decide) (hN.use (dn_m 452 (by decide +kernel) rfl)) (fun _ h9 => h9) rfl de_K_get_39 ?_
    exact dk_lret hQ hx hb hr hlocks hP hS (Nat.le_refl _) (Nat.le_refl _) (⟨rfl, hq2, hq3⟩) de_K_get_42
  · exact absurd (hx1.symm.trans c_1089) (by decide)
abbrev rm_K_next : Room := { frames := 6, cells := 0, slots := 0, locals := 129 }
set_option maxHeartbeats 4000000 in
set_option maxRecDepth 100000 in
theorem c_K_next (l : Launch) (G : dk_G) (w : dk_H) (h : Nat) (D : kp_D) (σ : kp_S) (hkp : kp_at G w h D σ) (v : Int32) (k u : Nat) (hk0 : k < 1024) (hv : vw_u σ v = some u) (hu0 : u < 2 ^ 31) (hc6 : kp_n σ ≤ 600) : dk_Mi l my_K_next (wd_c my_K_next mb_K_next 5 (some .int)) rm_K_next G w [.ref h, .int v, .int (nI k)] (fun r w1 => nx_r (nn_L u (σ.tb ++ lv_fl σ.lv 6)) k r ∧ kp_at G w1 h D ((σ.ga' (σ.tb ++ lv_fl σ.lv 6)).nw' (nn_L u (σ.tb ++ lv_fl σ.lv 6))) ∧ dk_fr kp_T w w1) 0 0 := by
  refine dk_enter (lv := [(0, .ref h), (1, .int v), (2, .int (nI k))]) (by decide) (Nat.le_of_ble_eq_true rfl) rfl (fun p e s m args below meth c ls Q hQ C hP hS hl => ?_)
  obtain ⟨hx, hb, hr, hml, hlocks, hown, hnm, hts, hE⟩ := C
  have hK := hE.1
  have hN := hE.2.1
  have hh_1090 : w h = some (1, .inr (cx_K, [.ref D.t, .ref D.a, .ref D.lv, .ref D.sn, .ref D.g, .ref D.k, .ref D.ne, .int (nI σ.sf), .int (bo_i σ.ib), .int (nI σ.sq), .int (nI σ.pr), .int (nI σ.mi)])) := hkp.o
  refine lv_aload_n hx hb de_K_next_0 rfl (lv_at hl 0 rfl) ?_
  refine lv_iload_n hx hb de_K_next_1 rfl (lv_at hl 1 rfl) ?_
  refine lv_iload_n hx hb de_K_next_2 rfl (lv_at hl 2 rfl) ?_
  refine dk_callv (va_runV (As := [.int v, .int (nI k)]) (rest := []) ⟨hx, hb, hml, hown, hts⟩ (c_K_requireKeyAndView l G w h D σ hkp v k u hk0 hv) (cwV 2 hts (wd_gV (C := "RunKeeper") wi_613 wi_610 wi_612 (wd_p (q := (⟨"RunKeeper", "requireKeyAndView", "(II)V"⟩, 12)) (by decide +kernel) (by decide +kernel)) wi_1) rfl rfl rfl (by decide +kernel) ⟨Nat.le_of_ble_eq_true rfl, Nat.le_of_ble_eq_true rfl⟩) (dk_preV (kn_K, kt_K, 12) hE hP hS hh_1090 rfl) rfl rfl hl.1 rfl (lv_room (Nat.le_of_ble_eq_true rfl)) de_K_next_3 ⟨(by first | exact Nat.le_of_ble_eq_true rfl | (simp only [Nat.zero_add]; omega) | omega), (by first | exact Nat.le_of_ble_eq_true rfl | (simp only [Nat.zero_add]; omega) | omega)⟩) hS (fun w_1091 H locs hq_1092 hP hS => ?_)
  rw [hq_1092] at hP
  refine lv_aload_n hx hb de_K_next_6 rfl (lv_at hl 0 rfl) ?_
  refine lv_aload_n hx hb de_K_next_7 rfl (lv_at hl 0 rfl) ?_
  refine lv_iload_n hx hb de_K_next_8 rfl (lv_at hl 1 rfl) ?_
  refine dk_calli (va_runV (As := [.int v]) (rest := [.ref h]) ⟨hx, hb, hml, hown, hts⟩ (c_K_sequenceOf l G w h D σ hkp v u hv) (cwV 1 hts (wd_gV (C := "RunKeeper") wi_618 wi_615 wi_617 (wd_p (q := (⟨"RunKeeper", "sequenceOf", "(I)I"⟩, 12)) (by decide +kernel) (by decide +kernel)) wi_1) rfl rfl rfl (by decide +kernel) ⟨Nat.le_of_ble_eq_true rfl, Nat.le_of_ble_eq_true rfl⟩) (dk_preV (kn_K, kt_K, 12) hE hP hS hh_1090 rfl) rfl rfl hl.1 rfl (lv_room (Nat.le_of_ble_eq_true rfl)) de_K_next_9 ⟨(by first | exact Nat.le_of_ble_eq_true rfl | (simp only [Nat.zero_add]; omega) | omega), (by first | exact Nat.le_of_ble_eq_true rfl | (simp only [Nat.zero_add]; omega) | omega)⟩) hS (fun r_1096 w_1094 H locs hq_1095 hP hS => ?_)
  obtain ⟨hr_1097, he_1098⟩ := hq_1095
  subst hr_1097
  rw [he_1098] at hP
  refine dk_callv (va_runV (As := [.int (nI u)]) (rest := []) ⟨hx, hb, hml, hown, hts⟩ (c_K_noteNewestOfKeys l G w h D σ hkp u hu0 hc6) (cwV 1 hts (wd_gV (C := "RunKeeper") wi_682 wi_679 wi_681 (wd_p (q := (⟨"RunKeeper", "noteNewestOfKeys", "(I)V"⟩, 12)) (by decide +kernel) (by decide +kernel)) wi_1) rfl rfl rfl (by decide +kernel) ⟨Nat.le_of_ble_eq_true rfl, Nat.le_of_ble_eq_true rfl⟩) (dk_preV (kn_K, kt_K, 12) hE hP hS hh_1090 rfl) rfl rfl hl.1 rfl (lv_room (Nat.le_of_ble_eq_true rfl)) de_K_next_12 ⟨(by first | exact Nat.le_of_ble_eq_true rfl | (simp only [Nat.zero_add]; omega) | omega), (by first | exact Nat.le_of_ble_eq_true rfl | (simp only [Nat.zero_add]; omega) | omega)⟩) hS (fun w_1099 H locs hq_1100 hP hS => ?_)
  have hk_1102 : kp_at G w_1099 h D ((σ.ga' (σ.tb ++ lv_fl σ.lv 6)).nw' (nn_L u (σ.tb ++ lv_fl σ.lv 6))) := hq_1100.1
  have hh_1103 : w_1099 h = some (1, .inr (cx_K, [.ref D.t, .ref D.a, .ref D.lv, .ref D.sn, .ref D.g, .ref D.k, .ref D.ne, .int (nI σ.sf), .int (bo_i σ.ib), .int (nI σ.sq), .int (nI σ.pr), .int (nI σ.mi)])) := hk_1102.o
  obtain ⟨nf, hnf, hne⟩ := id hk_1102.n
  refine lv_iload_n hx hb de_K_next_15 rfl (lv_at hl 2 rfl) ?_
  refine lv_istore_n (lv' := [(3, .int (nI k)), (0, .ref h), (1, .int v), (2, .int (nI k))]) hx hb de_K_next_16 rfl hl (by decide) rfl (fun ls hl => ?_)
  have lp : ∀ (zk : Nat) (i : Nat), 1024 - i < zk → (k ≤ i ∧ i ≤ 1024) → (∀ j, k ≤ j → j < i → lv_k (nn_L u (σ.tb ++ lv_fl σ.lv 6)) j = false) → ∀ (H : Heap) (locs : List Loc), dk_P G w_1099 H → dk_S G s.heap H locs → ∀ (ls : Array Slot), lv_has ls 5 [(0, .ref h), (1, .int v), (2, .int (nI k)), (3, .int (nI i))] → W p l e rm_K_next s m args below meth c H locs (0 + 0 + 0 + 0) (0 + 0 + 0 + 0) Q (F0 m 17 ls []) := by
    intro zk
    induction zk with
    | zero =>
      intro i hk
      exact absurd hk (by omega)
    | succ zk ih =>
      intro i hk hi hno
      intro H locs hP hS
      intro ls hl
      refine lv_iload_n hx hb de_K_next_17 rfl (lv_at hl 3 rfl) ?_
      refine lv_sipush (v := nI 1024) hx hb de_K_next_18 (by decide) ?_
      refine nx_icmp_ge (a := i) (b := 1024) (tgt := 53) hx hb (by omega) (by omega) de_K_next_21 (by decide) (fun c_1104 => ?_) (fun c_1104 => ?_)
      · refine lv_iconst (v := (-1)) hx hb de_K_next_53 (by decide) ?_
        exact dk_iret hQ hx hb hr hlocks hP hS (Nat.le_refl _) (Nat.le_refl _) (⟨Or.inr ⟨rfl, fun j h1 h2 => hno j h1 (by omega)⟩, hk_1102, (hq_1100.2)⟩) de_K_next_54
      · refine lv_aload_n hx hb de_K_next_24 rfl (lv_at hl 0 rfl) ?_
        refine dk_get (a := h) (v := .ref D.ne) (C := kn_K) (T := kt_K) (N := 12) hx hb hts ki_K hown hK hP hh_1103 rfl 6 (by decide) (hts _ wi_109) (fun _ h9 => h9) rfl de_K_next_25 ?_
        refine lv_iload_n hx hb de_K_next_28 rfl (lv_at hl 3 rfl) ?_
        have hq := hne i (by omega)
        rcases en_qc hq with ⟨hr9, hn9⟩ | ⟨b9, y9, hr9, hn9, hb9⟩
        · replace hn9 : (nn_L u (σ.tb ++ lv_fl σ.lv 6)) i = none := hn9
          refine dk_aald (a := D.ne) (r := none) (C := dk_nE) hx hb hK hP hnf rfl i rfl (by omega) (by omega) hr9 de_K_next_29 ?_
          refine lv_astoreN (lv' := [(4, .null), (0, .ref h), (1, .int v), (2, .int (nI k)), (3, .int (nI i))]) hx hb de_K_next_30 hl (by decide) rfl (fun ls hl => ?_)
          refine lv_aloadN hx hb de_K_next_32 (lv_at hl 0 rfl) ?_
          refine lv_ifnullN (tgt := 47) hx hb de_K_next_34 (by decide) ?_
          refine lv_iinc (v := nI (i + 1)) (lv' := [(3, .int (nI (i + 1))), (4, .null), (0, .ref h), (1, .int v), (2, .int (nI k))]) hx hb de_K_next_47 hl (k := 4) rfl (nx_inc i) (by decide) rfl (fun ls hl => ?_)
          refine lv_goto (tgt := 17) hx hb de_K_next_50 (by decide) ?_
          have hno2 := lk_s hno (lv_kn hn9)
          exact ih (i + 1) (by omega) (by omega) hno2 _ _ hP hS _ (lv_sub hl [2, 3, 4, 0] rfl)
        · replace hn9 : (nn_L u (σ.tb ++ lv_fl σ.lv 6)) i = some y9 := hn9
          refine dk_aald (a := D.ne) (r := some b9) (C := dk_nE) hx hb hK hP hnf rfl i rfl (by omega) (by omega) hr9 de_K_next_29 ?_
          refine lv_astore (lv' := [(4, .ref b9), (0, .ref h), (1, .int v), (2, .int (nI k)), (3, .int (nI i))]) hx hb de_K_next_30 hl (by decide) rfl (fun ls hl => ?_)
          refine lv_aload hx hb de_K_next_32 (lv_at hl 0 rfl) ?_
          refine lv_ifnull hx hb de_K_next_34 ?_
          refine lv_aload hx hb de_K_next_37 (lv_at hl 0 rfl) ?_
          refine dk_getN (a := b9) (v := .int (bo_i y9.2.2.2)) (C := kn_E) (T := kt_E) (N := 4) (host := "RunKeeper") hx hb hts ki_E hown hK hP hb9 rfl 3 (by decide) (hN.use (dn_m 455 (by decide +kernel) rfl)) (fun _ h9 => h9) rfl de_K_next_39 ?_
          refine bo_if_ne (b := y9.2.2.2) (tgt := 47) hx hb de_K_next_42 (by decide) (fun c_1107 => ?_) (fun c_1107 => ?_)
          · refine lv_iinc (v := nI (i + 1)) (lv' := [(3, .int (nI (i + 1))), (4, .ref b9), (0, .ref h), (1, .int v), (2, .int (nI k))]) hx hb de_K_next_47 hl (k := 4) rfl (nx_inc i) (by decide) rfl (fun ls hl => ?_)
            refine lv_goto (tgt := 17) hx hb de_K_next_50 (by decide) ?_
            have hno2 := lk_s hno (lv_kd hn9 c_1107)
            exact ih (i + 1) (by omega) (by omega) hno2 _ _ hP hS _ (lv_sub hl [2, 3, 4, 0] rfl)
          · refine lv_iload_n hx hb de_K_next_45 rfl (lv_at hl 4 rfl) ?_
            exact dk_iret hQ hx hb hr hlocks hP hS (Nat.le_refl _) (Nat.le_refl _) (⟨Or.inl ⟨i, by omega, by omega, rfl, lv_kl hn9 c_1107, hno⟩, hk_1102, (hq_1100.2)⟩) de_K_next_46
  exact lp 1025 k (by omega) (by omega) (fun j h1 h2 => absurd h1 (by omega)) _ _ hP hS _ (lv_sub hl [1, 2, 3, 0] rfl)
end
section
/-! RunKeeper: entry, count, merge where they do not throw (printed by gen/c_keep5.py) -/
/-- up to n steps of merging: how many there were, and the state behind them -/
def mg_n : Nat → kp_S → Nat × kp_S
  | 0, σ => (0, σ)
  | n + 1, σ => match mg_1 σ with
    | none => (0, σ)
    | some τ => ((mg_n n τ).1 + 1, (mg_n n τ).2)
theorem lv_ct_up {lv : Nat → List (List en_T)} {i : Nat} {Rs : List (List en_T)} : ∀ (n : Nat), lv_ct (va_up lv i Rs) n + (if i < n then le_ct (lv i) else 0) = lv_ct lv n + (if i < n then le_ct Rs else 0)
  | 0 => rfl
  | n + 1 => by
    have ih := lv_ct_up (lv := lv) (i := i) (Rs := Rs) n
    simp only [lv_ct]
    by_cases e : n = i
    · subst e
      rw [dk_us, if_pos (by omega), if_pos (by omega)]
      rw [if_neg (by omega), if_neg (by omega)] at ih
      omega
    · rw [dk_un e]
      by_cases h : i < n
      · rw [if_pos h, if_pos h] at ih
        rw [if_pos (by omega), if_pos (by omega)]
        omega
      · rw [if_neg h, if_neg h] at ih
        rw [if_neg (by omega), if_neg (by omega)]
        omega
theorem lv_ct_up6 {lv : Nat → List (List en_T)} {i : Nat} {Rs : List (List en_T)} (hi : i < 6) : lv_ct (va_up lv i Rs) 6 + le_ct (lv i) = lv_ct lv 6 + le_ct Rs := by
  have := lv_ct_up (lv := lv) (i := i) (Rs := Rs) 6
  rw [if_pos hi, if_pos hi] at this
  exact this
theorem mg_K_len (σ : kp_S) (j : Nat) : (mg_K σ j).length ≤ le_ct (σ.lv j) := Nat.le_trans (kw_len _ _ _ _) (by rw [mg_A, so_st_len, le_flat]; exact Nat.le_refl _)
theorem mg_Sn (σ : kp_S) {j : Nat} (hj : j < 5) : kp_n (mg_S σ j) ≤ kp_n σ := by
  have h1 := mg_K_len σ j
  have h2 := lv_ct_up6 (lv := σ.lv) (i := j) (Rs := []) (by omega)
  have h3 := lv_ct_up6 (lv := va_up σ.lv j []) (i := j + 1) (Rs := va_up σ.lv j [] (j + 1) ++ [mg_K σ j]) (by omega)
  rw [le_snoc] at h3
  have h4 : le_ct ([] : List (List en_T)) = 0 := rfl
  unfold mg_S lv_add kp_n
  split
  · show σ.tb.length + lv_ct (va_up σ.lv j []) 6 ≤ _
    omega
  · show σ.tb.length + lv_ct (va_up (va_up σ.lv j []) (j + 1) (va_up σ.lv j [] (j + 1) ++ [mg_K σ j])) 6 ≤ _
    omega
theorem mg_j5 {lv : Nat → List (List en_T)} {j : Nat} (h : mg_j lv = some j) : j < 5 := by
  have := List.mem_of_find?_eq_some h
  simp at this
  omega
theorem mg_1n {σ τ : kp_S} (h : mg_1 σ = some τ) : kp_n τ ≤ kp_n σ := by
  unfold mg_1 at h
  cases hj : mg_j σ.lv with
  | none => rw [hj] at h; cases h
  | some j =>
    rw [hj] at h
    cases h
    exact mg_Sn σ (mg_j5 hj)
abbrev rm_K_entry : Room := { frames := 4, cells := 0, slots := 0, locals := 85 }
set_option maxHeartbeats 4000000 in
set_option maxRecDepth 100000 in
theorem c_K_entry0 (l : Launch) (G : dk_G) (w : dk_H) (h : Nat) (D : kp_D) (σ : kp_S) (hkp : kp_at G w h D σ) (i j k : Nat) (hi : i < 6) (R : List en_T) (hR : (σ.lv i)[j]? = some R) (x : en_T) (hx9 : R[k]? = some x) : dk_Mi l my_K_entry (wd_c my_K_entry mb_K_entry 7 (some .int)) rm_K_entry G w [.ref h, .int (nI i), .int (nI j), .int (nI k), .int (nI 0)] (fun r w1 => r = nI x.1 ∧ w1 = w) 0 0 := by
  have hl9 : (σ.lv i).length ≤ 600 := (hkp.v i hi).2.choose_spec.choose_spec.2.2.2.1
  have hjl := (List.getElem?_eq_some_iff.mp hR).1
  have hkl := (List.getElem?_eq_some_iff.mp hx9).1
  refine dk_enter (lv := [(0, .ref h), (1, .int (nI i)), (2, .int (nI j)), (3, .int (nI k)), (4, .int (nI 0))]) (by decide) (Nat.le_of_ble_eq_true rfl) rfl (fun p e s m args below meth c ls Q hQ C hP hS hl => ?_)
  obtain ⟨hx, hb, hr, hml, hlocks, hown, hnm, hts, hE⟩ := C
  have hK := hE.1
  have hN := hE.2.1
  have hh_1108 : w h = some (1, .inr (cx_K, [.ref D.t, .ref D.a, .ref D.lv, .ref D.sn, .ref D.g, .ref D.k, .ref D.ne, .int (nI σ.sf), .int (bo_i σ.ib), .int (nI σ.sq), .int (nI σ.pr), .int (nI σ.mi)])) := hkp.o
  refine lv_iload_n hx hb de_K_entry_0 rfl (lv_at hl 1 rfl) ?_
  refine dk_calli (va_runS (As := [.int (nI i)]) (rest := []) ⟨hx, hb, hml, hown, hts⟩ (c_K_isLevel l G w (nI i)) (va_cwS 1 hts (wd_gS wi_170 wi_168 wi_169 wi_1) rfl rfl rfl (by decide +kernel) ⟨Nat.le_of_ble_eq_true rfl, Nat.le_of_ble_eq_true rfl⟩) (dk_preS hE hP hS) rfl rfl hl.1 rfl (lv_room (Nat.le_of_ble_eq_true rfl)) de_K_entry_1 ⟨(by first | exact Nat.le_of_ble_eq_true rfl | (simp only [Nat.zero_add]; omega) | omega), (by first | exact Nat.le_of_ble_eq_true rfl | (simp only [Nat.zero_add]; omega) | omega)⟩) hS (fun r_1111 w_1109 H locs hq_1110 hP hS => ?_)
  rw [in_nat (by omega) (by decide)] at hq_1110
  obtain ⟨hr_1112, he_1113⟩ := hq_1110
  subst hr_1112
  rw [he_1113] at hP
  refine bo_if_eq (b := (decide (i < 6))) (tgt := 18) hx hb de_K_entry_4 (by decide) (fun c_1114 => ?_) (fun c_1114 => ?_)
  · exact absurd c_1114 (by simp [hi])
  · refine lv_iload hx hb de_K_entry_7 (lv_at hl 4 rfl) ?_
    refine nx_if_lt (a := 0) (tgt := 18) hx hb (by omega) de_K_entry_9 (by decide) ?_
    refine lv_iload hx hb de_K_entry_12 (lv_at hl 4 rfl) ?_
    refine lv_iconst (v := nI 2) hx hb de_K_entry_14 (by decide) ?_
    refine nx_icmp_le (a := 0) (b := 2) (tgt := 28) hx hb (by omega) (by omega) de_K_entry_15 (by decide) (fun c_1116 => ?_) (fun c_1116 => ?_)
    · refine lv_aload_n hx hb de_K_entry_28 rfl (lv_at hl 0 rfl) ?_
      refine dk_get (a := h) (v := .ref D.lv) (C := kn_K) (T := kt_K) (N := 12) hx hb hts ki_K hown hK hP hh_1108 rfl 2 (by decide) (hts _ wi_105) (fun _ h9 => h9) rfl de_K_entry_29 ?_
      refine lv_iload_n hx hb de_K_entry_32 rfl (lv_at hl 1 rfl) ?_
      refine dk_aald (a := D.lv) (r := some (D.le i)) (C := dk_nL) hx hb hK hP hkp.l rfl i rfl (by omega) (by omega) ((hkp.v i (by omega)).1) de_K_entry_33 ?_
      obtain ⟨al_1117, _, hc_1118, -⟩ := id (hkp.v i (by omega)).2
      refine lv_iload_n hx hb de_K_entry_34 rfl (lv_at hl 2 rfl) ?_
      refine dk_callq (va_runV (As := [.int (nI j)]) (rest := []) ⟨hx, hb, hml, hown, hts⟩ (c_V_runAt l G w (D.le i) (20 + 3 * i) (σ.lv i) (hkp.v i hi).2 (nI j)) (cwV 1 hts (wd_gV (C := "RunKeeper$Level") wi_638 wi_635 wi_636 wi_637 wi_4) rfl rfl rfl (by decide +kernel) ⟨Nat.le_of_ble_eq_true rfl, Nat.le_of_ble_eq_true rfl⟩) (dk_preV (kn_V, kt_V, 2) hE hP hS hc_1118 rfl) rfl rfl hl.1 rfl (lv_room (Nat.le_of_ble_eq_true rfl)) de_K_entry_35 ⟨(by first | exact Nat.le_of_ble_eq_true rfl | (simp only [Nat.zero_add]; omega) | omega), (by first | exact Nat.le_of_ble_eq_true rfl | (simp only [Nat.zero_add]; omega) | omega)⟩) hS (fun r_1121 w_1119 H locs hq_1120 hP hS => ?_)
      obtain ⟨a9, ha9, hrn⟩ := rn_in hq_1120.1 (by omega) (by omega) hR
      rw [hq_1120.2] at hP
      subst ha9
      obtain ⟨r9, fl9, f9, hac, hrw, -, -, -, hR6, -⟩ := id hrn
      obtain ⟨sl9, _, hrc, -⟩ := id hrw
      refine lv_astore (lv' := [(5, .ref a9), (0, .ref h), (1, .int (nI i)), (2, .int (nI j)), (3, .int (nI k)), (4, .int (nI 0))]) hx hb de_K_entry_38 hl (by decide) rfl (fun ls hl => ?_)
      refine lv_aload hx hb de_K_entry_40 (lv_at hl 0 rfl) ?_
      refine lv_ifnonnull (tgt := 49) hx hb de_K_entry_42 (by decide) ?_
      refine lv_aload hx hb de_K_entry_49 (lv_at hl 0 rfl) ?_
      refine dk_callq (va_runV (As := []) (rest := []) ⟨hx, hb, hml, hown, hts⟩ (c_U_entries l G w a9 0 r9 fl9 hac) (cwV 0 hts (wd_gV (C := "RunKeeper$Run") wi_274 wi_651 wi_272 wi_273 wi_15) rfl rfl rfl (by decide +kernel) ⟨Nat.le_of_ble_eq_true rfl, Nat.le_of_ble_eq_true rfl⟩) (dk_preV (kn_U, kt_U, 2) hE hP hS hac rfl) rfl rfl hl.1 rfl (lv_room (Nat.le_of_ble_eq_true rfl)) de_K_entry_51 ⟨(by first | exact Nat.le_of_ble_eq_true rfl | (simp only [Nat.zero_add]; omega) | omega), (by first | exact Nat.le_of_ble_eq_true rfl | (simp only [Nat.zero_add]; omega) | omega)⟩) hS (fun r_1125 w_1123 H locs hq_1124 hP hS => ?_)
      obtain ⟨hr8, hw8⟩ := hq_1124
      subst hr8
      rw [hw8] at hP
      refine lv_iload_n hx hb de_K_entry_54 rfl (lv_at hl 4 rfl) ?_
      refine dk_callq (va_runV (As := [.int (nI k)]) (rest := []) ⟨hx, hb, hml, hown, hts⟩ (c_R_at l G w r9 0 0 R.length R hrw (nI k)) (cwV 1 hts (wd_gV (C := "RunKeeper$Row") wi_191 wi_516 wi_189 wi_190 wi_2) rfl rfl rfl (by decide +kernel) ⟨Nat.le_of_ble_eq_true rfl, Nat.le_of_ble_eq_true rfl⟩) (dk_preV (kn_R, kt_R, 2) hE hP hS hrc rfl) rfl rfl hl.1 rfl (lv_room (Nat.le_of_ble_eq_true rfl)) de_K_entry_55 ⟨(by first | exact Nat.le_of_ble_eq_true rfl | (simp only [Nat.zero_add]; omega) | omega), (by first | exact Nat.le_of_ble_eq_true rfl | (simp only [Nat.zero_add]; omega) | omega)⟩) hS (fun r_1128 w_1126 H locs hq_1127 hP hS => ?_)
      obtain ⟨a1, ha1, ha2⟩ := at_in hq_1127.2 (by omega) (by omega) hx9
      rw [hq_1127.1] at hP
      subst ha1
      refine lv_astore (lv' := [(6, .ref a1), (5, .ref a9), (0, .ref h), (1, .int (nI i)), (2, .int (nI j)), (3, .int (nI k)), (4, .int (nI 0))]) hx hb de_K_entry_58 hl (by decide) rfl (fun ls hl => ?_)
      refine lv_aload hx hb de_K_entry_60 (lv_at hl 0 rfl) ?_
      refine lv_ifnonnull (tgt := 75) hx hb de_K_entry_62 (by decide) ?_
      refine lv_iload hx hb de_K_entry_75 (lv_at hl 6 rfl) ?_
      refine lv_lookup (x := nI 0) (off := 27) (tgt := 104) hx hb de_K_entry_77 (by decide) (by decide) (by decide) ?_
      refine lv_aload hx hb de_K_entry_104 (lv_at hl 0 rfl) ?_
      refine dk_getN (a := a1) (v := .int (nI x.1)) (C := kn_E) (T := kt_E) (N := 4) (host := "RunKeeper") hx hb hts ki_E hown hK hP ha2 rfl 0 (by decide) (hN.use (dn_m 447 (by decide +kernel) rfl)) (fun _ h9 => h9) rfl de_K_entry_106 ?_
      exact dk_iret hQ hx hb hr hlocks hP hS (Nat.le_refl _) (Nat.le_refl _) (⟨rfl, rfl⟩) de_K_entry_109
    · exact absurd c_1116 (by omega)
set_option maxHeartbeats 4000000 in
set_option maxRecDepth 100000 in
theorem c_K_entry1 (l : Launch) (G : dk_G) (w : dk_H) (h : Nat) (D : kp_D) (σ : kp_S) (hkp : kp_at G w h D σ) (i j k : Nat) (hi : i < 6) (R : List en_T) (hR : (σ.lv i)[j]? = some R) (x : en_T) (hx9 : R[k]? = some x) : dk_Mi l my_K_entry (wd_c my_K_entry mb_K_entry 7 (some .int)) rm_K_entry G w [.ref h, .int (nI i), .int (nI j), .int (nI k), .int (nI 1)] (fun r w1 => r = nI x.2.1 ∧ w1 = w) 0 0 := by
  have hl9 : (σ.lv i).length ≤ 600 := (hkp.v i hi).2.choose_spec.choose_spec.2.2.2.1
  have hjl := (List.getElem?_eq_some_iff.mp hR).1
  have hkl := (List.getElem?_eq_some_iff.mp hx9).1
  refine dk_enter (lv := [(0, .ref h), (1, .int (nI i)), (2, .int (nI j)), (3, .int (nI k)), (4, .int (nI 1))]) (by decide) (Nat.le_of_ble_eq_true rfl) rfl (fun p e s m args below meth c ls Q hQ C hP hS hl => ?_)
  obtain ⟨hx, hb, hr, hml, hlocks, hown, hnm, hts, hE⟩ := C
  have hK := hE.1
  have hN := hE.2.1
  have hh_1130 : w h = some (1, .inr (cx_K, [.ref D.t, .ref D.a, .ref D.lv, .ref D.sn, .ref D.g, .ref D.k, .ref D.ne, .int (nI σ.sf), .int (bo_i σ.ib), .int (nI σ.sq), .int (nI σ.pr), .int (nI σ.mi)])) := hkp.o
  refine lv_iload_n hx hb de_K_entry_0 rfl (lv_at hl 1 rfl) ?_
  refine dk_calli (va_runS (As := [.int (nI i)]) (rest := []) ⟨hx, hb, hml, hown, hts⟩ (c_K_isLevel l G w (nI i)) (va_cwS 1 hts (wd_gS wi_170 wi_168 wi_169 wi_1) rfl rfl rfl (by decide +kernel) ⟨Nat.le_of_ble_eq_true rfl, Nat.le_of_ble_eq_true rfl⟩) (dk_preS hE hP hS) rfl rfl hl.1 rfl (lv_room (Nat.le_of_ble_eq_true rfl)) de_K_entry_1 ⟨(by first | exact Nat.le_of_ble_eq_true rfl | (simp only [Nat.zero_add]; omega) | omega), (by first | exact Nat.le_of_ble_eq_true rfl | (simp only [Nat.zero_add]; omega) | omega)⟩) hS (fun r_1133 w_1131 H locs hq_1132 hP hS => ?_)
  rw [in_nat (by omega) (by decide)] at hq_1132
  obtain ⟨hr_1134, he_1135⟩ := hq_1132
  subst hr_1134
  rw [he_1135] at hP
  refine bo_if_eq (b := (decide (i < 6))) (tgt := 18) hx hb de_K_entry_4 (by decide) (fun c_1136 => ?_) (fun c_1136 => ?_)
  · exact absurd c_1136 (by simp [hi])
  · refine lv_iload hx hb de_K_entry_7 (lv_at hl 4 rfl) ?_
    refine nx_if_lt (a := 1) (tgt := 18) hx hb (by omega) de_K_entry_9 (by decide) ?_
    refine lv_iload hx hb de_K_entry_12 (lv_at hl 4 rfl) ?_
    refine lv_iconst (v := nI 2) hx hb de_K_entry_14 (by decide) ?_
    refine nx_icmp_le (a := 1) (b := 2) (tgt := 28) hx hb (by omega) (by omega) de_K_entry_15 (by decide) (fun c_1138 => ?_) (fun c_1138 => ?_)
    · refine lv_aload_n hx hb de_K_entry_28 rfl (lv_at hl 0 rfl) ?_
      refine dk_get (a := h) (v := .ref D.lv) (C := kn_K) (T := kt_K) (N := 12) hx hb hts ki_K hown hK hP hh_1130 rfl 2 (by decide) (hts _ wi_105) (fun _ h9 => h9) rfl de_K_entry_29 ?_
      refine lv_iload_n hx hb de_K_entry_32 rfl (lv_at hl 1 rfl) ?_
      refine dk_aald (a := D.lv) (r := some (D.le i)) (C := dk_nL) hx hb hK hP hkp.l rfl i rfl (by omega) (by omega) ((hkp.v i (by omega)).1) de_K_entry_33 ?_
      obtain ⟨al_1139, _, hc_1140, -⟩ := id (hkp.v i (by omega)).2
      refine lv_iload_n hx hb de_K_entry_34 rfl (lv_at hl 2 rfl) ?_
      refine dk_callq (va_runV (As := [.int (nI j)]) (rest := []) ⟨hx, hb, hml, hown, hts⟩ (c_V_runAt l G w (D.le i) (20 + 3 * i) (σ.lv i) (hkp.v i hi).2 (nI j)) (cwV 1 hts (wd_gV (C := "RunKeeper$Level") wi_638 wi_635 wi_636 wi_637 wi_4) rfl rfl rfl (by decide +kernel) ⟨Nat.le_of_ble_eq_true rfl, Nat.le_of_ble_eq_true rfl⟩) (dk_preV (kn_V, kt_V, 2) hE hP hS hc_1140 rfl) rfl rfl hl.1 rfl (lv_room (Nat.le_of_ble_eq_true rfl)) de_K_entry_35 ⟨(by first | exact Nat.le_of_ble_eq_true rfl | (simp only [Nat.zero_add]; omega) | omega), (by first | exact Nat.le_of_ble_eq_true rfl | (simp only [Nat.zero_add]; omega) | omega)⟩) hS (fun r_1143 w_1141 H locs hq_1142 hP hS => ?_)
      obtain ⟨a9, ha9, hrn⟩ := rn_in hq_1142.1 (by omega) (by omega) hR
      rw [hq_1142.2] at hP
      subst ha9
      obtain ⟨r9, fl9, f9, hac, hrw, -, -, -, hR6, -⟩ := id hrn
      obtain ⟨sl9, _, hrc, -⟩ := id hrw
      refine lv_astore (lv' := [(5, .ref a9), (0, .ref h), (1, .int (nI i)), (2, .int (nI j)), (3, .int (nI k)), (4, .int (nI 1))]) hx hb de_K_entry_38 hl (by decide) rfl (fun ls hl => ?_)
      refine lv_aload hx hb de_K_entry_40 (lv_at hl 0 rfl) ?_
      refine lv_ifnonnull (tgt := 49) hx hb de_K_entry_42 (by decide) ?_
      refine lv_aload hx hb de_K_entry_49 (lv_at hl 0 rfl) ?_
      refine dk_callq (va_runV (As := []) (rest := []) ⟨hx, hb, hml, hown, hts⟩ (c_U_entries l G w a9 0 r9 fl9 hac) (cwV 0 hts (wd_gV (C := "RunKeeper$Run") wi_274 wi_651 wi_272 wi_273 wi_15) rfl rfl rfl (by decide +kernel) ⟨Nat.le_of_ble_eq_true rfl, Nat.le_of_ble_eq_true rfl⟩) (dk_preV (kn_U, kt_U, 2) hE hP hS hac rfl) rfl rfl hl.1 rfl (lv_room (Nat.le_of_ble_eq_true rfl)) de_K_entry_51 ⟨(by first | exact Nat.le_of_ble_eq_true rfl | (simp only [Nat.zero_add]; omega) | omega), (by first | exact Nat.le_of_ble_eq_true rfl | (simp only [Nat.zero_add]; omega) | omega)⟩) hS (fun r_1147 w_1145 H locs hq_1146 hP hS => ?_)
      obtain ⟨hr8, hw8⟩ := hq_1146
      subst hr8
      rw [hw8] at hP
      refine lv_iload_n hx hb de_K_entry_54 rfl (lv_at hl 4 rfl) ?_
      refine dk_callq (va_runV (As := [.int (nI k)]) (rest := []) ⟨hx, hb, hml, hown, hts⟩ (c_R_at l G w r9 0 0 R.length R hrw (nI k)) (cwV 1 hts (wd_gV (C := "RunKeeper$Row") wi_191 wi_516 wi_189 wi_190 wi_2) rfl rfl rfl (by decide +kernel) ⟨Nat.le_of_ble_eq_true rfl, Nat.le_of_ble_eq_true rfl⟩) (dk_preV (kn_R, kt_R, 2) hE hP hS hrc rfl) rfl rfl hl.1 rfl (lv_room (Nat.le_of_ble_eq_true rfl)) de_K_entry_55 ⟨(by first | exact Nat.le_of_ble_eq_true rfl | (simp only [Nat.zero_add]; omega) | omega), (by first | exact Nat.le_of_ble_eq_true rfl | (simp only [Nat.zero_add]; omega) | omega)⟩) hS (fun r_1150 w_1148 H locs hq_1149 hP hS => ?_)
      obtain ⟨a1, ha1, ha2⟩ := at_in hq_1149.2 (by omega) (by omega) hx9
      rw [hq_1149.1] at hP
      subst ha1
      refine lv_astore (lv' := [(6, .ref a1), (5, .ref a9), (0, .ref h), (1, .int (nI i)), (2, .int (nI j)), (3, .int (nI k)), (4, .int (nI 1))]) hx hb de_K_entry_58 hl (by decide) rfl (fun ls hl => ?_)
      refine lv_aload hx hb de_K_entry_60 (lv_at hl 0 rfl) ?_
      refine lv_ifnonnull (tgt := 75) hx hb de_K_entry_62 (by decide) ?_
      refine lv_iload hx hb de_K_entry_75 (lv_at hl 6 rfl) ?_
      refine lv_lookup (x := nI 1) (off := 33) (tgt := 110) hx hb de_K_entry_77 (by decide) (by decide) (by decide) ?_
      refine lv_aload hx hb de_K_entry_110 (lv_at hl 0 rfl) ?_
      refine dk_getN (a := a1) (v := .int (nI x.2.1)) (C := kn_E) (T := kt_E) (N := 4) (host := "RunKeeper") hx hb hts ki_E hown hK hP ha2 rfl 1 (by decide) (hN.use (dn_m 450 (by decide +kernel) rfl)) (fun _ h9 => h9) rfl de_K_entry_112 ?_
      exact dk_iret hQ hx hb hr hlocks hP hS (Nat.le_refl _) (Nat.le_refl _) (⟨rfl, rfl⟩) de_K_entry_115
    · exact absurd c_1138 (by omega)
set_option maxHeartbeats 4000000 in
set_option maxRecDepth 100000 in
theorem c_K_entry2 (l : Launch) (G : dk_G) (w : dk_H) (h : Nat) (D : kp_D) (σ : kp_S) (hkp : kp_at G w h D σ) (i j k : Nat) (hi : i < 6) (R : List en_T) (hR : (σ.lv i)[j]? = some R) (x : en_T) (hx9 : R[k]? = some x) : dk_Mi l my_K_entry (wd_c my_K_entry mb_K_entry 7 (some .int)) rm_K_entry G w [.ref h, .int (nI i), .int (nI j), .int (nI k), .int (nI 2)] (fun r w1 => r = bo_i x.2.2.2 ∧ w1 = w) 0 0 := by
  have hl9 : (σ.lv i).length ≤ 600 := (hkp.v i hi).2.choose_spec.choose_spec.2.2.2.1
  have hjl := (List.getElem?_eq_some_iff.mp hR).1
  have hkl := (List.getElem?_eq_some_iff.mp hx9).1
  refine dk_enter (lv := [(0, .ref h), (1, .int (nI i)), (2, .int (nI j)), (3, .int (nI k)), (4, .int (nI 2))]) (by decide) (Nat.le_of_ble_eq_true rfl) rfl (fun p e s m args below meth c ls Q hQ C hP hS hl => ?_)
  obtain ⟨hx, hb, hr, hml, hlocks, hown, hnm, hts, hE⟩ := C
  have hK := hE.1
  have hN := hE.2.1
  have hh_1152 : w h = some (1, .inr (cx_K, [.ref D.t, .ref D.a, .ref D.lv, .ref D.sn, .ref D.g, .ref D.k, .ref D.ne, .int (nI σ.sf), .int (bo_i σ.ib), .int (nI σ.sq), .int (nI σ.pr), .int (nI σ.mi)])) := hkp.o
  refine lv_iload_n hx hb de_K_entry_0 rfl (lv_at hl 1 rfl) ?_
  refine dk_calli (va_runS (As := [.int (nI i)]) (rest := []) ⟨hx, hb, hml, hown, hts⟩ (c_K_isLevel l G w (nI i)) (va_cwS 1 hts (wd_gS wi_170 wi_168 wi_169 wi_1) rfl rfl rfl (by decide +kernel) ⟨Nat.le_of_ble_eq_true rfl, Nat.le_of_ble_eq_true rfl⟩) (dk_preS hE hP hS) rfl rfl hl.1 rfl (lv_room (Nat.le_of_ble_eq_true rfl)) de_K_entry_1 ⟨(by first | exact Nat.le_of_ble_eq_true rfl | (simp only [Nat.zero_add]; omega) | omega), (by first | exact Nat.le_of_ble_eq_true rfl | (simp only [Nat.zero_add]; omega) | omega)⟩) hS (fun r_1155 w_1153 H locs hq_1154 hP hS => ?_)
  rw [in_nat (by omega) (by decide)] at hq_1154
  obtain ⟨hr_1156, he_1157⟩ := hq_1154
  subst hr_1156
  rw [he_1157] at hP
  refine bo_if_eq (b := (decide (i < 6))) (tgt := 18) hx hb de_K_entry_4 (by decide) (fun c_1158 => ?_) (fun c_1158 => ?_)
  · exact absurd c_1158 (by simp [hi])
  · refine lv_iload hx hb de_K_entry_7 (lv_at hl 4 rfl) ?_
    refine nx_if_lt (a := 2) (tgt := 18) hx hb (by omega) de_K_entry_9 (by decide) ?_
    refine lv_iload hx hb de_K_entry_12 (lv_at hl 4 rfl) ?_
    refine lv_iconst (v := nI 2) hx hb de_K_entry_14 (by decide) ?_
    refine nx_icmp_le (a := 2) (b := 2) (tgt := 28) hx hb (by omega) (by omega) de_K_entry_15 (by decide) (fun c_1160 => ?_) (fun c_1160 => ?_)
    · refine lv_aload_n hx hb de_K_entry_28 rfl (lv_at hl 0 rfl) ?_
      refine dk_get (a := h) (v := .ref D.lv) (C := kn_K) (T := kt_K) (N := 12) hx hb hts ki_K hown hK hP hh_1152 rfl 2 (by decide) (hts _ wi_105) (fun _ h9 => h9) rfl de_K_entry_29 ?_
      refine lv_iload_n hx hb de_K_entry_32 rfl (lv_at hl 1 rfl) ?_
      refine dk_aald (a := D.lv) (r := some (D.le i)) (C := dk_nL) hx hb hK hP hkp.l rfl i rfl (by omega) (by omega) ((hkp.v i (by omega)).1) de_K_entry_33 ?_
      obtain ⟨al_1161, _, hc_1162, -⟩ := id (hkp.v i (by omega)).2
      refine lv_iload_n hx hb de_K_entry_34 rfl (lv_at hl 2 rfl) ?_
      refine dk_callq (va_runV (As := [.int (nI j)]) (rest := []) ⟨hx, hb, hml, hown, hts⟩ (c_V_runAt l G w (D.le i) (20 + 3 * i) (σ.lv i) (hkp.v i hi).2 (nI j)) (cwV 1 hts (wd_gV (C := "RunKeeper$Level") wi_638 wi_635 wi_636 wi_637 wi_4) rfl rfl rfl (by decide +kernel) ⟨Nat.le_of_ble_eq_true rfl, Nat.le_of_ble_eq_true rfl⟩) (dk_preV (kn_V, kt_V, 2) hE hP hS hc_1162 rfl) rfl rfl hl.1 rfl (lv_room (Nat.le_of_ble_eq_true rfl)) de_K_entry_35 ⟨(by first | exact Nat.le_of_ble_eq_true rfl | (simp only [Nat.zero_add]; omega) | omega), (by first | exact Nat.le_of_ble_eq_true rfl | (simp only [Nat.zero_add]; omega) | omega)⟩) hS (fun r_1165 w_1163 H locs hq_1164 hP hS => ?_)
      obtain ⟨a9, ha9, hrn⟩ := rn_in hq_1164.1 (by omega) (by omega) hR
      rw [hq_1164.2] at hP
      subst ha9
      obtain ⟨r9, fl9, f9, hac, hrw, -, -, -, hR6, -⟩ := id hrn
      obtain ⟨sl9, _, hrc, -⟩ := id hrw
      refine lv_astore (lv' := [(5, .ref a9), (0, .ref h), (1, .int (nI i)), (2, .int (nI j)), (3, .int (nI k)), (4, .int (nI 2))]) hx hb de_K_entry_38 hl (by decide) rfl (fun ls hl => ?_)
      refine lv_aload hx hb de_K_entry_40 (lv_at hl 0 rfl) ?_
      refine lv_ifnonnull (tgt := 49) hx hb de_K_entry_42 (by decide) ?_
      refine lv_aload hx hb de_K_entry_49 (lv_at hl 0 rfl) ?_
      refine dk_callq (va_runV (As := []) (rest := []) ⟨hx, hb, hml, hown, hts⟩ (c_U_entries l G w a9 0 r9 fl9 hac) (cwV 0 hts (wd_gV (C := "RunKeeper$Run") wi_274 wi_651 wi_272 wi_273 wi_15) rfl rfl rfl (by decide +kernel) ⟨Nat.le_of_ble_eq_true rfl, Nat.le_of_ble_eq_true rfl⟩) (dk_preV (kn_U, kt_U, 2) hE hP hS hac rfl) rfl rfl hl.1 rfl (lv_room (Nat.le_of_ble_eq_true rfl)) de_K_entry_51 ⟨(by first | exact Nat.le_of_ble_eq_true rfl | (simp only [Nat.zero_add]; omega) | omega), (by first | exact Nat.le_of_ble_eq_true rfl | (simp only [Nat.zero_add]; omega) | omega)⟩) hS (fun r_1169 w_1167 H locs hq_1168 hP hS => ?_)
      obtain ⟨hr8, hw8⟩ := hq_1168
      subst hr8
      rw [hw8] at hP
      refine lv_iload_n hx hb de_K_entry_54 rfl (lv_at hl 4 rfl) ?_
      refine dk_callq (va_runV (As := [.int (nI k)]) (rest := []) ⟨hx, hb, hml, hown, hts⟩ (c_R_at l G w r9 0 0 R.length R hrw (nI k)) (cwV 1 hts (wd_gV (C := "RunKeeper$Row") wi_191 wi_516 wi_189 wi_190 wi_2) rfl rfl rfl (by decide +kernel) ⟨Nat.le_of_ble_eq_true rfl, Nat.le_of_ble_eq_true rfl⟩) (dk_preV (kn_R, kt_R, 2) hE hP hS hrc rfl) rfl rfl hl.1 rfl (lv_room (Nat.le_of_ble_eq_true rfl)) de_K_entry_55 ⟨(by first | exact Nat.le_of_ble_eq_true rfl | (simp only [Nat.zero_add]; omega) | omega), (by first | exact Nat.le_of_ble_eq_true rfl | (simp only [Nat.zero_add]; omega) | omega)⟩) hS (fun r_1172 w_1170 H locs hq_1171 hP hS => ?_)
      obtain ⟨a1, ha1, ha2⟩ := at_in hq_1171.2 (by omega) (by omega) hx9
      rw [hq_1171.1] at hP
      subst ha1
      refine lv_astore (lv' := [(6, .ref a1), (5, .ref a9), (0, .ref h), (1, .int (nI i)), (2, .int (nI j)), (3, .int (nI k)), (4, .int (nI 2))]) hx hb de_K_entry_58 hl (by decide) rfl (fun ls hl => ?_)
      refine lv_aload hx hb de_K_entry_60 (lv_at hl 0 rfl) ?_
      refine lv_ifnonnull (tgt := 75) hx hb de_K_entry_62 (by decide) ?_
      refine lv_iload hx hb de_K_entry_75 (lv_at hl 6 rfl) ?_
      refine lv_lookup (x := nI 2) (off := 39) (tgt := 116) hx hb de_K_entry_77 (by decide) (by decide) (by decide) ?_
      refine lv_aload hx hb de_K_entry_116 (lv_at hl 0 rfl) ?_
      refine dk_getN (a := a1) (v := .int (bo_i x.2.2.2)) (C := kn_E) (T := kt_E) (N := 4) (host := "RunKeeper") hx hb hts ki_E hown hK hP ha2 rfl 3 (by decide) (hN.use (dn_m 455 (by decide +kernel) rfl)) (fun _ h9 => h9) rfl de_K_entry_118 ?_
      refine bo_if_eq (b := x.2.2.2) (tgt := 128) hx hb de_K_entry_121 (by decide) (fun c_1174 => ?_) (fun c_1174 => ?_)
      · refine lv_iconst (v := nI 0) hx hb de_K_entry_128 (by decide) ?_
        exact dk_iret hQ hx hb hr hlocks hP hS (Nat.le_refl _) (Nat.le_refl _) (⟨bo_of0 c_1174, rfl⟩) de_K_entry_129
      · refine lv_iconst (v := nI 1) hx hb de_K_entry_124 (by decide) ?_
        refine lv_goto (tgt := 129) hx hb de_K_entry_125 (by decide) ?_
        exact dk_iret hQ hx hb hr hlocks hP hS (Nat.le_refl _) (Nat.le_refl _) (⟨bo_of1 c_1174, rfl⟩) de_K_entry_129
    · exact absurd c_1160 (by omega)
abbrev rm_K_count : Room := { frames := 2, cells := 0, slots := 0, locals := 42 }
set_option maxHeartbeats 4000000 in
set_option maxRecDepth 100000 in
theorem c_K_count0 (l : Launch) (G : dk_G) (w : dk_H) (h : Nat) (D : kp_D) (σ : kp_S) (hkp : kp_at G w h D σ) (i : Nat) (hi : i < 6) : dk_Mi l my_K_count (wd_c my_K_count mb_K_count 3 (some .int)) rm_K_count G w [.ref h, .int (nI 0), .int (nI i)] (fun r w1 => r = nI (σ.lv i).length ∧ w1 = w) 0 0 := by
  refine dk_enter (lv := [(0, .ref h), (1, .int (nI 0)), (2, .int (nI i))]) (by decide) (Nat.le_of_ble_eq_true rfl) rfl (fun p e s m args below meth c ls Q hQ C hP hS hl => ?_)
  obtain ⟨hx, hb, hr, hml, hlocks, hown, hnm, hts, hE⟩ := C
  have hK := hE.1
  have hN := hE.2.1
  have hh_1175 : w h = some (1, .inr (cx_K, [.ref D.t, .ref D.a, .ref D.lv, .ref D.sn, .ref D.g, .ref D.k, .ref D.ne, .int (nI σ.sf), .int (bo_i σ.ib), .int (nI σ.sq), .int (nI σ.pr), .int (nI σ.mi)])) := hkp.o
  refine lv_iload_n hx hb de_K_count_0 rfl (lv_at hl 1 rfl) ?_
  refine nx_if_lt (a := 0) (tgt := 22) hx hb (by omega) de_K_count_1 (by decide) ?_
  refine lv_iload_n hx hb de_K_count_4 rfl (lv_at hl 1 rfl) ?_
  refine lv_bipush (v := nI 9) hx hb de_K_count_5 (by decide) ?_
  refine nx_icmp_gt (a := 0) (b := 9) (tgt := 22) hx hb (by omega) (by omega) de_K_count_7 (by decide) (fun c_1177 => ?_) (fun c_1177 => ?_)
  · exact absurd c_1177 (by omega)
  · refine lv_iload_n hx hb de_K_count_10 rfl (lv_at hl 1 rfl) ?_
    refine lv_iconst (v := nI 1) hx hb de_K_count_11 (by decide) ?_
    refine nx_icmp_gt (a := 0) (b := 1) (tgt := 32) hx hb (by omega) (by omega) de_K_count_12 (by decide) (fun c_1178 => ?_) (fun c_1178 => ?_)
    · exact absurd c_1178 (by omega)
    · refine lv_iload_n hx hb de_K_count_15 rfl (lv_at hl 2 rfl) ?_
      refine dk_calli (va_runS (As := [.int (nI i)]) (rest := []) ⟨hx, hb, hml, hown, hts⟩ (c_K_isLevel l G w (nI i)) (va_cwS 1 hts (wd_gS wi_170 wi_168 wi_169 wi_1) rfl rfl rfl (by decide +kernel) ⟨Nat.le_of_ble_eq_true rfl, Nat.le_of_ble_eq_true rfl⟩) (dk_preS hE hP hS) rfl rfl hl.1 rfl (lv_room (Nat.le_of_ble_eq_true rfl)) de_K_count_16 ⟨(by first | exact Nat.le_of_ble_eq_true rfl | (simp only [Nat.zero_add]; omega) | omega), (by first | exact Nat.le_of_ble_eq_true rfl | (simp only [Nat.zero_add]; omega) | omega)⟩) hS (fun r_1181 w_1179 H locs hq_1180 hP hS => ?_)
      rw [in_nat (by omega) (by decide)] at hq_1180
      obtain ⟨hr_1182, he_1183⟩ := hq_1180
      subst hr_1182
      rw [he_1183] at hP
      refine bo_if_ne (b := (decide (i < 6))) (tgt := 32) hx hb de_K_count_19 (by decide) (fun c_1184 => ?_) (fun c_1184 => ?_)
      · refine lv_iload_n hx hb de_K_count_32 rfl (lv_at hl 1 rfl) ?_
        refine lv_tableIn (x := nI 0) (off := 51) (tgt := 84) hx hb de_K_count_33 (by decide) (by decide) (by decide) (by decide) ?_
        refine lv_aload_n hx hb de_K_count_84 rfl (lv_at hl 0 rfl) ?_
        refine dk_get (a := h) (v := .ref D.lv) (C := kn_K) (T := kt_K) (N := 12) hx hb hts ki_K hown hK hP hh_1175 rfl 2 (by decide) (hts _ wi_105) (fun _ h9 => h9) rfl de_K_count_85 ?_
        refine lv_iload_n hx hb de_K_count_88 rfl (lv_at hl 2 rfl) ?_
        refine dk_aald (a := D.lv) (r := some (D.le i)) (C := dk_nL) hx hb hK hP hkp.l rfl i rfl (by omega) (by omega) ((hkp.v i (by omega)).1) de_K_count_89 ?_
        obtain ⟨al_1185, _, hc_1186, -⟩ := id (hkp.v i (by omega)).2
        refine dk_calli (va_runV (As := []) (rest := []) ⟨hx, hb, hml, hown, hts⟩ (c_V_runCount l G w (D.le i) (20 + 3 * i) (σ.lv i) (hkp.v i hi).2) (cwV 0 hts (wd_gV (C := "RunKeeper$Level") wi_536 wi_533 wi_534 wi_535 wi_4) rfl rfl rfl (by decide +kernel) ⟨Nat.le_of_ble_eq_true rfl, Nat.le_of_ble_eq_true rfl⟩) (dk_preV (kn_V, kt_V, 2) hE hP hS hc_1186 rfl) rfl rfl hl.1 rfl (lv_room (Nat.le_of_ble_eq_true rfl)) de_K_count_90 ⟨(by first | exact Nat.le_of_ble_eq_true rfl | (simp only [Nat.zero_add]; omega) | omega), (by first | exact Nat.le_of_ble_eq_true rfl | (simp only [Nat.zero_add]; omega) | omega)⟩) hS (fun r_1189 w_1187 H locs hq_1188 hP hS => ?_)
        obtain ⟨hr_1190, he_1191⟩ := hq_1188
        subst hr_1190
        rw [he_1191] at hP
        exact dk_iret hQ hx hb hr hlocks hP hS (Nat.le_refl _) (Nat.le_refl _) (⟨rfl, rfl⟩) de_K_count_93
      · exact absurd c_1184 (by simp [hi])
set_option maxHeartbeats 4000000 in
set_option maxRecDepth 100000 in
theorem c_K_count1 (l : Launch) (G : dk_G) (w : dk_H) (h : Nat) (D : kp_D) (σ : kp_S) (hkp : kp_at G w h D σ) (i : Nat) (hi : i < 6) : dk_Mi l my_K_count (wd_c my_K_count mb_K_count 3 (some .int)) rm_K_count G w [.ref h, .int (nI 1), .int (nI i)] (fun r w1 => r = nI (le_ct (σ.lv i)) ∧ w1 = w) 0 0 := by
  refine dk_enter (lv := [(0, .ref h), (1, .int (nI 1)), (2, .int (nI i))]) (by decide) (Nat.le_of_ble_eq_true rfl) rfl (fun p e s m args below meth c ls Q hQ C hP hS hl => ?_)
  obtain ⟨hx, hb, hr, hml, hlocks, hown, hnm, hts, hE⟩ := C
  have hK := hE.1
  have hN := hE.2.1
  have hh_1192 : w h = some (1, .inr (cx_K, [.ref D.t, .ref D.a, .ref D.lv, .ref D.sn, .ref D.g, .ref D.k, .ref D.ne, .int (nI σ.sf), .int (bo_i σ.ib), .int (nI σ.sq), .int (nI σ.pr), .int (nI σ.mi)])) := hkp.o
  refine lv_iload_n hx hb de_K_count_0 rfl (lv_at hl 1 rfl) ?_
  refine nx_if_lt (a := 1) (tgt := 22) hx hb (by omega) de_K_count_1 (by decide) ?_
  refine lv_iload_n hx hb de_K_count_4 rfl (lv_at hl 1 rfl) ?_
  refine lv_bipush (v := nI 9) hx hb de_K_count_5 (by decide) ?_
  refine nx_icmp_gt (a := 1) (b := 9) (tgt := 22) hx hb (by omega) (by omega) de_K_count_7 (by decide) (fun c_1194 => ?_) (fun c_1194 => ?_)
  · exact absurd c_1194 (by omega)
  · refine lv_iload_n hx hb de_K_count_10 rfl (lv_at hl 1 rfl) ?_
    refine lv_iconst (v := nI 1) hx hb de_K_count_11 (by decide) ?_
    refine nx_icmp_gt (a := 1) (b := 1) (tgt := 32) hx hb (by omega) (by omega) de_K_count_12 (by decide) (fun c_1195 => ?_) (fun c_1195 => ?_)
    · exact absurd c_1195 (by omega)
    · refine lv_iload_n hx hb de_K_count_15 rfl (lv_at hl 2 rfl) ?_
      refine dk_calli (va_runS (As := [.int (nI i)]) (rest := []) ⟨hx, hb, hml, hown, hts⟩ (c_K_isLevel l G w (nI i)) (va_cwS 1 hts (wd_gS wi_170 wi_168 wi_169 wi_1) rfl rfl rfl (by decide +kernel) ⟨Nat.le_of_ble_eq_true rfl, Nat.le_of_ble_eq_true rfl⟩) (dk_preS hE hP hS) rfl rfl hl.1 rfl (lv_room (Nat.le_of_ble_eq_true rfl)) de_K_count_16 ⟨(by first | exact Nat.le_of_ble_eq_true rfl | (simp only [Nat.zero_add]; omega) | omega), (by first | exact Nat.le_of_ble_eq_true rfl | (simp only [Nat.zero_add]; omega) | omega)⟩) hS (fun r_1198 w_1196 H locs hq_1197 hP hS => ?_)
      rw [in_nat (by omega) (by decide)] at hq_1197
      obtain ⟨hr_1199, he_1200⟩ := hq_1197
      subst hr_1199
      rw [he_1200] at hP
      refine bo_if_ne (b := (decide (i < 6))) (tgt := 32) hx hb de_K_count_19 (by decide) (fun c_1201 => ?_) (fun c_1201 => ?_)
      · refine lv_iload_n hx hb de_K_count_32 rfl (lv_at hl 1 rfl) ?_
        refine lv_tableIn (x := nI 1) (off := 61) (tgt := 94) hx hb de_K_count_33 (by decide) (by decide) (by decide) (by decide) ?_
        refine lv_aload_n hx hb de_K_count_94 rfl (lv_at hl 0 rfl) ?_
        refine dk_get (a := h) (v := .ref D.lv) (C := kn_K) (T := kt_K) (N := 12) hx hb hts ki_K hown hK hP hh_1192 rfl 2 (by decide) (hts _ wi_105) (fun _ h9 => h9) rfl de_K_count_95 ?_
        refine lv_iload_n hx hb de_K_count_98 rfl (lv_at hl 2 rfl) ?_
        refine dk_aald (a := D.lv) (r := some (D.le i)) (C := dk_nL) hx hb hK hP hkp.l rfl i rfl (by omega) (by omega) ((hkp.v i (by omega)).1) de_K_count_99 ?_
        obtain ⟨al_1202, _, hc_1203, -⟩ := id (hkp.v i (by omega)).2
        refine dk_calli (va_runV (As := []) (rest := []) ⟨hx, hb, hml, hown, hts⟩ (c_V_entryCount l G w (D.le i) (20 + 3 * i) (σ.lv i) (hkp.v i hi).2) (cwV 0 hts (wd_gV (C := "RunKeeper$Level") wi_422 wi_419 wi_420 wi_421 wi_4) rfl rfl rfl (by decide +kernel) ⟨Nat.le_of_ble_eq_true rfl, Nat.le_of_ble_eq_true rfl⟩) (dk_preV (kn_V, kt_V, 2) hE hP hS hc_1203 rfl) rfl rfl hl.1 rfl (lv_room (Nat.le_of_ble_eq_true rfl)) de_K_count_100 ⟨(by first | exact Nat.le_of_ble_eq_true rfl | (simp only [Nat.zero_add]; omega) | omega), (by first | exact Nat.le_of_ble_eq_true rfl | (simp only [Nat.zero_add]; omega) | omega)⟩) hS (fun r_1206 w_1204 H locs hq_1205 hP hS => ?_)
        obtain ⟨hr_1207, he_1208⟩ := hq_1205
        subst hr_1207
        rw [he_1208] at hP
        exact dk_iret hQ hx hb hr hlocks hP hS (Nat.le_refl _) (Nat.le_refl _) (⟨rfl, rfl⟩) de_K_count_103
      · exact absurd c_1201 (by simp [hi])
set_option maxHeartbeats 4000000 in
set_option maxRecDepth 100000 in
theorem c_K_count2 (l : Launch) (G : dk_G) (w : dk_H) (h : Nat) (D : kp_D) (σ : kp_S) (hkp : kp_at G w h D σ) (k : Int32) : dk_Mi l my_K_count (wd_c my_K_count mb_K_count 3 (some .int)) rm_K_count G w [.ref h, .int (nI 2), .int k] (fun r w1 => r = nI σ.tb.length ∧ w1 = w) 0 0 := by
  refine dk_enter (lv := [(0, .ref h), (1, .int (nI 2)), (2, .int k)]) (by decide) (Nat.le_of_ble_eq_true rfl) rfl (fun p e s m args below meth c ls Q hQ C hP hS hl => ?_)
  obtain ⟨hx, hb, hr, hml, hlocks, hown, hnm, hts, hE⟩ := C
  have hK := hE.1
  have hN := hE.2.1
  have hh_1209 : w h = some (1, .inr (cx_K, [.ref D.t, .ref D.a, .ref D.lv, .ref D.sn, .ref D.g, .ref D.k, .ref D.ne, .int (nI σ.sf), .int (bo_i σ.ib), .int (nI σ.sq), .int (nI σ.pr), .int (nI σ.mi)])) := hkp.o
  refine lv_iload_n hx hb de_K_count_0 rfl (lv_at hl 1 rfl) ?_
  refine nx_if_lt (a := 2) (tgt := 22) hx hb (by omega) de_K_count_1 (by decide) ?_
  refine lv_iload_n hx hb de_K_count_4 rfl (lv_at hl 1 rfl) ?_
  refine lv_bipush (v := nI 9) hx hb de_K_count_5 (by decide) ?_
  refine nx_icmp_gt (a := 2) (b := 9) (tgt := 22) hx hb (by omega) (by omega) de_K_count_7 (by decide) (fun c_1211 => ?_) (fun c_1211 => ?_)
  · exact absurd c_1211 (by omega)
  · refine lv_iload_n hx hb de_K_count_10 rfl (lv_at hl 1 rfl) ?_
    refine lv_iconst (v := nI 1) hx hb de_K_count_11 (by decide) ?_
    refine nx_icmp_gt (a := 2) (b := 1) (tgt := 32) hx hb (by omega) (by omega) de_K_count_12 (by decide) (fun c_1212 => ?_) (fun c_1212 => ?_)
    · refine lv_iload_n hx hb de_K_count_32 rfl (lv_at hl 1 rfl) ?_
      refine lv_tableIn (x := nI 2) (off := 71) (tgt := 104) hx hb de_K_count_33 (by decide) (by decide) (by decide) (by decide) ?_
      refine lv_aload_n hx hb de_K_count_104 rfl (lv_at hl 0 rfl) ?_
      refine dk_get (a := h) (v := .ref D.t) (C := kn_K) (T := kt_K) (N := 12) hx hb hts ki_K hown hK hP hh_1209 rfl 0 (by decide) (hts _ wi_103) (fun _ h9 => h9) rfl de_K_count_105 ?_
      obtain ⟨sl_1213, _, hc_1214, -⟩ := id hkp.t
      refine dk_calli (va_runV (As := []) (rest := []) ⟨hx, hb, hml, hown, hts⟩ (c_R_size l G w D.t 2 3 40 σ.tb hkp.t) (cwV 0 hts (wd_gV (C := "RunKeeper$Row") wi_147 wi_144 wi_145 wi_146 wi_2) rfl rfl rfl (by decide +kernel) ⟨Nat.le_of_ble_eq_true rfl, Nat.le_of_ble_eq_true rfl⟩) (dk_preV (kn_R, kt_R, 2) hE hP hS hc_1214 rfl) rfl rfl hl.1 rfl (lv_room (Nat.le_of_ble_eq_true rfl)) de_K_count_108 ⟨(by first | exact Nat.le_of_ble_eq_true rfl | (simp only [Nat.zero_add]; omega) | omega), (by first | exact Nat.le_of_ble_eq_true rfl | (simp only [Nat.zero_add]; omega) | omega)⟩) hS (fun r_1217 w_1215 H locs hq_1216 hP hS => ?_)
      obtain ⟨hr_1218, he_1219⟩ := hq_1216
      subst hr_1218
      rw [he_1219] at hP
      exact dk_iret hQ hx hb hr hlocks hP hS (Nat.le_refl _) (Nat.le_refl _) (⟨rfl, rfl⟩) de_K_count_111
    · exact absurd c_1212 (by omega)
set_option maxHeartbeats 4000000 in
set_option maxRecDepth 100000 in
theorem c_K_count3 (l : Launch) (G : dk_G) (w : dk_H) (h : Nat) (D : kp_D) (σ : kp_S) (hkp : kp_at G w h D σ) (k : Int32) : dk_Mi l my_K_count (wd_c my_K_count mb_K_count 3 (some .int)) rm_K_count G w [.ref h, .int (nI 3), .int k] (fun r w1 => r = nI σ.sf ∧ w1 = w) 0 0 := by
  refine dk_enter (lv := [(0, .ref h), (1, .int (nI 3)), (2, .int k)]) (by decide) (Nat.le_of_ble_eq_true rfl) rfl (fun p e s m args below meth c ls Q hQ C hP hS hl => ?_)
  obtain ⟨hx, hb, hr, hml, hlocks, hown, hnm, hts, hE⟩ := C
  have hK := hE.1
  have hN := hE.2.1
  have hh_1220 : w h = some (1, .inr (cx_K, [.ref D.t, .ref D.a, .ref D.lv, .ref D.sn, .ref D.g, .ref D.k, .ref D.ne, .int (nI σ.sf), .int (bo_i σ.ib), .int (nI σ.sq), .int (nI σ.pr), .int (nI σ.mi)])) := hkp.o
  refine lv_iload_n hx hb de_K_count_0 rfl (lv_at hl 1 rfl) ?_
  refine nx_if_lt (a := 3) (tgt := 22) hx hb (by omega) de_K_count_1 (by decide) ?_
  refine lv_iload_n hx hb de_K_count_4 rfl (lv_at hl 1 rfl) ?_
  refine lv_bipush (v := nI 9) hx hb de_K_count_5 (by decide) ?_
  refine nx_icmp_gt (a := 3) (b := 9) (tgt := 22) hx hb (by omega) (by omega) de_K_count_7 (by decide) (fun c_1222 => ?_) (fun c_1222 => ?_)
  · exact absurd c_1222 (by omega)
  · refine lv_iload_n hx hb de_K_count_10 rfl (lv_at hl 1 rfl) ?_
    refine lv_iconst (v := nI 1) hx hb de_K_count_11 (by decide) ?_
    refine nx_icmp_gt (a := 3) (b := 1) (tgt := 32) hx hb (by omega) (by omega) de_K_count_12 (by decide) (fun c_1223 => ?_) (fun c_1223 => ?_)
    · refine lv_iload_n hx hb de_K_count_32 rfl (lv_at hl 1 rfl) ?_
      refine lv_tableIn (x := nI 3) (off := 79) (tgt := 112) hx hb de_K_count_33 (by decide) (by decide) (by decide) (by decide) ?_
      refine lv_aload_n hx hb de_K_count_112 rfl (lv_at hl 0 rfl) ?_
      refine dk_get (a := h) (v := .int (nI σ.sf)) (C := kn_K) (T := kt_K) (N := 12) hx hb hts ki_K hown hK hP hh_1220 rfl 7 (by decide) (hts _ wi_110) (fun _ h9 => h9) rfl de_K_count_113 ?_
      exact dk_iret hQ hx hb hr hlocks hP hS (Nat.le_refl _) (Nat.le_refl _) (⟨rfl, rfl⟩) de_K_count_116
    · exact absurd c_1223 (by omega)
set_option maxHeartbeats 4000000 in
set_option maxRecDepth 100000 in
theorem c_K_count4 (l : Launch) (G : dk_G) (w : dk_H) (h : Nat) (D : kp_D) (σ : kp_S) (hkp : kp_at G w h D σ) (k : Int32) : dk_Mi l my_K_count (wd_c my_K_count mb_K_count 3 (some .int)) rm_K_count G w [.ref h, .int (nI 4), .int k] (fun r w1 => r = nI σ.sq ∧ w1 = w) 0 0 := by
  refine dk_enter (lv := [(0, .ref h), (1, .int (nI 4)), (2, .int k)]) (by decide) (Nat.le_of_ble_eq_true rfl) rfl (fun p e s m args below meth c ls Q hQ C hP hS hl => ?_)
  obtain ⟨hx, hb, hr, hml, hlocks, hown, hnm, hts, hE⟩ := C
  have hK := hE.1
  have hN := hE.2.1
  have hh_1224 : w h = some (1, .inr (cx_K, [.ref D.t, .ref D.a, .ref D.lv, .ref D.sn, .ref D.g, .ref D.k, .ref D.ne, .int (nI σ.sf), .int (bo_i σ.ib), .int (nI σ.sq), .int (nI σ.pr), .int (nI σ.mi)])) := hkp.o
  refine lv_iload_n hx hb de_K_count_0 rfl (lv_at hl 1 rfl) ?_
  refine nx_if_lt (a := 4) (tgt := 22) hx hb (by omega) de_K_count_1 (by decide) ?_
  refine lv_iload_n hx hb de_K_count_4 rfl (lv_at hl 1 rfl) ?_
  refine lv_bipush (v := nI 9) hx hb de_K_count_5 (by decide) ?_
  refine nx_icmp_gt (a := 4) (b := 9) (tgt := 22) hx hb (by omega) (by omega) de_K_count_7 (by decide) (fun c_1226 => ?_) (fun c_1226 => ?_)
  · exact absurd c_1226 (by omega)
  · refine lv_iload_n hx hb de_K_count_10 rfl (lv_at hl 1 rfl) ?_
    refine lv_iconst (v := nI 1) hx hb de_K_count_11 (by decide) ?_
    refine nx_icmp_gt (a := 4) (b := 1) (tgt := 32) hx hb (by omega) (by omega) de_K_count_12 (by decide) (fun c_1227 => ?_) (fun c_1227 => ?_)
    · refine lv_iload_n hx hb de_K_count_32 rfl (lv_at hl 1 rfl) ?_
      refine lv_tableIn (x := nI 4) (off := 84) (tgt := 117) hx hb de_K_count_33 (by decide) (by decide) (by decide) (by decide) ?_
      refine lv_aload_n hx hb de_K_count_117 rfl (lv_at hl 0 rfl) ?_
      refine dk_get (a := h) (v := .int (nI σ.sq)) (C := kn_K) (T := kt_K) (N := 12) hx hb hts ki_K hown hK hP hh_1224 rfl 9 (by decide) (hts _ wi_112) (fun _ h9 => h9) rfl de_K_count_118 ?_
      exact dk_iret hQ hx hb hr hlocks hP hS (Nat.le_refl _) (Nat.le_refl _) (⟨rfl, rfl⟩) de_K_count_121
    · exact absurd c_1227 (by omega)
set_option maxHeartbeats 4000000 in
set_option maxRecDepth 100000 in
theorem c_K_count5 (l : Launch) (G : dk_G) (w : dk_H) (h : Nat) (D : kp_D) (σ : kp_S) (hkp : kp_at G w h D σ) (k : Int32) : dk_Mi l my_K_count (wd_c my_K_count mb_K_count 3 (some .int)) rm_K_count G w [.ref h, .int (nI 5), .int k] (fun r w1 => r = nI σ.pr ∧ w1 = w) 0 0 := by
  refine dk_enter (lv := [(0, .ref h), (1, .int (nI 5)), (2, .int k)]) (by decide) (Nat.le_of_ble_eq_true rfl) rfl (fun p e s m args below meth c ls Q hQ C hP hS hl => ?_)
  obtain ⟨hx, hb, hr, hml, hlocks, hown, hnm, hts, hE⟩ := C
  have hK := hE.1
  have hN := hE.2.1
  have hh_1228 : w h = some (1, .inr (cx_K, [.ref D.t, .ref D.a, .ref D.lv, .ref D.sn, .ref D.g, .ref D.k, .ref D.ne, .int (nI σ.sf), .int (bo_i σ.ib), .int (nI σ.sq), .int (nI σ.pr), .int (nI σ.mi)])) := hkp.o
  refine lv_iload_n hx hb de_K_count_0 rfl (lv_at hl 1 rfl) ?_
  refine nx_if_lt (a := 5) (tgt := 22) hx hb (by omega) de_K_count_1 (by decide) ?_
  refine lv_iload_n hx hb de_K_count_4 rfl (lv_at hl 1 rfl) ?_
  refine lv_bipush (v := nI 9) hx hb de_K_count_5 (by decide) ?_
  refine nx_icmp_gt (a := 5) (b := 9) (tgt := 22) hx hb (by omega) (by omega) de_K_count_7 (by decide) (fun c_1230 => ?_) (fun c_1230 => ?_)
  · exact absurd c_1230 (by omega)
  · refine lv_iload_n hx hb de_K_count_10 rfl (lv_at hl 1 rfl) ?_
    refine lv_iconst (v := nI 1) hx hb de_K_count_11 (by decide) ?_
    refine nx_icmp_gt (a := 5) (b := 1) (tgt := 32) hx hb (by omega) (by omega) de_K_count_12 (by decide) (fun c_1231 => ?_) (fun c_1231 => ?_)
    · refine lv_iload_n hx hb de_K_count_32 rfl (lv_at hl 1 rfl) ?_
      refine lv_tableIn (x := nI 5) (off := 89) (tgt := 122) hx hb de_K_count_33 (by decide) (by decide) (by decide) (by decide) ?_
      refine lv_aload_n hx hb de_K_count_122 rfl (lv_at hl 0 rfl) ?_
      refine dk_get (a := h) (v := .int (nI σ.pr)) (C := kn_K) (T := kt_K) (N := 12) hx hb hts ki_K hown hK hP hh_1228 rfl 10 (by decide) (hts _ wi_113) (fun _ h9 => h9) rfl de_K_count_123 ?_
      exact dk_iret hQ hx hb hr hlocks hP hS (Nat.le_refl _) (Nat.le_refl _) (⟨rfl, rfl⟩) de_K_count_126
    · exact absurd c_1231 (by omega)
set_option maxHeartbeats 4000000 in
set_option maxRecDepth 100000 in
theorem c_K_count6 (l : Launch) (G : dk_G) (w : dk_H) (h : Nat) (D : kp_D) (σ : kp_S) (hkp : kp_at G w h D σ) (k : Int32) : dk_Mi l my_K_count (wd_c my_K_count mb_K_count 3 (some .int)) rm_K_count G w [.ref h, .int (nI 6), .int k] (fun r w1 => r = nI σ.mi ∧ w1 = w) 0 0 := by
  refine dk_enter (lv := [(0, .ref h), (1, .int (nI 6)), (2, .int k)]) (by decide) (Nat.le_of_ble_eq_true rfl) rfl (fun p e s m args below meth c ls Q hQ C hP hS hl => ?_)
  obtain ⟨hx, hb, hr, hml, hlocks, hown, hnm, hts, hE⟩ := C
  have hK := hE.1
  have hN := hE.2.1
  have hh_1232 : w h = some (1, .inr (cx_K, [.ref D.t, .ref D.a, .ref D.lv, .ref D.sn, .ref D.g, .ref D.k, .ref D.ne, .int (nI σ.sf), .int (bo_i σ.ib), .int (nI σ.sq), .int (nI σ.pr), .int (nI σ.mi)])) := hkp.o
  refine lv_iload_n hx hb de_K_count_0 rfl (lv_at hl 1 rfl) ?_
  refine nx_if_lt (a := 6) (tgt := 22) hx hb (by omega) de_K_count_1 (by decide) ?_
  refine lv_iload_n hx hb de_K_count_4 rfl (lv_at hl 1 rfl) ?_
  refine lv_bipush (v := nI 9) hx hb de_K_count_5 (by decide) ?_
  refine nx_icmp_gt (a := 6) (b := 9) (tgt := 22) hx hb (by omega) (by omega) de_K_count_7 (by decide) (fun c_1234 => ?_) (fun c_1234 => ?_)
  · exact absurd c_1234 (by omega)
  · refine lv_iload_n hx hb de_K_count_10 rfl (lv_at hl 1 rfl) ?_
    refine lv_iconst (v := nI 1) hx hb de_K_count_11 (by decide) ?_
    refine nx_icmp_gt (a := 6) (b := 1) (tgt := 32) hx hb (by omega) (by omega) de_K_count_12 (by decide) (fun c_1235 => ?_) (fun c_1235 => ?_)
    · refine lv_iload_n hx hb de_K_count_32 rfl (lv_at hl 1 rfl) ?_
      refine lv_tableIn (x := nI 6) (off := 94) (tgt := 127) hx hb de_K_count_33 (by decide) (by decide) (by decide) (by decide) ?_
      refine lv_aload_n hx hb de_K_count_127 rfl (lv_at hl 0 rfl) ?_
      refine dk_get (a := h) (v := .int (nI σ.mi)) (C := kn_K) (T := kt_K) (N := 12) hx hb hts ki_K hown hK hP hh_1232 rfl 11 (by decide) (hts _ wi_114) (fun _ h9 => h9) rfl de_K_count_128 ?_
      exact dk_iret hQ hx hb hr hlocks hP hS (Nat.le_refl _) (Nat.le_refl _) (⟨rfl, rfl⟩) de_K_count_131
    · exact absurd c_1235 (by omega)
set_option maxHeartbeats 4000000 in
set_option maxRecDepth 100000 in
theorem c_K_count7 (l : Launch) (G : dk_G) (w : dk_H) (h : Nat) (D : kp_D) (σ : kp_S) (hkp : kp_at G w h D σ) (k : Int32) : dk_Mi l my_K_count (wd_c my_K_count mb_K_count 3 (some .int)) rm_K_count G w [.ref h, .int (nI 7), .int k] (fun r w1 => r = nI (sn_ct σ.sn 6) ∧ w1 = w) 0 0 := by
  refine dk_enter (lv := [(0, .ref h), (1, .int (nI 7)), (2, .int k)]) (by decide) (Nat.le_of_ble_eq_true rfl) rfl (fun p e s m args below meth c ls Q hQ C hP hS hl => ?_)
  obtain ⟨hx, hb, hr, hml, hlocks, hown, hnm, hts, hE⟩ := C
  have hK := hE.1
  have hN := hE.2.1
  have hh_1236 : w h = some (1, .inr (cx_K, [.ref D.t, .ref D.a, .ref D.lv, .ref D.sn, .ref D.g, .ref D.k, .ref D.ne, .int (nI σ.sf), .int (bo_i σ.ib), .int (nI σ.sq), .int (nI σ.pr), .int (nI σ.mi)])) := hkp.o
  refine lv_iload_n hx hb de_K_count_0 rfl (lv_at hl 1 rfl) ?_
  refine nx_if_lt (a := 7) (tgt := 22) hx hb (by omega) de_K_count_1 (by decide) ?_
  refine lv_iload_n hx hb de_K_count_4 rfl (lv_at hl 1 rfl) ?_
  refine lv_bipush (v := nI 9) hx hb de_K_count_5 (by decide) ?_
  refine nx_icmp_gt (a := 7) (b := 9) (tgt := 22) hx hb (by omega) (by omega) de_K_count_7 (by decide) (fun c_1238 => ?_) (fun c_1238 => ?_)
  · exact absurd c_1238 (by omega)
  · refine lv_iload_n hx hb de_K_count_10 rfl (lv_at hl 1 rfl) ?_
    refine lv_iconst (v := nI 1) hx hb de_K_count_11 (by decide) ?_
    refine nx_icmp_gt (a := 7) (b := 1) (tgt := 32) hx hb (by omega) (by omega) de_K_count_12 (by decide) (fun c_1239 => ?_) (fun c_1239 => ?_)
    · refine lv_iload_n hx hb de_K_count_32 rfl (lv_at hl 1 rfl) ?_
      refine lv_tableIn (x := nI 7) (off := 99) (tgt := 132) hx hb de_K_count_33 (by decide) (by decide) (by decide) (by decide) ?_
      refine lv_aload_n hx hb de_K_count_132 rfl (lv_at hl 0 rfl) ?_
      refine dk_get (a := h) (v := .ref D.sn) (C := kn_K) (T := kt_K) (N := 12) hx hb hts ki_K hown hK hP hh_1236 rfl 3 (by decide) (hts _ wi_106) (fun _ h9 => h9) rfl de_K_count_133 ?_
      obtain ⟨a_1240, a_1241, _, _, hc_1242, -⟩ := id hkp.s
      refine dk_calli (va_runV (As := []) (rest := []) ⟨hx, hb, hml, hown, hts⟩ (c_S_taken l G w D.sn σ.sn hkp.s) (cwV 0 hts (wd_gV (C := "RunKeeper$Snapshots") wi_707 wi_704 wi_705 wi_706 wi_3) rfl rfl rfl (by decide +kernel) ⟨Nat.le_of_ble_eq_true rfl, Nat.le_of_ble_eq_true rfl⟩) (dk_preV (kn_S, kt_S, 2) hE hP hS hc_1242 rfl) rfl rfl hl.1 rfl (lv_room (Nat.le_of_ble_eq_true rfl)) de_K_count_136 ⟨(by first | exact Nat.le_of_ble_eq_true rfl | (simp only [Nat.zero_add]; omega) | omega), (by first | exact Nat.le_of_ble_eq_true rfl | (simp only [Nat.zero_add]; omega) | omega)⟩) hS (fun r_1245 w_1243 H locs hq_1244 hP hS => ?_)
      obtain ⟨hr_1246, he_1247⟩ := hq_1244
      subst hr_1246
      rw [he_1247] at hP
      exact dk_iret hQ hx hb hr hlocks hP hS (Nat.le_refl _) (Nat.le_refl _) (⟨rfl, rfl⟩) de_K_count_139
    · exact absurd c_1239 (by omega)
set_option maxHeartbeats 4000000 in
set_option maxRecDepth 100000 in
theorem c_K_count8 (l : Launch) (G : dk_G) (w : dk_H) (h : Nat) (D : kp_D) (σ : kp_S) (hkp : kp_at G w h D σ) (k : Int32) : dk_Mi l my_K_count (wd_c my_K_count mb_K_count 3 (some .int)) rm_K_count G w [.ref h, .int (nI 8), .int k] (fun r w1 => r = (if σ.ib = true then nI σ.ad.length else -1) ∧ w1 = w) 0 0 := by
  refine dk_enter (lv := [(0, .ref h), (1, .int (nI 8)), (2, .int k)]) (by decide) (Nat.le_of_ble_eq_true rfl) rfl (fun p e s m args below meth c ls Q hQ C hP hS hl => ?_)
  obtain ⟨hx, hb, hr, hml, hlocks, hown, hnm, hts, hE⟩ := C
  have hK := hE.1
  have hN := hE.2.1
  have hh_1248 : w h = some (1, .inr (cx_K, [.ref D.t, .ref D.a, .ref D.lv, .ref D.sn, .ref D.g, .ref D.k, .ref D.ne, .int (nI σ.sf), .int (bo_i σ.ib), .int (nI σ.sq), .int (nI σ.pr), .int (nI σ.mi)])) := hkp.o
  refine lv_iload_n hx hb de_K_count_0 rfl (lv_at hl 1 rfl) ?_
  refine nx_if_lt (a := 8) (tgt := 22) hx hb (by omega) de_K_count_1 (by decide) ?_
  refine lv_iload_n hx hb de_K_count_4 rfl (lv_at hl 1 rfl) ?_
  refine lv_bipush (v := nI 9) hx hb de_K_count_5 (by decide) ?_
  refine nx_icmp_gt (a := 8) (b := 9) (tgt := 22) hx hb (by omega) (by omega) de_K_count_7 (by decide) (fun c_1250 => ?_) (fun c_1250 => ?_)
  · exact absurd c_1250 (by omega)
  · refine lv_iload_n hx hb de_K_count_10 rfl (lv_at hl 1 rfl) ?_
    refine lv_iconst (v := nI 1) hx hb de_K_count_11 (by decide) ?_
    refine nx_icmp_gt (a := 8) (b := 1) (tgt := 32) hx hb (by omega) (by omega) de_K_count_12 (by decide) (fun c_1251 => ?_) (fun c_1251 => ?_)
    · refine lv_iload_n hx hb de_K_count_32 rfl (lv_at hl 1 rfl) ?_
      refine lv_tableIn (x := nI 8) (off := 107) (tgt := 140) hx hb de_K_count_33 (by decide) (by decide) (by decide) (by decide) ?_
      refine lv_aload_n hx hb de_K_count_140 rfl (lv_at hl 0 rfl) ?_
      refine dk_get (a := h) (v := .int (bo_i σ.ib)) (C := kn_K) (T := kt_K) (N := 12) hx hb hts ki_K hown hK hP hh_1248 rfl 8 (by decide) (hts _ wi_111) (fun _ h9 => h9) rfl de_K_count_141 ?_
      refine bo_if_eq (b := σ.ib) (tgt := 157) hx hb de_K_count_144 (by decide) (fun c_1252 => ?_) (fun c_1252 => ?_)
      · refine lv_iconst (v := (-1)) hx hb de_K_count_157 (by decide) ?_
        exact dk_iret hQ hx hb hr hlocks hP hS (Nat.le_refl _) (Nat.le_refl _) (⟨(if_neg (by rw [c_1252]; decide)).symm, rfl⟩) de_K_count_158
      · refine lv_aload_n hx hb de_K_count_147 rfl (lv_at hl 0 rfl) ?_
        refine dk_get (a := h) (v := .ref D.a) (C := kn_K) (T := kt_K) (N := 12) hx hb hts ki_K hown hK hP hh_1248 rfl 1 (by decide) (hts _ wi_104) (fun _ h9 => h9) rfl de_K_count_148 ?_
        obtain ⟨sl_1253, _, hc_1254, -⟩ := id hkp.a
        refine dk_calli (va_runV (As := []) (rest := []) ⟨hx, hb, hml, hown, hts⟩ (c_R_size l G w D.a 4 5 16 σ.ad hkp.a) (cwV 0 hts (wd_gV (C := "RunKeeper$Row") wi_147 wi_144 wi_145 wi_146 wi_2) rfl rfl rfl (by decide +kernel) ⟨Nat.le_of_ble_eq_true rfl, Nat.le_of_ble_eq_true rfl⟩) (dk_preV (kn_R, kt_R, 2) hE hP hS hc_1254 rfl) rfl rfl hl.1 rfl (lv_room (Nat.le_of_ble_eq_true rfl)) de_K_count_151 ⟨(by first | exact Nat.le_of_ble_eq_true rfl | (simp only [Nat.zero_add]; omega) | omega), (by first | exact Nat.le_of_ble_eq_true rfl | (simp only [Nat.zero_add]; omega) | omega)⟩) hS (fun r_1257 w_1255 H locs hq_1256 hP hS => ?_)
        obtain ⟨hr_1258, he_1259⟩ := hq_1256
        subst hr_1258
        rw [he_1259] at hP
        refine lv_goto (tgt := 158) hx hb de_K_count_154 (by decide) ?_
        exact dk_iret hQ hx hb hr hlocks hP hS (Nat.le_refl _) (Nat.le_refl _) (⟨(if_pos c_1252).symm, rfl⟩) de_K_count_158
    · exact absurd c_1251 (by omega)
set_option maxHeartbeats 4000000 in
set_option maxRecDepth 100000 in
theorem c_K_count9 (l : Launch) (G : dk_G) (w : dk_H) (h : Nat) (D : kp_D) (σ : kp_S) (hkp : kp_at G w h D σ) (k : Int32) : dk_Mi l my_K_count (wd_c my_K_count mb_K_count 3 (some .int)) rm_K_count G w [.ref h, .int (nI 9), .int k] (fun r w1 => r = nI (kp_n σ) ∧ w1 = w) 0 0 := by
  refine dk_enter (lv := [(0, .ref h), (1, .int (nI 9)), (2, .int k)]) (by decide) (Nat.le_of_ble_eq_true rfl) rfl (fun p e s m args below meth c ls Q hQ C hP hS hl => ?_)
  obtain ⟨hx, hb, hr, hml, hlocks, hown, hnm, hts, hE⟩ := C
  have hK := hE.1
  have hN := hE.2.1
  have hh_1260 : w h = some (1, .inr (cx_K, [.ref D.t, .ref D.a, .ref D.lv, .ref D.sn, .ref D.g, .ref D.k, .ref D.ne, .int (nI σ.sf), .int (bo_i σ.ib), .int (nI σ.sq), .int (nI σ.pr), .int (nI σ.mi)])) := hkp.o
  refine lv_iload_n hx hb de_K_count_0 rfl (lv_at hl 1 rfl) ?_
  refine nx_if_lt (a := 9) (tgt := 22) hx hb (by omega) de_K_count_1 (by decide) ?_
  refine lv_iload_n hx hb de_K_count_4 rfl (lv_at hl 1 rfl) ?_
  refine lv_bipush (v := nI 9) hx hb de_K_count_5 (by decide) ?_
  refine nx_icmp_gt (a := 9) (b := 9) (tgt := 22) hx hb (by omega) (by omega) de_K_count_7 (by decide) (fun c_1262 => ?_) (fun c_1262 => ?_)
  · exact absurd c_1262 (by omega)
  · refine lv_iload_n hx hb de_K_count_10 rfl (lv_at hl 1 rfl) ?_
    refine lv_iconst (v := nI 1) hx hb de_K_count_11 (by decide) ?_
    refine nx_icmp_gt (a := 9) (b := 1) (tgt := 32) hx hb (by omega) (by omega) de_K_count_12 (by decide) (fun c_1263 => ?_) (fun c_1263 => ?_)
    · refine lv_iload_n hx hb de_K_count_32 rfl (lv_at hl 1 rfl) ?_
      refine lv_tableOut (x := nI 9) (tgt := 159) hx hb de_K_count_33 (by decide) (by decide) ?_
      refine lv_aload_n hx hb de_K_count_159 rfl (lv_at hl 0 rfl) ?_
      refine dk_calli (va_runV (As := []) (rest := []) ⟨hx, hb, hml, hown, hts⟩ (c_K_entriesInAll l G w h D σ hkp) (cwV 0 hts (wd_gV (C := "RunKeeper") wi_418 wi_415 wi_417 (wd_p (q := (⟨"RunKeeper", "entriesInAll", "()I"⟩, 12)) (by decide +kernel) (by decide +kernel)) wi_1) rfl rfl rfl (by decide +kernel) ⟨Nat.le_of_ble_eq_true rfl, Nat.le_of_ble_eq_true rfl⟩) (dk_preV (kn_K, kt_K, 12) hE hP hS hh_1260 rfl) rfl rfl hl.1 rfl (lv_room (Nat.le_of_ble_eq_true rfl)) de_K_count_160 ⟨(by first | exact Nat.le_of_ble_eq_true rfl | (simp only [Nat.zero_add]; omega) | omega), (by first | exact Nat.le_of_ble_eq_true rfl | (simp only [Nat.zero_add]; omega) | omega)⟩) hS (fun r_1266 w_1264 H locs hq_1265 hP hS => ?_)
      obtain ⟨hr_1267, he_1268⟩ := hq_1265
      subst hr_1267
      rw [he_1268] at hP
      exact dk_iret hQ hx hb hr hlocks hP hS (Nat.le_refl _) (Nat.le_refl _) (⟨rfl, rfl⟩) de_K_count_163
    · exact absurd c_1263 (by omega)
abbrev rm_K_merge (c : Nat) : Room := { frames := 10, cells := (5 * c), slots := (1579 * c), locals := 236 }
set_option maxHeartbeats 4000000 in
set_option maxRecDepth 100000 in
theorem c_K_merge (l : Launch) (G : dk_G) (w : dk_H) (h : Nat) (D : kp_D) (σ : kp_S) (hkp : kp_at G w h D σ) (n : Nat) (hn : n ≤ 100) (hc6 : kp_n σ ≤ 600) : dk_Mi l my_K_merge (wd_c my_K_merge mb_K_merge 3 (some .int)) (rm_K_merge (mg_n n σ).1) G w [.ref h, .int (nI n)] (fun r w1 => r = nI (mg_n n σ).1 ∧ kp_at G w1 h D (mg_n n σ).2 ∧ dk_fr kp_T w w1) (5 * (mg_n n σ).1) (1579 * (mg_n n σ).1) := by
  refine dk_enter (lv := [(0, .ref h), (1, .int (nI n))]) (by decide) (Nat.le_of_ble_eq_true rfl) rfl (fun p e s m args below meth c ls Q hQ C hP hS hl => ?_)
  obtain ⟨hx, hb, hr, hml, hlocks, hown, hnm, hts, hE⟩ := C
  have hK := hE.1
  have hN := hE.2.1
  have hh_1269 : w h = some (1, .inr (cx_K, [.ref D.t, .ref D.a, .ref D.lv, .ref D.sn, .ref D.g, .ref D.k, .ref D.ne, .int (nI σ.sf), .int (bo_i σ.ib), .int (nI σ.sq), .int (nI σ.pr), .int (nI σ.mi)])) := hkp.o
  refine lv_iload_n hx hb de_K_merge_0 rfl (lv_at hl 1 rfl) ?_
  refine nx_if_lt (a := n) (tgt := 10) hx hb (by omega) de_K_merge_1 (by decide) ?_
  refine lv_iload_n hx hb de_K_merge_4 rfl (lv_at hl 1 rfl) ?_
  refine lv_bipush (v := nI 100) hx hb de_K_merge_5 (by decide) ?_
  refine nx_icmp_le (a := n) (b := 100) (tgt := 20) hx hb (by omega) (by omega) de_K_merge_7 (by decide) (fun c_1271 => ?_) (fun c_1271 => ?_)
  · refine lv_iconst (v := nI 0) hx hb de_K_merge_20 (by decide) ?_
    refine lv_istore_n (lv' := [(2, .int (nI 0)), (0, .ref h), (1, .int (nI n))]) hx hb de_K_merge_21 rfl hl (by decide) rfl (fun ls hl => ?_)
    have lp : ∀ (zk : Nat) (i : Nat) (τ : kp_S), n - i < zk → (i ≤ n) → ((mg_n n σ).1 = i + (mg_n (n - i) τ).1) → ((mg_n n σ).2 = (mg_n (n - i) τ).2) → (kp_n τ ≤ 600) → ∀ (H : Heap) (locs : List Loc) (v : dk_H), (kp_at G v h D τ) → (dk_fr kp_T w v) → dk_P G v H → dk_S G s.heap H locs → ∀ (ls : Array Slot), lv_has ls 3 [(0, .ref h), (1, .int (nI n)), (2, .int (nI i))] → W p l e (rm_K_merge (mg_n n σ).1) s m args below meth c H locs (5 * i) (1579 * i) Q (F0 m 22 ls []) := by
      intro zk
      induction zk with
      | zero =>
        intro i τ hk
        exact absurd hk (by omega)
      | succ zk ih =>
        intro i τ hk hi hr1 hr2 hc7
        intro H locs v hkv hg hP hS
        intro ls hl
        have hh_1272 : v h = some (1, .inr (cx_K, [.ref D.t, .ref D.a, .ref D.lv, .ref D.sn, .ref D.g, .ref D.k, .ref D.ne, .int (nI τ.sf), .int (bo_i τ.ib), .int (nI τ.sq), .int (nI τ.pr), .int (nI τ.mi)])) := hkv.o
        refine lv_iload_n hx hb de_K_merge_22 rfl (lv_at hl 2 rfl) ?_
        refine lv_iload_n hx hb de_K_merge_23 rfl (lv_at hl 1 rfl) ?_
        refine nx_icmp_ge (a := i) (b := n) (tgt := 40) hx hb (by omega) (by omega) de_K_merge_24 (by decide) (fun c_1273 => ?_) (fun c_1273 => ?_)
        · have e9 : n - i = 0 := by omega
          have e8 : mg_n (n - i) τ = (0, τ) := by rw [e9]; rfl
          refine lv_iload_n hx hb de_K_merge_40 rfl (lv_at hl 2 rfl) ?_
          exact dk_iret hQ hx hb hr hlocks hP hS (by rw [hr1, e8]; exact Nat.le_refl _) (by rw [hr1, e8]; exact Nat.le_refl _) (⟨by rw [hr1, e8]; rfl, by rw [hr2, e8]; exact hkv, hg⟩) de_K_merge_41
        · obtain ⟨d9, hd9⟩ : ∃ d, n - i = d + 1 := ⟨n - i - 1, by omega⟩
          refine lv_aload_n hx hb de_K_merge_27 rfl (lv_at hl 0 rfl) ?_
          rcases ho : mg_1 τ with _ | τ1
          · have e8 : mg_n (n - i) τ = (0, τ) := by rw [hd9, mg_n, ho]
            refine dk_calli (va_runV (As := []) (rest := []) ⟨hx, hb, hml, hown, hts⟩ (c_K_mergeOnce0 l G v h D τ hkv ho) (cwV 0 hts (wd_gV (C := "RunKeeper") wi_528 wi_525 wi_527 (wd_p (q := (⟨"RunKeeper", "mergeOnce", "()Z"⟩, 12)) (by decide +kernel) (by decide +kernel)) wi_1) rfl rfl rfl (by decide +kernel) ⟨Nat.le_of_ble_eq_true rfl, Nat.le_of_ble_eq_true rfl⟩) (dk_preV (kn_K, kt_K, 12) hE hP hS hh_1272 rfl) rfl rfl hl.1 rfl (lv_room (Nat.le_of_ble_eq_true rfl)) de_K_merge_28 ⟨(by first | exact Nat.le_of_ble_eq_true rfl | (simp only [Nat.zero_add]; omega) | omega), (by first | exact Nat.le_of_ble_eq_true rfl | (simp only [Nat.zero_add]; omega) | omega)⟩) hS (fun r_1276 w_1274 H locs hq_1275 hP hS => ?_)
            obtain ⟨hr_1277, he_1278⟩ := hq_1275
            subst hr_1277
            rw [he_1278] at hP
            refine bo_if_eq (b := false) (tgt := 40) hx hb de_K_merge_31 (by decide) (fun c_1279 => ?_) (fun c_1279 => ?_)
            · refine lv_iload_n hx hb de_K_merge_40 rfl (lv_at hl 2 rfl) ?_
              exact dk_iret hQ hx hb hr hlocks hP hS (by rw [hr1, e8]; exact Nat.le_refl _) (by rw [hr1, e8]; exact Nat.le_refl _) (⟨by rw [hr1, e8]; rfl, by rw [hr2, e8]; exact hkv, hg⟩) de_K_merge_41
            · exact absurd c_1279 (by decide)
          · have e8 : mg_n (n - i) τ = ((mg_n (n - (i + 1)) τ1).1 + 1, (mg_n (n - (i + 1)) τ1).2) := by rw [hd9, show n - (i + 1) = d9 by omega, mg_n, ho]
            rw [e8] at hr1 hr2
            replace hr1 : (mg_n n σ).1 = i + ((mg_n (n - (i + 1)) τ1).1 + 1) := hr1
            refine dk_calli (va_runV (As := []) (rest := []) ⟨hx, hb, hml, hown, hts⟩ (c_K_mergeOnce1 l G v h D τ hkv hc7 τ1 ho) (cwV 0 hts (wd_gV (C := "RunKeeper") wi_528 wi_525 wi_527 (wd_p (q := (⟨"RunKeeper", "mergeOnce", "()Z"⟩, 12)) (by decide +kernel) (by decide +kernel)) wi_1) rfl rfl rfl (by decide +kernel) ⟨Nat.le_of_ble_eq_true rfl, Nat.le_of_ble_eq_true rfl⟩) (dk_preV (kn_K, kt_K, 12) hE hP hS hh_1272 rfl) rfl rfl hl.1 rfl (lv_room (Nat.le_of_ble_eq_true rfl)) de_K_merge_28 ⟨(by first | exact Nat.le_of_ble_eq_true rfl | (simp only [Nat.zero_add]; omega) | omega), (by first | exact Nat.le_of_ble_eq_true rfl | (simp only [Nat.zero_add]; omega) | omega)⟩) hS (fun r_1282 w_1280 H locs hq_1281 hP hS => ?_)
            obtain ⟨hr9, hq2, hq3⟩ := hq_1281
            subst hr9
            refine bo_if_eq (b := true) (tgt := 40) hx hb de_K_merge_31 (by decide) (fun c_1283 => ?_) (fun c_1283 => ?_)
            · exact absurd c_1283 (by decide)
            · refine lv_iinc (v := nI (i + 1)) (lv' := [(2, .int (nI (i + 1))), (0, .ref h), (1, .int (nI n))]) hx hb de_K_merge_34 hl (k := 2) rfl (nx_inc i) (by decide) rfl (fun ls hl => ?_)
              refine lv_goto (tgt := 22) hx hb de_K_merge_37 (by decide) ?_
              exact W.widen (by omega) (by omega) (ih (i + 1) τ1 (by omega) (by omega) (by omega) hr2 (Nat.le_trans (mg_1n ho) hc7) _ _ _ hq2 (hg.tr hq3) hP hS _ (lv_sub hl [1, 2, 0] rfl))
    exact W.widen (by omega) (by omega) (lp (n + 1) 0 σ (by omega) (Nat.zero_le _) (by rw [Nat.zero_add]; rfl) rfl hc6 _ _ _ hkp dk_fr.rf hP hS _ (lv_sub hl [1, 2, 0] rfl))
  · exact absurd c_1271 (by omega)
end
