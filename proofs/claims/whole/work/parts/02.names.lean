/-! NAMES, printed by gen/mk_names.py out of the claim: one list of words for all methods (wd_all: the good words of lw_tbl) -/
def wd_all : List Cond := lw_tbl.filter goodWord
theorem wd_m {w : Cond} (i : Nat) (h : tables_1[i]? = some w) (hg : goodWord w = true) : w ∈ wd_all := List.mem_filter.mpr ⟨List.mem_append_right _ (List.mem_of_getElem? h), hg⟩
theorem wd_p {q : MethodName × Nat} (h : q ∈ lw_privs) (hg : goodWord (.selects q.1.cls q.1 q.1) = true) : Cond.selects q.1.cls q.1 q.1 ∈ wd_all := List.mem_filter.mpr ⟨List.mem_append_left _ (by unfold k2_sels; first | exact List.mem_map.mpr ⟨q, h, rfl⟩ | exact List.mem_map_of_mem h), hg⟩
theorem wd_ok {w : Cond} (h : w ∈ wd_all) : (w.onTables && w.keeps) = true ∨ ∃ ty, w = .arrayClass ty := good_of_word (List.mem_filter.mp h).2
abbrev wd_c (y : MethodName) (c : ByteArray) (n : Nat) (r : Option FieldType) : List Cond := Cond.code y c n r :: wd_all
theorem wd_g {y : MethodName} {c : ByteArray} {n : Nat} {r : Option FieldType} (h : Cond.code y c n r ∈ wd_all) : GoodIn wd_all (wd_c y c n r) := fun w hw => by
  rcases List.mem_cons.mp hw with rfl | hw
  · exact ⟨h, wd_ok h⟩
  · exact ⟨hw, wd_ok hw⟩
theorem wd_gV {own C : String} {idx : Nat} {y : MethodName} {c : ByteArray} {n : Nat} {r : Option FieldType} (h : Cond.code y c n r ∈ wd_all) (h1 : Cond.methodLink own idx y ∈ wd_all) (h2 : Cond.instanceMethod y ∈ wd_all) (h3 : Cond.selects C y y ∈ wd_all) (h4 : Cond.initialized C ∈ wd_all) : GoodIn wd_all (wsV own idx C y (wd_c y c n r)) := fun w hw => by
  unfold wsV at hw
  rcases List.mem_append.mp hw with hw | hw
  · simp only [List.mem_cons, List.not_mem_nil, or_false] at hw
    rcases hw with rfl | rfl | rfl | rfl
    · exact ⟨h1, wd_ok h1⟩
    · exact ⟨h2, wd_ok h2⟩
    · exact ⟨h3, wd_ok h3⟩
    · exact ⟨h4, wd_ok h4⟩
  · exact wd_g h w hw
theorem wd_gS {own : String} {idx : Nat} {y : MethodName} {c : ByteArray} {n : Nat} {r : Option FieldType} (h : Cond.code y c n r ∈ wd_all) (h1 : Cond.methodLink own idx y ∈ wd_all) (h2 : Cond.static y ∈ wd_all) (h3 : Cond.initialized y.cls ∈ wd_all) : GoodIn wd_all (va_wsS own idx y (wd_c y c n r)) := fun w hw => by
  unfold va_wsS at hw
  rcases List.mem_append.mp hw with hw | hw
  · simp only [List.mem_cons, List.not_mem_nil, or_false] at hw
    rcases hw with rfl | rfl | rfl
    · exact ⟨h1, wd_ok h1⟩
    · exact ⟨h2, wd_ok h2⟩
    · exact ⟨h3, wd_ok h3⟩
  · exact wd_g h w hw
def kn_E : String := "RunKeeper$Entry"
def kt_E : u_T := fun k => match k with
  | 0 => ("RunKeeper$Entry", "key", "I", true)
  | 1 => ("RunKeeper$Entry", "sequence", "I", true)
  | 2 => ("RunKeeper$Entry", "number", "J", true)
  | _ => ("RunKeeper$Entry", "deleted", "Z", true)
def ky_E : Nat → FieldType := fun k => match k with
  | 0 => .int
  | 1 => .int
  | 2 => .long
  | _ => .boolean
theorem kd_E : ∀ a, a < 4 → ∀ b, b < 4 → a ≠ b → (kt_E a).2.1 ≠ (kt_E b).2.1 := by decide +kernel
theorem kk_E : ∀ k, k < 4 → parseFieldDescriptor (kt_E k).2.2.1 = some (ky_E k) := by decide +kernel
def kn_V : String := "RunKeeper$Level"
def kt_V : u_T := fun k => match k with
  | 0 => ("RunKeeper$Level", "runs", "Ljava/util/ArrayList;", true)
  | _ => ("RunKeeper$Level", "entryCount", "I", false)
def ky_V : Nat → FieldType := fun k => match k with
  | 0 => .object "java/util/ArrayList"
  | _ => .int
theorem kd_V : ∀ a, a < 2 → ∀ b, b < 2 → a ≠ b → (kt_V a).2.1 ≠ (kt_V b).2.1 := by decide +kernel
theorem kk_V : ∀ k, k < 2 → parseFieldDescriptor (kt_V k).2.2.1 = some (ky_V k) := by decide +kernel
def kn_R : String := "RunKeeper$Row"
def kt_R : u_T := fun k => match k with
  | 0 => ("RunKeeper$Row", "slots", "[LRunKeeper$Entry;", true)
  | _ => ("RunKeeper$Row", "size", "I", false)
def ky_R : Nat → FieldType := fun k => match k with
  | 0 => .array (.object "RunKeeper$Entry")
  | _ => .int
theorem kd_R : ∀ a, a < 2 → ∀ b, b < 2 → a ≠ b → (kt_R a).2.1 ≠ (kt_R b).2.1 := by decide +kernel
theorem kk_R : ∀ k, k < 2 → parseFieldDescriptor (kt_R k).2.2.1 = some (ky_R k) := by decide +kernel
def kn_U : String := "RunKeeper$Run"
def kt_U : u_T := fun k => match k with
  | 0 => ("RunKeeper$Run", "entries", "LRunKeeper$Row;", true)
  | _ => ("RunKeeper$Run", "filter", "[J", true)
def ky_U : Nat → FieldType := fun k => match k with
  | 0 => .object "RunKeeper$Row"
  | _ => .array .long
theorem kd_U : ∀ a, a < 2 → ∀ b, b < 2 → a ≠ b → (kt_U a).2.1 ≠ (kt_U b).2.1 := by decide +kernel
theorem kk_U : ∀ k, k < 2 → parseFieldDescriptor (kt_U k).2.2.1 = some (ky_U k) := by decide +kernel
def kn_S : String := "RunKeeper$Snapshots"
def kt_S : u_T := fun k => match k with
  | 0 => ("RunKeeper$Snapshots", "sequences", "[I", true)
  | _ => ("RunKeeper$Snapshots", "used", "[Z", true)
def ky_S : Nat → FieldType := fun k => match k with
  | 0 => .array .int
  | _ => .array .boolean
theorem kd_S : ∀ a, a < 2 → ∀ b, b < 2 → a ≠ b → (kt_S a).2.1 ≠ (kt_S b).2.1 := by decide +kernel
theorem kk_S : ∀ k, k < 2 → parseFieldDescriptor (kt_S k).2.2.1 = some (ky_S k) := by decide +kernel
def kn_K : String := "RunKeeper"
def kt_K : u_T := fun k => match k with
  | 0 => ("RunKeeper", "table", "LRunKeeper$Row;", true)
  | 1 => ("RunKeeper", "aside", "LRunKeeper$Row;", true)
  | 2 => ("RunKeeper", "levels", "[LRunKeeper$Level;", true)
  | 3 => ("RunKeeper", "snapshots", "LRunKeeper$Snapshots;", true)
  | 4 => ("RunKeeper", "gathered", "LRunKeeper$Row;", true)
  | 5 => ("RunKeeper", "kept", "LRunKeeper$Row;", true)
  | 6 => ("RunKeeper", "newestOfKey", "[LRunKeeper$Entry;", true)
  | 7 => ("RunKeeper", "safe", "I", false)
  | 8 => ("RunKeeper", "inBatch", "Z", false)
  | 9 => ("RunKeeper", "sequence", "I", false)
  | 10 => ("RunKeeper", "probed", "I", false)
  | _ => ("RunKeeper", "probedInVain", "I", false)
def ky_K : Nat → FieldType := fun k => match k with
  | 0 => .object "RunKeeper$Row"
  | 1 => .object "RunKeeper$Row"
  | 2 => .array (.object "RunKeeper$Level")
  | 3 => .object "RunKeeper$Snapshots"
  | 4 => .object "RunKeeper$Row"
  | 5 => .object "RunKeeper$Row"
  | 6 => .array (.object "RunKeeper$Entry")
  | 7 => .int
  | 8 => .boolean
  | 9 => .int
  | 10 => .int
  | _ => .int
theorem kd_K : ∀ a, a < 12 → ∀ b, b < 12 → a ≠ b → (kt_K a).2.1 ≠ (kt_K b).2.1 := by decide +kernel
theorem kk_K : ∀ k, k < 12 → parseFieldDescriptor (kt_K k).2.2.1 = some (ky_K k) := by decide +kernel
def kn_M : String := "RunKeeperModel"
def kt_M : u_T := fun k => match k with
  | 0 => ("RunKeeperModel", "err", "I", false)
  | 1 => ("RunKeeperModel", "n", "I", false)
  | 2 => ("RunKeeperModel", "sequence", "I", false)
  | 3 => ("RunKeeperModel", "safe", "I", false)
  | 4 => ("RunKeeperModel", "runs", "I", false)
  | 5 => ("RunKeeperModel", "batch", "I", false)
  | 6 => ("RunKeeperModel", "probed", "I", false)
  | 7 => ("RunKeeperModel", "missed", "I", false)
  | 8 => ("RunKeeperModel", "key", "[I", true)
  | 9 => ("RunKeeperModel", "number", "[I", true)
  | 10 => ("RunKeeperModel", "run", "[I", true)
  | 11 => ("RunKeeperModel", "level", "[I", true)
  | 12 => ("RunKeeperModel", "snapshot", "[I", true)
  | 13 => ("RunKeeperModel", "batchKey", "[I", true)
  | 14 => ("RunKeeperModel", "order", "[I", true)
  | 15 => ("RunKeeperModel", "value", "[J", true)
  | 16 => ("RunKeeperModel", "batchValue", "[J", true)
  | 17 => ("RunKeeperModel", "deleted", "[Z", true)
  | 18 => ("RunKeeperModel", "isSnapshot", "[Z", true)
  | 19 => ("RunKeeperModel", "batchDeleted", "[Z", true)
  | 20 => ("RunKeeperModel", "keeps", "[Z", true)
  | _ => ("RunKeeperModel", "bits", "[Z", true)
def ky_M : Nat → FieldType := fun k => match k with
  | 0 => .int
  | 1 => .int
  | 2 => .int
  | 3 => .int
  | 4 => .int
  | 5 => .int
  | 6 => .int
  | 7 => .int
  | 8 => .array .int
  | 9 => .array .int
  | 10 => .array .int
  | 11 => .array .int
  | 12 => .array .int
  | 13 => .array .int
  | 14 => .array .int
  | 15 => .array .long
  | 16 => .array .long
  | 17 => .array .boolean
  | 18 => .array .boolean
  | 19 => .array .boolean
  | 20 => .array .boolean
  | _ => .array .boolean
theorem kd_M : ∀ a, a < 22 → ∀ b, b < 22 → a ≠ b → (kt_M a).2.1 ≠ (kt_M b).2.1 := by decide +kernel
theorem kk_M : ∀ k, k < 22 → parseFieldDescriptor (kt_M k).2.2.1 = some (ky_M k) := by decide +kernel
def kn_A : String := "java/util/ArrayList"
def kt_A : u_T := fun k => match k with
  | 0 => ("java/util/AbstractList", "modCount", "I", false)
  | 1 => ("java/util/ArrayList", "elementData", "[Ljava/lang/Object;", false)
  | _ => ("java/util/ArrayList", "size", "I", false)
def ky_A : Nat → FieldType := fun k => match k with
  | 0 => .int
  | 1 => .array (.object "java/lang/Object")
  | _ => .int
theorem kd_A : ∀ a, a < 3 → ∀ b, b < 3 → a ≠ b → (kt_A a).2.1 ≠ (kt_A b).2.1 := by decide +kernel
theorem kk_A : ∀ k, k < 3 → parseFieldDescriptor (kt_A k).2.2.1 = some (ky_A k) := by decide +kernel
abbrev vwCl : List vw_C := [(kn_E, kt_E, 4), (kn_V, kt_V, 2), (kn_R, kt_R, 2), (kn_U, kt_U, 2), (kn_S, kt_S, 2), (kn_K, kt_K, 12), (kn_M, kt_M, 22), (kn_A, kt_A, 3)]
abbrev cx_E : Nat := 0
abbrev cx_V : Nat := 1
abbrev cx_R : Nat := 2
abbrev cx_U : Nat := 3
abbrev cx_S : Nat := 4
abbrev cx_K : Nat := 5
abbrev cx_M : Nat := 6
abbrev cx_A : Nat := 7
theorem ki_E : ∀ w ∈ u_ws kn_E kt_E 4, w ∈ wd_all := by
  intro w hw
  obtain ⟨j, hj, rfl⟩ := List.mem_map.mp (show w ∈ (List.range 4).map (u_lay kn_E kt_E) from hw)
  have hj := List.mem_range.mp hj
  match j, hj with
  | 0, _ => exact wd_m 456 (by decide +kernel) (by decide +kernel)
  | 1, _ => exact wd_m 458 (by decide +kernel) (by decide +kernel)
  | 2, _ => exact wd_m 460 (by decide +kernel) (by decide +kernel)
  | 3, _ => exact wd_m 462 (by decide +kernel) (by decide +kernel)
  | j + 4, h => exact absurd h (by omega)
theorem ki_V : ∀ w ∈ u_ws kn_V kt_V 2, w ∈ wd_all := by
  intro w hw
  obtain ⟨j, hj, rfl⟩ := List.mem_map.mp (show w ∈ (List.range 2).map (u_lay kn_V kt_V) from hw)
  have hj := List.mem_range.mp hj
  match j, hj with
  | 0, _ => exact wd_m 98 (by decide +kernel) (by decide +kernel)
  | 1, _ => exact wd_m 100 (by decide +kernel) (by decide +kernel)
  | j + 2, h => exact absurd h (by omega)
theorem ki_R : ∀ w ∈ u_ws kn_R kt_R 2, w ∈ wd_all := by
  intro w hw
  obtain ⟨j, hj, rfl⟩ := List.mem_map.mp (show w ∈ (List.range 2).map (u_lay kn_R kt_R) from hw)
  have hj := List.mem_range.mp hj
  match j, hj with
  | 0, _ => exact wd_m 42 (by decide +kernel) (by decide +kernel)
  | 1, _ => exact wd_m 44 (by decide +kernel) (by decide +kernel)
  | j + 2, h => exact absurd h (by omega)
theorem ki_U : ∀ w ∈ u_ws kn_U kt_U 2, w ∈ wd_all := by
  intro w hw
  obtain ⟨j, hj, rfl⟩ := List.mem_map.mp (show w ∈ (List.range 2).map (u_lay kn_U kt_U) from hw)
  have hj := List.mem_range.mp hj
  match j, hj with
  | 0, _ => exact wd_m 202 (by decide +kernel) (by decide +kernel)
  | 1, _ => exact wd_m 204 (by decide +kernel) (by decide +kernel)
  | j + 2, h => exact absurd h (by omega)
theorem ki_S : ∀ w ∈ u_ws kn_S kt_S 2, w ∈ wd_all := by
  intro w hw
  obtain ⟨j, hj, rfl⟩ := List.mem_map.mp (show w ∈ (List.range 2).map (u_lay kn_S kt_S) from hw)
  have hj := List.mem_range.mp hj
  match j, hj with
  | 0, _ => exact wd_m 57 (by decide +kernel) (by decide +kernel)
  | 1, _ => exact wd_m 59 (by decide +kernel) (by decide +kernel)
  | j + 2, h => exact absurd h (by omega)
theorem ki_K : ∀ w ∈ u_ws kn_K kt_K 12, w ∈ wd_all := by
  intro w hw
  obtain ⟨j, hj, rfl⟩ := List.mem_map.mp (show w ∈ (List.range 12).map (u_lay kn_K kt_K) from hw)
  have hj := List.mem_range.mp hj
  match j, hj with
  | 0, _ => exact wd_m 115 (by decide +kernel) (by decide +kernel)
  | 1, _ => exact wd_m 117 (by decide +kernel) (by decide +kernel)
  | 2, _ => exact wd_m 119 (by decide +kernel) (by decide +kernel)
  | 3, _ => exact wd_m 121 (by decide +kernel) (by decide +kernel)
  | 4, _ => exact wd_m 123 (by decide +kernel) (by decide +kernel)
  | 5, _ => exact wd_m 125 (by decide +kernel) (by decide +kernel)
  | 6, _ => exact wd_m 127 (by decide +kernel) (by decide +kernel)
  | 7, _ => exact wd_m 129 (by decide +kernel) (by decide +kernel)
  | 8, _ => exact wd_m 131 (by decide +kernel) (by decide +kernel)
  | 9, _ => exact wd_m 133 (by decide +kernel) (by decide +kernel)
  | 10, _ => exact wd_m 135 (by decide +kernel) (by decide +kernel)
  | 11, _ => exact wd_m 137 (by decide +kernel) (by decide +kernel)
  | j + 12, h => exact absurd h (by omega)
theorem ki_M : ∀ w ∈ u_ws kn_M kt_M 22, w ∈ wd_all := by
  intro w hw
  obtain ⟨j, hj, rfl⟩ := List.mem_map.mp (show w ∈ (List.range 22).map (u_lay kn_M kt_M) from hw)
  have hj := List.mem_range.mp hj
  match j, hj with
  | 0, _ => exact wd_m 736 (by decide +kernel) (by decide +kernel)
  | 1, _ => exact wd_m 738 (by decide +kernel) (by decide +kernel)
  | 2, _ => exact wd_m 740 (by decide +kernel) (by decide +kernel)
  | 3, _ => exact wd_m 742 (by decide +kernel) (by decide +kernel)
  | 4, _ => exact wd_m 744 (by decide +kernel) (by decide +kernel)
  | 5, _ => exact wd_m 746 (by decide +kernel) (by decide +kernel)
  | 6, _ => exact wd_m 748 (by decide +kernel) (by decide +kernel)
  | 7, _ => exact wd_m 750 (by decide +kernel) (by decide +kernel)
  | 8, _ => exact wd_m 752 (by decide +kernel) (by decide +kernel)
  | 9, _ => exact wd_m 754 (by decide +kernel) (by decide +kernel)
  | 10, _ => exact wd_m 756 (by decide +kernel) (by decide +kernel)
  | 11, _ => exact wd_m 758 (by decide +kernel) (by decide +kernel)
  | 12, _ => exact wd_m 760 (by decide +kernel) (by decide +kernel)
  | 13, _ => exact wd_m 762 (by decide +kernel) (by decide +kernel)
  | 14, _ => exact wd_m 764 (by decide +kernel) (by decide +kernel)
  | 15, _ => exact wd_m 766 (by decide +kernel) (by decide +kernel)
  | 16, _ => exact wd_m 768 (by decide +kernel) (by decide +kernel)
  | 17, _ => exact wd_m 770 (by decide +kernel) (by decide +kernel)
  | 18, _ => exact wd_m 772 (by decide +kernel) (by decide +kernel)
  | 19, _ => exact wd_m 774 (by decide +kernel) (by decide +kernel)
  | 20, _ => exact wd_m 776 (by decide +kernel) (by decide +kernel)
  | 21, _ => exact wd_m 778 (by decide +kernel) (by decide +kernel)
  | j + 22, h => exact absurd h (by omega)
theorem ki_A : ∀ w ∈ u_ws kn_A kt_A 3, w ∈ wd_all := by
  intro w hw
  obtain ⟨j, hj, rfl⟩ := List.mem_map.mp (show w ∈ (List.range 3).map (u_lay kn_A kt_A) from hw)
  have hj := List.mem_range.mp hj
  match j, hj with
  | 0, _ => exact wd_m 93 (by decide +kernel) (by decide +kernel)
  | 1, _ => exact wd_m 89 (by decide +kernel) (by decide +kernel)
  | 2, _ => exact wd_m 91 (by decide +kernel) (by decide +kernel)
  | j + 3, h => exact absurd h (by omega)
abbrev mb_K_init : ByteArray := prog_1_method_1_code
abbrev my_K_init : MethodName := ⟨"RunKeeper", "<init>", "()V"⟩
abbrev mb_R_init : ByteArray := prog_4_method_1_code
abbrev my_R_init : MethodName := ⟨"RunKeeper$Row", "<init>", "(I)V"⟩
abbrev mb_S_init : ByteArray := prog_6_method_1_code
abbrev my_S_init : MethodName := ⟨"RunKeeper$Snapshots", "<init>", "()V"⟩
abbrev mb_V_init : ByteArray := prog_3_method_1_code
abbrev my_V_init : MethodName := ⟨"RunKeeper$Level", "<init>", "()V"⟩
abbrev mb_A_init : ByteArray := prog_24_method_2_code
abbrev my_A_init : MethodName := ⟨"java/util/ArrayList", "<init>", "()V"⟩
abbrev mb_B_init : ByteArray := prog_23_method_1_code
abbrev my_B_init : MethodName := ⟨"java/util/AbstractList", "<init>", "()V"⟩
abbrev mb_C_init : ByteArray := prog_22_method_1_code
abbrev my_C_init : MethodName := ⟨"java/util/AbstractCollection", "<init>", "()V"⟩
abbrev mb_K_sync : ByteArray := prog_1_method_6_code
abbrev my_K_sync : MethodName := ⟨"RunKeeper", "sync", "()I"⟩
abbrev mb_R_size : ByteArray := prog_4_method_2_code
abbrev my_R_size : MethodName := ⟨"RunKeeper$Row", "size", "()I"⟩
abbrev mb_K_flush : ByteArray := prog_1_method_7_code
abbrev my_K_flush : MethodName := ⟨"RunKeeper", "flush", "()I"⟩
abbrev mb_K_flushTableIfItHas : ByteArray := prog_1_method_21_code
abbrev my_K_flushTableIfItHas : MethodName := ⟨"RunKeeper", "flushTableIfItHas", "(I)V"⟩
abbrev mb_R_sortAsRun : ByteArray := prog_4_method_9_code
abbrev my_R_sortAsRun : MethodName := ⟨"RunKeeper$Row", "sortAsRun", "()V"⟩
abbrev mb_E_standsBefore : ByteArray := prog_2_method_4_code
abbrev my_E_standsBefore : MethodName := ⟨"RunKeeper$Entry", "standsBefore", "(LRunKeeper$Entry;)Z"⟩
abbrev mb_K_addRun : ByteArray := prog_1_method_22_code
abbrev my_K_addRun : MethodName := ⟨"RunKeeper", "addRun", "(ILRunKeeper$Row;)V"⟩
abbrev mb_K_isLevel : ByteArray := prog_1_method_17_code
abbrev my_K_isLevel : MethodName := ⟨"RunKeeper", "isLevel", "(I)Z"⟩
abbrev mb_U_init : ByteArray := prog_5_method_1_code
abbrev my_U_init : MethodName := ⟨"RunKeeper$Run", "<init>", "(LRunKeeper$Row;)V"⟩
abbrev mb_R_addAll : ByteArray := prog_4_method_6_code
abbrev my_R_addAll : MethodName := ⟨"RunKeeper$Row", "addAll", "(LRunKeeper$Row;)V"⟩
abbrev mb_R_add : ByteArray := prog_4_method_5_code
abbrev my_R_add : MethodName := ⟨"RunKeeper$Row", "add", "(LRunKeeper$Entry;)V"⟩
abbrev mb_R_at : ByteArray := prog_4_method_4_code
abbrev my_R_at : MethodName := ⟨"RunKeeper$Row", "at", "(I)LRunKeeper$Entry;"⟩
abbrev mb_U_setBits : ByteArray := prog_5_method_2_code
abbrev my_U_setBits : MethodName := ⟨"RunKeeper$Run", "setBits", "([JLRunKeeper$Entry;)V"⟩
abbrev mb_U_bitOf : ByteArray := prog_5_method_3_code
abbrev my_U_bitOf : MethodName := ⟨"RunKeeper$Run", "bitOf", "(II[J)I"⟩
abbrev mb_V_add : ByteArray := prog_3_method_5_code
abbrev my_V_add : MethodName := ⟨"RunKeeper$Level", "add", "(LRunKeeper$Run;)V"⟩
abbrev mb_A_add : ByteArray := prog_24_method_25_code
abbrev my_A_add : MethodName := ⟨"java/util/ArrayList", "add", "(Ljava/lang/Object;)Z"⟩
abbrev mb_A_add2 : ByteArray := prog_24_method_24_code
abbrev my_A_add2 : MethodName := ⟨"java/util/ArrayList", "add", "(Ljava/lang/Object;[Ljava/lang/Object;I)V"⟩
abbrev mb_A_grow : ByteArray := prog_24_method_7_code
abbrev my_A_grow : MethodName := ⟨"java/util/ArrayList", "grow", "()[Ljava/lang/Object;"⟩
abbrev mb_A_grow2 : ByteArray := prog_24_method_6_code
abbrev my_A_grow2 : MethodName := ⟨"java/util/ArrayList", "grow", "(I)[Ljava/lang/Object;"⟩
abbrev mb_D_newLength : ByteArray := prog_31_method_27_code
abbrev my_D_newLength : MethodName := ⟨"jdk/internal/util/ArraysSupport", "newLength", "(III)I"⟩
abbrev mb_F_max : ByteArray := prog_16_method_65_code
abbrev my_F_max : MethodName := ⟨"java/lang/Math", "max", "(II)I"⟩
abbrev mb_D_hugeLength : ByteArray := prog_31_method_28_code
abbrev my_D_hugeLength : MethodName := ⟨"jdk/internal/util/ArraysSupport", "hugeLength", "(II)I"⟩
abbrev mb_G_copyOf : ByteArray := prog_25_method_119_code
abbrev my_G_copyOf : MethodName := ⟨"java/util/Arrays", "copyOf", "([Ljava/lang/Object;I)[Ljava/lang/Object;"⟩
abbrev mb_G_copyOf2 : ByteArray := prog_25_method_120_code
abbrev my_G_copyOf2 : MethodName := ⟨"java/util/Arrays", "copyOf", "([Ljava/lang/Object;ILjava/lang/Class;)[Ljava/lang/Object;"⟩
abbrev mb_F_min : ByteArray := prog_16_method_69_code
abbrev my_F_min : MethodName := ⟨"java/lang/Math", "min", "(II)I"⟩
abbrev mb_U_entries : ByteArray := prog_5_method_4_code
abbrev my_U_entries : MethodName := ⟨"RunKeeper$Run", "entries", "()LRunKeeper$Row;"⟩
abbrev mb_R_cutTo : ByteArray := prog_4_method_7_code
abbrev my_R_cutTo : MethodName := ⟨"RunKeeper$Row", "cutTo", "(I)V"⟩
abbrev mb_K_crash : ByteArray := prog_1_method_9_code
abbrev my_K_crash : MethodName := ⟨"RunKeeper", "crash", "()I"⟩
abbrev mb_K_dropBatch : ByteArray := prog_1_method_20_code
abbrev my_K_dropBatch : MethodName := ⟨"RunKeeper", "dropBatch", "()V"⟩
abbrev mb_S_forgetAll : ByteArray := prog_6_method_6_code
abbrev my_S_forgetAll : MethodName := ⟨"RunKeeper$Snapshots", "forgetAll", "()V"⟩
abbrev mb_K_gatherEverything : ByteArray := prog_1_method_24_code
abbrev my_K_gatherEverything : MethodName := ⟨"RunKeeper", "gatherEverything", "()V"⟩
abbrev mb_V_copyTo : ByteArray := prog_3_method_6_code
abbrev my_V_copyTo : MethodName := ⟨"RunKeeper$Level", "copyTo", "(LRunKeeper$Row;)V"⟩
abbrev mb_A_size : ByteArray := prog_24_method_8_code
abbrev my_A_size : MethodName := ⟨"java/util/ArrayList", "size", "()I"⟩
abbrev mb_A_get : ByteArray := prog_24_method_20_code
abbrev my_A_get : MethodName := ⟨"java/util/ArrayList", "get", "(I)Ljava/lang/Object;"⟩
abbrev mb_O_checkIndex : ByteArray := prog_28_method_17_code
abbrev my_O_checkIndex : MethodName := ⟨"java/util/Objects", "checkIndex", "(II)I"⟩
abbrev mb_P_checkIndex : ByteArray := prog_32_method_11_code
abbrev my_P_checkIndex : MethodName := ⟨"jdk/internal/util/Preconditions", "checkIndex", "(IILjava/util/function/BiFunction;)I"⟩
abbrev mb_A_elementData : ByteArray := prog_24_method_18_code
abbrev my_A_elementData : MethodName := ⟨"java/util/ArrayList", "elementData", "(I)Ljava/lang/Object;"⟩
abbrev mb_R_greatestSequence : ByteArray := prog_4_method_12_code
abbrev my_R_greatestSequence : MethodName := ⟨"RunKeeper$Row", "greatestSequence", "()I"⟩
abbrev mb_L_put : ByteArray := method_3_code
abbrev my_L_put : MethodName := ⟨"RunKeeperLaw", "put", "(LRunKeeper;IJ[J)I"⟩
abbrev mb_K_put : ByteArray := prog_1_method_2_code
abbrev my_K_put : MethodName := ⟨"RunKeeper", "put", "(IJ)I"⟩
abbrev mb_K_write : ByteArray := prog_1_method_18_code
abbrev my_K_write : MethodName := ⟨"RunKeeper", "write", "(IJZ)I"⟩
abbrev mb_K_isKey : ByteArray := prog_1_method_16_code
abbrev my_K_isKey : MethodName := ⟨"RunKeeper", "isKey", "(I)Z"⟩
abbrev mb_R_isFull : ByteArray := prog_4_method_3_code
abbrev my_R_isFull : MethodName := ⟨"RunKeeper$Row", "isFull", "()Z"⟩
abbrev mb_K_entriesInAll : ByteArray := prog_1_method_23_code
abbrev my_K_entriesInAll : MethodName := ⟨"RunKeeper", "entriesInAll", "()I"⟩
abbrev mb_V_entryCount : ByteArray := prog_3_method_3_code
abbrev my_V_entryCount : MethodName := ⟨"RunKeeper$Level", "entryCount", "()I"⟩
abbrev mb_E_init : ByteArray := prog_2_method_1_code
abbrev my_E_init : MethodName := ⟨"RunKeeper$Entry", "<init>", "(IIJZ)V"⟩
abbrev mb_K_appendToTable : ByteArray := prog_1_method_19_code
abbrev my_K_appendToTable : MethodName := ⟨"RunKeeper", "appendToTable", "(LRunKeeper$Entry;)V"⟩
abbrev mb_E_numbered : ByteArray := prog_2_method_2_code
abbrev my_E_numbered : MethodName := ⟨"RunKeeper$Entry", "numbered", "(I)LRunKeeper$Entry;"⟩
abbrev mb_L_delete : ByteArray := method_4_code
abbrev my_L_delete : MethodName := ⟨"RunKeeperLaw", "delete", "(LRunKeeper;I[J)I"⟩
abbrev mb_K_delete : ByteArray := prog_1_method_3_code
abbrev my_K_delete : MethodName := ⟨"RunKeeper", "delete", "(I)I"⟩
abbrev mb_L_batch : ByteArray := method_5_code
abbrev my_L_batch : MethodName := ⟨"RunKeeperLaw", "batch", "(LRunKeeper;)I"⟩
abbrev mb_K_batch : ByteArray := prog_1_method_4_code
abbrev my_K_batch : MethodName := ⟨"RunKeeper", "batch", "()V"⟩
abbrev mb_L_end : ByteArray := method_6_code
abbrev my_L_end : MethodName := ⟨"RunKeeperLaw", "end", "(LRunKeeper;Z[J)I"⟩
abbrev mb_K_end : ByteArray := prog_1_method_5_code
abbrev my_K_end : MethodName := ⟨"RunKeeper", "end", "(Z)I"⟩
abbrev mb_L_merge : ByteArray := method_7_code
abbrev my_L_merge : MethodName := ⟨"RunKeeperLaw", "merge", "(LRunKeeper;I[J)I"⟩
abbrev mb_K_merge : ByteArray := prog_1_method_8_code
abbrev my_K_merge : MethodName := ⟨"RunKeeper", "merge", "(I)I"⟩
abbrev mb_K_mergeOnce : ByteArray := prog_1_method_25_code
abbrev my_K_mergeOnce : MethodName := ⟨"RunKeeper", "mergeOnce", "()Z"⟩
abbrev mb_K_leastLevelToMerge : ByteArray := prog_1_method_26_code
abbrev my_K_leastLevelToMerge : MethodName := ⟨"RunKeeper", "leastLevelToMerge", "()I"⟩
abbrev mb_V_runCount : ByteArray := prog_3_method_2_code
abbrev my_V_runCount : MethodName := ⟨"RunKeeper$Level", "runCount", "()I"⟩
abbrev mb_K_areEmptyFrom : ByteArray := prog_1_method_27_code
abbrev my_K_areEmptyFrom : MethodName := ⟨"RunKeeper", "areEmptyFrom", "(I)Z"⟩
abbrev mb_K_keepWhatIsSeen : ByteArray := prog_1_method_28_code
abbrev my_K_keepWhatIsSeen : MethodName := ⟨"RunKeeper", "keepWhatIsSeen", "(Z)V"⟩
abbrev mb_K_isSeen : ByteArray := prog_1_method_29_code
abbrev my_K_isSeen : MethodName := ⟨"RunKeeper", "isSeen", "(LRunKeeper$Entry;LRunKeeper$Entry;)Z"⟩
abbrev mb_E_hasKeyOf : ByteArray := prog_2_method_3_code
abbrev my_E_hasKeyOf : MethodName := ⟨"RunKeeper$Entry", "hasKeyOf", "(LRunKeeper$Entry;)Z"⟩
abbrev mb_S_anyFromBelow : ByteArray := prog_6_method_9_code
abbrev my_S_anyFromBelow : MethodName := ⟨"RunKeeper$Snapshots", "anyFromBelow", "(II)Z"⟩
abbrev mb_R_cutDeletedTail : ByteArray := prog_4_method_8_code
abbrev my_R_cutDeletedTail : MethodName := ⟨"RunKeeper$Row", "cutDeletedTail", "()V"⟩
abbrev mb_V_clear : ByteArray := prog_3_method_7_code
abbrev my_V_clear : MethodName := ⟨"RunKeeper$Level", "clear", "()V"⟩
abbrev mb_A_clear : ByteArray := prog_24_method_40_code
abbrev my_A_clear : MethodName := ⟨"java/util/ArrayList", "clear", "()V"⟩
abbrev mb_L_snapshot : ByteArray := method_8_code
abbrev my_L_snapshot : MethodName := ⟨"RunKeeperLaw", "snapshot", "(LRunKeeper;[J)I"⟩
abbrev mb_K_snapshot : ByteArray := prog_1_method_10_code
abbrev my_K_snapshot : MethodName := ⟨"RunKeeper", "snapshot", "()I"⟩
abbrev mb_S_leastFree : ByteArray := prog_6_method_3_code
abbrev my_S_leastFree : MethodName := ⟨"RunKeeper$Snapshots", "leastFree", "()I"⟩
abbrev mb_S_keep : ByteArray := prog_6_method_4_code
abbrev my_S_keep : MethodName := ⟨"RunKeeper$Snapshots", "keep", "(II)V"⟩
abbrev mb_L_release : ByteArray := method_9_code
abbrev my_L_release : MethodName := ⟨"RunKeeperLaw", "release", "(LRunKeeper;I)I"⟩
abbrev mb_K_release : ByteArray := prog_1_method_11_code
abbrev my_K_release : MethodName := ⟨"RunKeeper", "release", "(I)V"⟩
abbrev mb_S_has : ByteArray := prog_6_method_2_code
abbrev my_S_has : MethodName := ⟨"RunKeeper$Snapshots", "has", "(I)Z"⟩
abbrev mb_S_forget : ByteArray := prog_6_method_5_code
abbrev my_S_forget : MethodName := ⟨"RunKeeper$Snapshots", "forget", "(I)V"⟩
abbrev mb_L_get : ByteArray := method_10_code
abbrev my_L_get : MethodName := ⟨"RunKeeperLaw", "get", "(LRunKeeper;II[J)I"⟩
abbrev mb_K_get : ByteArray := prog_1_method_12_code
abbrev my_K_get : MethodName := ⟨"RunKeeper", "get", "(II)J"⟩
abbrev mb_K_requireKeyAndView : ByteArray := prog_1_method_30_code
abbrev my_K_requireKeyAndView : MethodName := ⟨"RunKeeper", "requireKeyAndView", "(II)V"⟩
abbrev mb_K_sequenceOf : ByteArray := prog_1_method_31_code
abbrev my_K_sequenceOf : MethodName := ⟨"RunKeeper", "sequenceOf", "(I)I"⟩
abbrev mb_S_sequenceAt : ByteArray := prog_6_method_7_code
abbrev my_S_sequenceAt : MethodName := ⟨"RunKeeper$Snapshots", "sequenceAt", "(I)I"⟩
abbrev mb_K_look : ByteArray := prog_1_method_32_code
abbrev my_K_look : MethodName := ⟨"RunKeeper", "look", "(II)LRunKeeper$Entry;"⟩
abbrev mb_R_latestOf : ByteArray := prog_4_method_11_code
abbrev my_R_latestOf : MethodName := ⟨"RunKeeper$Row", "latestOf", "(II)LRunKeeper$Entry;"⟩
abbrev mb_K_lookInLevel : ByteArray := prog_1_method_33_code
abbrev my_K_lookInLevel : MethodName := ⟨"RunKeeper", "lookInLevel", "(LRunKeeper$Level;II)LRunKeeper$Entry;"⟩
abbrev mb_V_runAt : ByteArray := prog_3_method_4_code
abbrev my_V_runAt : MethodName := ⟨"RunKeeper$Level", "runAt", "(I)LRunKeeper$Run;"⟩
abbrev mb_U_mayHave : ByteArray := prog_5_method_5_code
abbrev my_U_mayHave : MethodName := ⟨"RunKeeper$Run", "mayHave", "(I)Z"⟩
abbrev mb_U_passesFilter : ByteArray := prog_5_method_6_code
abbrev my_U_passesFilter : MethodName := ⟨"RunKeeper$Run", "passesFilter", "(I)Z"⟩
abbrev mb_K_probe : ByteArray := prog_1_method_34_code
abbrev my_K_probe : MethodName := ⟨"RunKeeper", "probe", "(LRunKeeper$Run;II)LRunKeeper$Entry;"⟩
abbrev mb_R_hasKey : ByteArray := prog_4_method_10_code
abbrev my_R_hasKey : MethodName := ⟨"RunKeeper$Row", "hasKey", "(I)Z"⟩
abbrev mb_L_next : ByteArray := method_11_code
abbrev my_L_next : MethodName := ⟨"RunKeeperLaw", "next", "(LRunKeeper;II[J)I"⟩
abbrev mb_K_next : ByteArray := prog_1_method_13_code
abbrev my_K_next : MethodName := ⟨"RunKeeper", "next", "(II)I"⟩
abbrev mb_K_noteNewestOfKeys : ByteArray := prog_1_method_35_code
abbrev my_K_noteNewestOfKeys : MethodName := ⟨"RunKeeper", "noteNewestOfKeys", "(I)V"⟩
abbrev mb_K_noteIfNewest : ByteArray := prog_1_method_36_code
abbrev my_K_noteIfNewest : MethodName := ⟨"RunKeeper", "noteIfNewest", "(LRunKeeper$Entry;I)V"⟩
abbrev mb_L_entry : ByteArray := method_12_code
abbrev my_L_entry : MethodName := ⟨"RunKeeperLaw", "entry", "(LRunKeeper;IIII[J)I"⟩
abbrev mb_K_entry : ByteArray := prog_1_method_14_code
abbrev my_K_entry : MethodName := ⟨"RunKeeper", "entry", "(IIII)I"⟩
abbrev mb_L_count : ByteArray := method_13_code
abbrev my_L_count : MethodName := ⟨"RunKeeperLaw", "count", "(LRunKeeper;II[J)I"⟩
abbrev mb_K_count : ByteArray := prog_1_method_15_code
abbrev my_K_count : MethodName := ⟨"RunKeeper", "count", "(II)I"⟩
abbrev mb_S_taken : ByteArray := prog_6_method_8_code
abbrev my_S_taken : MethodName := ⟨"RunKeeper$Snapshots", "taken", "()I"⟩
abbrev mb_M_init : ByteArray := prog_8_method_1_code
abbrev my_M_init : MethodName := ⟨"RunKeeperModel", "<init>", "()V"⟩
abbrev mb_M_thrown : ByteArray := prog_8_method_2_code
abbrev my_M_thrown : MethodName := ⟨"RunKeeperModel", "thrown", "()I"⟩
abbrev mb_M_put : ByteArray := prog_8_method_8_code
abbrev my_M_put : MethodName := ⟨"RunKeeperModel", "put", "(IJ)I"⟩
abbrev mb_M_written : ByteArray := prog_8_method_7_code
abbrev my_M_written : MethodName := ⟨"RunKeeperModel", "written", "(IJZ)I"⟩
abbrev mb_M_in : ByteArray := prog_8_method_3_code
abbrev my_M_in : MethodName := ⟨"RunKeeperModel", "in", "(III)Z"⟩
abbrev mb_M_fails : ByteArray := prog_8_method_4_code
abbrev my_M_fails : MethodName := ⟨"RunKeeperModel", "fails", "(ZI)Z"⟩
abbrev mb_M_write : ByteArray := prog_8_method_6_code
abbrev my_M_write : MethodName := ⟨"RunKeeperModel", "write", "(IJZ)V"⟩
abbrev mb_M_inRun : ByteArray := prog_8_method_5_code
abbrev my_M_inRun : MethodName := ⟨"RunKeeperModel", "inRun", "(I)I"⟩
abbrev mb_M_flushed : ByteArray := prog_8_method_10_code
abbrev my_M_flushed : MethodName := ⟨"RunKeeperModel", "flushed", "()I"⟩
abbrev mb_M_delete : ByteArray := prog_8_method_9_code
abbrev my_M_delete : MethodName := ⟨"RunKeeperModel", "delete", "(I)I"⟩
abbrev mb_M_batch : ByteArray := prog_8_method_11_code
abbrev my_M_batch : MethodName := ⟨"RunKeeperModel", "batch", "()V"⟩
abbrev mb_M_end : ByteArray := prog_8_method_12_code
abbrev my_M_end : MethodName := ⟨"RunKeeperModel", "end", "(Z)I"⟩
abbrev mb_M_sync : ByteArray := prog_8_method_13_code
abbrev my_M_sync : MethodName := ⟨"RunKeeperModel", "sync", "()I"⟩
abbrev mb_M_flush : ByteArray := prog_8_method_14_code
abbrev my_M_flush : MethodName := ⟨"RunKeeperModel", "flush", "()I"⟩
abbrev mb_M_merge : ByteArray := prog_8_method_20_code
abbrev my_M_merge : MethodName := ⟨"RunKeeperModel", "merge", "(I)I"⟩
abbrev mb_M_step : ByteArray := prog_8_method_16_code
abbrev my_M_step : MethodName := ⟨"RunKeeperModel", "step", "()Z"⟩
abbrev mb_M_runsOf : ByteArray := prog_8_method_15_code
abbrev my_M_runsOf : MethodName := ⟨"RunKeeperModel", "runsOf", "(I)I"⟩
abbrev mb_M_isKept : ByteArray := prog_8_method_17_code
abbrev my_M_isKept : MethodName := ⟨"RunKeeperModel", "isKept", "(II)Z"⟩
abbrev mb_M_isTop : ByteArray := prog_8_method_18_code
abbrev my_M_isTop : MethodName := ⟨"RunKeeperModel", "isTop", "(III)Z"⟩
abbrev mb_M_isLast : ByteArray := prog_8_method_19_code
abbrev my_M_isLast : MethodName := ⟨"RunKeeperModel", "isLast", "(I)Z"⟩
abbrev mb_M_crash : ByteArray := prog_8_method_21_code
abbrev my_M_crash : MethodName := ⟨"RunKeeperModel", "crash", "()I"⟩
abbrev mb_M_snapshot : ByteArray := prog_8_method_22_code
abbrev my_M_snapshot : MethodName := ⟨"RunKeeperModel", "snapshot", "()I"⟩
abbrev mb_M_release : ByteArray := prog_8_method_24_code
abbrev my_M_release : MethodName := ⟨"RunKeeperModel", "release", "(I)V"⟩
abbrev mb_M_isNone : ByteArray := prog_8_method_23_code
abbrev my_M_isNone : MethodName := ⟨"RunKeeperModel", "isNone", "(I)Z"⟩
abbrev mb_M_get : ByteArray := prog_8_method_27_code
abbrev my_M_get : MethodName := ⟨"RunKeeperModel", "get", "(II)J"⟩
abbrev mb_M_upTo : ByteArray := prog_8_method_26_code
abbrev my_M_upTo : MethodName := ⟨"RunKeeperModel", "upTo", "(I)I"⟩
abbrev mb_M_best : ByteArray := prog_8_method_25_code
abbrev my_M_best : MethodName := ⟨"RunKeeperModel", "best", "(II)I"⟩
abbrev mb_M_probe : ByteArray := prog_8_method_28_code
abbrev my_M_probe : MethodName := ⟨"RunKeeperModel", "probe", "(II)V"⟩
abbrev mb_M_isAsked : ByteArray := prog_8_method_30_code
abbrev my_M_isAsked : MethodName := ⟨"RunKeeperModel", "isAsked", "(II)Z"⟩
abbrev mb_M_bit : ByteArray := prog_8_method_29_code
abbrev my_M_bit : MethodName := ⟨"RunKeeperModel", "bit", "(IJI)I"⟩
abbrev mb_M_next : ByteArray := prog_8_method_31_code
abbrev my_M_next : MethodName := ⟨"RunKeeperModel", "next", "(II)I"⟩
abbrev mb_M_entry : ByteArray := prog_8_method_32_code
abbrev my_M_entry : MethodName := ⟨"RunKeeperModel", "entry", "(IIII)I"⟩
abbrev mb_M_comesBefore : ByteArray := prog_8_method_33_code
abbrev my_M_comesBefore : MethodName := ⟨"RunKeeperModel", "comesBefore", "(II)Z"⟩
abbrev mb_M_count : ByteArray := prog_8_method_34_code
abbrev my_M_count : MethodName := ⟨"RunKeeperModel", "count", "(II)I"⟩
