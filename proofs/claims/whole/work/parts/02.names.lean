/-! Names, by my program (wip/tools/names.py) out of the statement: classes and their fields, methods, the words of the tables, what each instruction decodes to. -/
theorem lw_mem {i : Nat} {w : Cond} (h : tables_1[i]? = some w) : w ∈ lw_tbl := List.mem_append_right _ (List.mem_of_getElem? h)
/-- the words that stay true under warmer tables -/
def so_ok : Cond → Bool
  | .stringRef .. => false
  | .laysStatic .. => false
  | _ => true
def tbl : List Cond := lw_tbl.filter so_ok
theorem tbl_mem {i : Nat} {w : Cond} (h : tables_1[i]? = some w) (h2 : so_ok w = true) : w ∈ tbl := List.mem_filter.mpr ⟨lw_mem h, h2⟩
theorem tbl_sel {q : MethodName × Nat} (h : q ∈ lw_privs) : Cond.selects q.1.cls q.1 q.1 ∈ tbl := List.mem_filter.mpr ⟨List.mem_append_left _ (List.mem_map.mpr ⟨q, h, rfl⟩), rfl⟩
abbrev R_HM : String := "HoldMaps"
def F_HM : u_T := fun k => match k with
  | 0 => ("HoldMaps", "heap", "LHoldMaps$Heap;", true)
  | 1 => ("HoldMaps", "weak", "LHoldMaps$WeakMap;", true)
  | 2 => ("HoldMaps", "soft", "LHoldMaps$SoftMap;", true)
  | _ => ("HoldMaps", "tables", "[LHoldMaps$Table;", true)
def t_HM : Nat → FieldType := fun k => match k with
  | 0 => .object "HoldMaps$Heap"
  | 1 => .object "HoldMaps$WeakMap"
  | 2 => .object "HoldMaps$SoftMap"
  | _ => .array (.object "HoldMaps$Table")
theorem n_HM : ∀ a, a < 4 → ∀ b, b < 4 → a ≠ b → (F_HM a).2.1 ≠ (F_HM b).2.1 := by decide +kernel
theorem t_HM_ok : ∀ k, k < 4 → parseFieldDescriptor (F_HM k).2.2.1 = some (t_HM k) := by decide +kernel
theorem i_HM : ∀ w ∈ u_ws R_HM F_HM 4, w ∈ tbl := by decide +kernel
abbrev R_He : String := "HoldMaps$Heap"
def F_He : u_T := fun k => match k with
  | 0 => ("HoldMaps$Heap", "things", "[LHoldMaps$Thing;", true)
  | 1 => ("HoldMaps$Heap", "heldOnes", "[I", true)
  | 2 => ("HoldMaps$Heap", "heldCount", "I", false)
  | _ => ("HoldMaps$Heap", "collected", "I", false)
def t_He : Nat → FieldType := fun k => match k with
  | 0 => .array (.object "HoldMaps$Thing")
  | 1 => .array (.int)
  | 2 => .int
  | _ => .int
theorem n_He : ∀ a, a < 4 → ∀ b, b < 4 → a ≠ b → (F_He a).2.1 ≠ (F_He b).2.1 := by decide +kernel
theorem t_He_ok : ∀ k, k < 4 → parseFieldDescriptor (F_He k).2.2.1 = some (t_He k) := by decide +kernel
theorem i_He : ∀ w ∈ u_ws R_He F_He 4, w ∈ tbl := by decide +kernel
abbrev R_Th : String := "HoldMaps$Thing"
def F_Th : u_T := fun k => match k with
  | 0 => ("HoldMaps$Thing", "value", "I", true)
  | 1 => ("HoldMaps$Thing", "references", "[I", true)
  | 2 => ("HoldMaps$Thing", "isRoot", "Z", false)
  | _ => ("HoldMaps$Thing", "isHeld", "Z", false)
def t_Th : Nat → FieldType := fun k => match k with
  | 0 => .int
  | 1 => .array (.int)
  | 2 => .boolean
  | _ => .boolean
theorem n_Th : ∀ a, a < 4 → ∀ b, b < 4 → a ≠ b → (F_Th a).2.1 ≠ (F_Th b).2.1 := by decide +kernel
theorem t_Th_ok : ∀ k, k < 4 → parseFieldDescriptor (F_Th k).2.2.1 = some (t_Th k) := by decide +kernel
theorem i_Th : ∀ w ∈ u_ws R_Th F_Th 4, w ∈ tbl := by decide +kernel
abbrev R_En : String := "HoldMaps$Entry"
def F_En : u_T := fun k => match k with
  | 0 => ("HoldMaps$Entry", "key", "I", true)
  | 1 => ("HoldMaps$Entry", "mark", "I", true)
  | 2 => ("HoldMaps$Entry", "value", "I", false)
  | _ => ("HoldMaps$Entry", "use", "I", false)
def t_En : Nat → FieldType := fun k => match k with
  | 0 => .int
  | 1 => .int
  | 2 => .int
  | _ => .int
theorem n_En : ∀ a, a < 4 → ∀ b, b < 4 → a ≠ b → (F_En a).2.1 ≠ (F_En b).2.1 := by decide +kernel
theorem t_En_ok : ∀ k, k < 4 → parseFieldDescriptor (F_En k).2.2.1 = some (t_En k) := by decide +kernel
theorem i_En : ∀ w ∈ u_ws R_En F_En 4, w ∈ tbl := by decide +kernel
abbrev R_We : String := "HoldMaps$WeakMap"
def F_We : u_T := fun k => match k with
  | 0 => ("HoldMaps$Table", "hasWalk", "Z", false)
  | 1 => ("HoldMaps$Table", "isBroken", "Z", false)
  | 2 => ("HoldMaps$Table", "walked", "I", false)
  | 3 => ("HoldMaps$Row", "row", "Ljava/util/ArrayList;", true)
  | 4 => ("HoldMaps$WeakMap", "moving", "Ljava/util/ArrayList;", true)
  | _ => ("HoldMaps$WeakMap", "buckets", "I", false)
def t_We : Nat → FieldType := fun k => match k with
  | 0 => .boolean
  | 1 => .boolean
  | 2 => .int
  | 3 => .object "java/util/ArrayList"
  | 4 => .object "java/util/ArrayList"
  | _ => .int
theorem n_We : ∀ a, a < 6 → ∀ b, b < 6 → a ≠ b → (F_We a).2.1 ≠ (F_We b).2.1 := by decide +kernel
theorem t_We_ok : ∀ k, k < 6 → parseFieldDescriptor (F_We k).2.2.1 = some (t_We k) := by decide +kernel
theorem i_We : ∀ w ∈ u_ws R_We F_We 6, w ∈ tbl := by decide +kernel
abbrev R_So : String := "HoldMaps$SoftMap"
def F_So : u_T := fun k => match k with
  | 0 => ("HoldMaps$Table", "hasWalk", "Z", false)
  | 1 => ("HoldMaps$Table", "isBroken", "Z", false)
  | 2 => ("HoldMaps$Table", "walked", "I", false)
  | 3 => ("HoldMaps$Row", "row", "Ljava/util/ArrayList;", true)
  | _ => ("HoldMaps$SoftMap", "time", "I", false)
def t_So : Nat → FieldType := fun k => match k with
  | 0 => .boolean
  | 1 => .boolean
  | 2 => .int
  | 3 => .object "java/util/ArrayList"
  | _ => .int
theorem n_So : ∀ a, a < 5 → ∀ b, b < 5 → a ≠ b → (F_So a).2.1 ≠ (F_So b).2.1 := by decide +kernel
theorem t_So_ok : ∀ k, k < 5 → parseFieldDescriptor (F_So k).2.2.1 = some (t_So k) := by decide +kernel
theorem i_So : ∀ w ∈ u_ws R_So F_So 5, w ∈ tbl := by decide +kernel
abbrev R_Id : String := "HoldMaps$IdentityMap"
def F_Id : u_T := fun k => match k with
  | 0 => ("HoldMaps$Table", "hasWalk", "Z", false)
  | 1 => ("HoldMaps$Table", "isBroken", "Z", false)
  | 2 => ("HoldMaps$Table", "walked", "I", false)
  | 3 => ("HoldMaps$IdentityMap", "slots", "[LHoldMaps$Entry;", true)
  | _ => ("HoldMaps$IdentityMap", "entries", "I", false)
def t_Id : Nat → FieldType := fun k => match k with
  | 0 => .boolean
  | 1 => .boolean
  | 2 => .int
  | 3 => .array (.object "HoldMaps$Entry")
  | _ => .int
theorem n_Id : ∀ a, a < 5 → ∀ b, b < 5 → a ≠ b → (F_Id a).2.1 ≠ (F_Id b).2.1 := by decide +kernel
theorem t_Id_ok : ∀ k, k < 5 → parseFieldDescriptor (F_Id k).2.2.1 = some (t_Id k) := by decide +kernel
theorem i_Id : ∀ w ∈ u_ws R_Id F_Id 5, w ∈ tbl := by decide +kernel
abbrev R_Pl : String := "HoldMaps$PlacesMap"
def F_Pl : u_T := fun k => match k with
  | 0 => ("HoldMaps$Table", "hasWalk", "Z", false)
  | 1 => ("HoldMaps$Table", "isBroken", "Z", false)
  | 2 => ("HoldMaps$Table", "walked", "I", false)
  | _ => ("HoldMaps$Row", "row", "Ljava/util/ArrayList;", true)
def t_Pl : Nat → FieldType := fun k => match k with
  | 0 => .boolean
  | 1 => .boolean
  | 2 => .int
  | _ => .object "java/util/ArrayList"
theorem n_Pl : ∀ a, a < 4 → ∀ b, b < 4 → a ≠ b → (F_Pl a).2.1 ≠ (F_Pl b).2.1 := by decide +kernel
theorem t_Pl_ok : ∀ k, k < 4 → parseFieldDescriptor (F_Pl k).2.2.1 = some (t_Pl k) := by decide +kernel
theorem i_Pl : ∀ w ∈ u_ws R_Pl F_Pl 4, w ∈ tbl := by decide +kernel
abbrev R_La : String := "HoldMaps$LatestMap"
def F_La : u_T := fun k => match k with
  | 0 => ("HoldMaps$Table", "hasWalk", "Z", false)
  | 1 => ("HoldMaps$Table", "isBroken", "Z", false)
  | 2 => ("HoldMaps$Table", "walked", "I", false)
  | _ => ("HoldMaps$Row", "row", "Ljava/util/ArrayList;", true)
def t_La : Nat → FieldType := fun k => match k with
  | 0 => .boolean
  | 1 => .boolean
  | 2 => .int
  | _ => .object "java/util/ArrayList"
theorem n_La : ∀ a, a < 4 → ∀ b, b < 4 → a ≠ b → (F_La a).2.1 ≠ (F_La b).2.1 := by decide +kernel
theorem t_La_ok : ∀ k, k < 4 → parseFieldDescriptor (F_La k).2.2.1 = some (t_La k) := by decide +kernel
theorem i_La : ∀ w ∈ u_ws R_La F_La 4, w ∈ tbl := by decide +kernel
abbrev R_AL : String := "java/util/ArrayList"
def F_AL : u_T := fun k => match k with
  | 0 => ("java/util/AbstractList", "modCount", "I", false)
  | 1 => ("java/util/ArrayList", "elementData", "[Ljava/lang/Object;", false)
  | _ => ("java/util/ArrayList", "size", "I", false)
def t_AL : Nat → FieldType := fun k => match k with
  | 0 => .int
  | 1 => .array (.object "java/lang/Object")
  | _ => .int
theorem n_AL : ∀ a, a < 3 → ∀ b, b < 3 → a ≠ b → (F_AL a).2.1 ≠ (F_AL b).2.1 := by decide +kernel
theorem t_AL_ok : ∀ k, k < 3 → parseFieldDescriptor (F_AL k).2.2.1 = some (t_AL k) := by decide +kernel
theorem i_AL : ∀ w ∈ u_ws R_AL F_AL 3, w ∈ tbl := by decide +kernel
abbrev R_Mo : String := "HoldMapsModel"
def F_Mo : u_T := fun k => match k with
  | 0 => ("HoldMapsModel", "refusal", "I", false)
  | 1 => ("HoldMapsModel", "values", "[I", false)
  | 2 => ("HoldMapsModel", "first", "[I", false)
  | 3 => ("HoldMapsModel", "second", "[I", false)
  | 4 => ("HoldMapsModel", "there", "[Z", false)
  | 5 => ("HoldMapsModel", "roots", "[Z", false)
  | 6 => ("HoldMapsModel", "held", "[Z", false)
  | 7 => ("HoldMapsModel", "collected", "I", false)
  | 8 => ("HoldMapsModel", "keys", "[I", false)
  | 9 => ("HoldMapsModel", "what", "[I", false)
  | 10 => ("HoldMapsModel", "uses", "[I", false)
  | 11 => ("HoldMapsModel", "sizes", "[I", false)
  | 12 => ("HoldMapsModel", "buckets", "I", false)
  | 13 => ("HoldMapsModel", "old", "[I", false)
  | 14 => ("HoldMapsModel", "time", "I", false)
  | 15 => ("HoldMapsModel", "walks", "[Z", false)
  | 16 => ("HoldMapsModel", "broken", "[Z", false)
  | _ => ("HoldMapsModel", "at", "[I", false)
def t_Mo : Nat → FieldType := fun k => match k with
  | 0 => .int
  | 1 => .array (.int)
  | 2 => .array (.int)
  | 3 => .array (.int)
  | 4 => .array (.boolean)
  | 5 => .array (.boolean)
  | 6 => .array (.boolean)
  | 7 => .int
  | 8 => .array (.int)
  | 9 => .array (.int)
  | 10 => .array (.int)
  | 11 => .array (.int)
  | 12 => .int
  | 13 => .array (.int)
  | 14 => .int
  | 15 => .array (.boolean)
  | 16 => .array (.boolean)
  | _ => .array (.int)
theorem n_Mo : ∀ a, a < 18 → ∀ b, b < 18 → a ≠ b → (F_Mo a).2.1 ≠ (F_Mo b).2.1 := by decide +kernel
theorem t_Mo_ok : ∀ k, k < 18 → parseFieldDescriptor (F_Mo k).2.2.1 = some (t_Mo k) := by decide +kernel
theorem i_Mo : ∀ w ∈ u_ws R_Mo F_Mo 18, w ∈ tbl := by decide +kernel
/-- the classes whose objects the store holds: an object names its class by its place here -/
def vcl : List vw_C := [(R_HM, F_HM, 4), (R_He, F_He, 4), (R_Th, F_Th, 4), (R_En, F_En, 4), (R_We, F_We, 6), (R_So, F_So, 5), (R_Id, F_Id, 5), (R_Pl, F_Pl, 4), (R_La, F_La, 4), (R_AL, F_AL, 3), (R_Mo, F_Mo, 18)]
abbrev b_HM_init : ByteArray := prog_1_method_1_code
abbrev y_HM_init : MethodName := ⟨"HoldMaps", "<init>", "()V"⟩
abbrev b_Ob_init : ByteArray := object_method_1_code
abbrev y_Ob_init : MethodName := ⟨"java/lang/Object", "<init>", "()V"⟩
abbrev b_He_init : ByteArray := prog_3_method_1_code
abbrev y_He_init : MethodName := ⟨"HoldMaps$Heap", "<init>", "()V"⟩
abbrev b_We_init : ByteArray := prog_11_method_1_code
abbrev y_We_init : MethodName := ⟨"HoldMaps$WeakMap", "<init>", "()V"⟩
abbrev b_Ro_init : ByteArray := prog_7_method_1_code
abbrev y_Ro_init : MethodName := ⟨"HoldMaps$Row", "<init>", "()V"⟩
abbrev b_Ta_init : ByteArray := prog_9_method_1_code
abbrev y_Ta_init : MethodName := ⟨"HoldMaps$Table", "<init>", "()V"⟩
abbrev b_AL_init : ByteArray := prog_27_method_2_code
abbrev y_AL_init : MethodName := ⟨"java/util/ArrayList", "<init>", "()V"⟩
abbrev b_Ab_init : ByteArray := prog_26_method_1_code
abbrev y_Ab_init : MethodName := ⟨"java/util/AbstractList", "<init>", "()V"⟩
abbrev b_Ac_init : ByteArray := prog_25_method_1_code
abbrev y_Ac_init : MethodName := ⟨"java/util/AbstractCollection", "<init>", "()V"⟩
abbrev b_So_init : ByteArray := prog_8_method_1_code
abbrev y_So_init : MethodName := ⟨"HoldMaps$SoftMap", "<init>", "()V"⟩
abbrev b_Id_init : ByteArray := prog_4_method_1_code
abbrev y_Id_init : MethodName := ⟨"HoldMaps$IdentityMap", "<init>", "()V"⟩
abbrev b_Pl_init : ByteArray := prog_6_method_1_code
abbrev y_Pl_init : MethodName := ⟨"HoldMaps$PlacesMap", "<init>", "()V"⟩
abbrev b_La_init : ByteArray := prog_5_method_1_code
abbrev y_La_init : MethodName := ⟨"HoldMaps$LatestMap", "<init>", "()V"⟩
abbrev b_HM_size : ByteArray := prog_1_method_8_code
abbrev y_HM_size : MethodName := ⟨"HoldMaps", "size", "(I)I"⟩
abbrev b_HM_isMap : ByteArray := prog_1_method_15_code
abbrev y_HM_isMap : MethodName := ⟨"HoldMaps", "isMap", "(I)Z"⟩
abbrev b_Id_length : ByteArray := prog_4_method_2_code
abbrev y_Id_length : MethodName := ⟨"HoldMaps$IdentityMap", "length", "()I"⟩
abbrev b_Ro_length : ByteArray := prog_7_method_2_code
abbrev y_Ro_length : MethodName := ⟨"HoldMaps$Row", "length", "()I"⟩
abbrev b_AL_size : ByteArray := prog_27_method_8_code
abbrev y_AL_size : MethodName := ⟨"java/util/ArrayList", "size", "()I"⟩
abbrev b_HM_value : ByteArray := prog_1_method_13_code
abbrev y_HM_value : MethodName := ⟨"HoldMaps", "value", "(I)I"⟩
abbrev b_He_has : ByteArray := prog_3_method_2_code
abbrev y_He_has : MethodName := ⟨"HoldMaps$Heap", "has", "(I)Z"⟩
abbrev b_HM_count : ByteArray := prog_1_method_14_code
abbrev y_HM_count : MethodName := ⟨"HoldMaps", "count", "(I)I"⟩
abbrev b_He_living : ByteArray := prog_3_method_4_code
abbrev y_He_living : MethodName := ⟨"HoldMaps$Heap", "living", "()I"⟩
abbrev b_Lw_make : ByteArray := method_3_code
abbrev y_Lw_make : MethodName := ⟨"HoldMapsLaw", "make", "(LHoldMaps;I[J)I"⟩
abbrev b_HM_make : ByteArray := prog_1_method_2_code
abbrev y_HM_make : MethodName := ⟨"HoldMaps", "make", "(I)I"⟩
abbrev b_Tw_init : ByteArray := prog_24_method_1_code
abbrev y_Tw_init : MethodName := ⟨"java/lang/Throwable", "<init>", "()V"⟩
abbrev b_Tw_init2 : ByteArray := prog_24_method_2_code
abbrev y_Tw_init2 : MethodName := ⟨"java/lang/Throwable", "<init>", "(Ljava/lang/String;)V"⟩
abbrev b_Tw_fillInStackTrace : ByteArray := prog_24_method_18_code
abbrev y_Tw_fillInStackTrace : MethodName := ⟨"java/lang/Throwable", "fillInStackTrace", "()Ljava/lang/Throwable;"⟩
abbrev b_Ia_init : ByteArray := prog_17_method_2_code
abbrev y_Ia_init : MethodName := ⟨"java/lang/IllegalArgumentException", "<init>", "(Ljava/lang/String;)V"⟩
abbrev b_Re_init : ByteArray := prog_21_method_2_code
abbrev y_Re_init : MethodName := ⟨"java/lang/RuntimeException", "<init>", "(Ljava/lang/String;)V"⟩
abbrev b_Ex_init : ByteArray := prog_16_method_2_code
abbrev y_Ex_init : MethodName := ⟨"java/lang/Exception", "<init>", "(Ljava/lang/String;)V"⟩
abbrev b_He_lowestFree : ByteArray := prog_3_method_3_code
abbrev y_He_lowestFree : MethodName := ⟨"HoldMaps$Heap", "lowestFree", "()I"⟩
abbrev b_Is_init : ByteArray := prog_18_method_2_code
abbrev y_Is_init : MethodName := ⟨"java/lang/IllegalStateException", "<init>", "(Ljava/lang/String;)V"⟩
abbrev b_Th_init : ByteArray := prog_10_method_1_code
abbrev y_Th_init : MethodName := ⟨"HoldMaps$Thing", "<init>", "(I)V"⟩
abbrev b_Lw_refer : ByteArray := method_4_code
abbrev y_Lw_refer : MethodName := ⟨"HoldMapsLaw", "refer", "(LHoldMaps;III[J)I"⟩
abbrev b_HM_refer : ByteArray := prog_1_method_3_code
abbrev y_HM_refer : MethodName := ⟨"HoldMaps", "refer", "(III)I"⟩
abbrev b_Lw_root : ByteArray := method_5_code
abbrev y_Lw_root : MethodName := ⟨"HoldMapsLaw", "root", "(LHoldMaps;IZ[J)I"⟩
abbrev b_HM_root : ByteArray := prog_1_method_4_code
abbrev y_HM_root : MethodName := ⟨"HoldMaps", "root", "(IZ)Z"⟩
abbrev b_Lw_put : ByteArray := method_6_code
abbrev y_Lw_put : MethodName := ⟨"HoldMapsLaw", "put", "(LHoldMaps;III[J)I"⟩
abbrev b_HM_put : ByteArray := prog_1_method_5_code
abbrev y_HM_put : MethodName := ⟨"HoldMaps", "put", "(III)I"⟩
abbrev b_HM_isKeyOf : ByteArray := prog_1_method_16_code
abbrev y_HM_isKeyOf : MethodName := ⟨"HoldMaps", "isKeyOf", "(II)Z"⟩
abbrev b_Pl_takes : ByteArray := prog_6_method_4_code
abbrev y_Pl_takes : MethodName := ⟨"HoldMaps$PlacesMap", "takes", "(I)Z"⟩
abbrev b_Ta_takes : ByteArray := prog_9_method_11_code
abbrev y_Ta_takes : MethodName := ⟨"HoldMaps$Table", "takes", "(I)Z"⟩
abbrev b_Id_markOf : ByteArray := prog_4_method_6_code
abbrev y_Id_markOf : MethodName := ⟨"HoldMaps$IdentityMap", "markOf", "(II)I"⟩
abbrev b_Ta_markOf : ByteArray := prog_9_method_9_code
abbrev y_Ta_markOf : MethodName := ⟨"HoldMaps$Table", "markOf", "(II)I"⟩
abbrev b_Ta_find : ByteArray := prog_9_method_8_code
abbrev y_Ta_find : MethodName := ⟨"HoldMaps$Table", "find", "(I)I"⟩
abbrev b_Id_entryAt : ByteArray := prog_4_method_3_code
abbrev y_Id_entryAt : MethodName := ⟨"HoldMaps$IdentityMap", "entryAt", "(I)LHoldMaps$Entry;"⟩
abbrev b_Id_slotOf : ByteArray := prog_4_method_8_code
abbrev y_Id_slotOf : MethodName := ⟨"HoldMaps$IdentityMap", "slotOf", "(I)I"⟩
abbrev b_Ro_entryAt : ByteArray := prog_7_method_3_code
abbrev y_Ro_entryAt : MethodName := ⟨"HoldMaps$Row", "entryAt", "(I)LHoldMaps$Entry;"⟩
abbrev b_AL_get : ByteArray := prog_27_method_20_code
abbrev y_AL_get : MethodName := ⟨"java/util/ArrayList", "get", "(I)Ljava/lang/Object;"⟩
abbrev b_Os_checkIndex : ByteArray := prog_32_method_17_code
abbrev y_Os_checkIndex : MethodName := ⟨"java/util/Objects", "checkIndex", "(II)I"⟩
abbrev b_Pr_checkIndex : ByteArray := prog_36_method_11_code
abbrev y_Pr_checkIndex : MethodName := ⟨"jdk/internal/util/Preconditions", "checkIndex", "(IILjava/util/function/BiFunction;)I"⟩
abbrev b_AL_elementData : ByteArray := prog_27_method_18_code
abbrev y_AL_elementData : MethodName := ⟨"java/util/ArrayList", "elementData", "(I)Ljava/lang/Object;"⟩
abbrev b_Id_isFull : ByteArray := prog_4_method_7_code
abbrev y_Id_isFull : MethodName := ⟨"HoldMaps$IdentityMap", "isFull", "()Z"⟩
abbrev b_Ta_isFull : ByteArray := prog_9_method_12_code
abbrev y_Ta_isFull : MethodName := ⟨"HoldMaps$Table", "isFull", "()Z"⟩
abbrev b_So_tick : ByteArray := prog_8_method_3_code
abbrev y_So_tick : MethodName := ⟨"HoldMaps$SoftMap", "tick", "()V"⟩
abbrev b_Ta_tick : ByteArray := prog_9_method_13_code
abbrev y_Ta_tick : MethodName := ⟨"HoldMaps$Table", "tick", "()V"⟩
abbrev b_Pl_keyOf : ByteArray := prog_6_method_3_code
abbrev y_Pl_keyOf : MethodName := ⟨"HoldMaps$PlacesMap", "keyOf", "(II)I"⟩
abbrev b_Ta_keyOf : ByteArray := prog_9_method_10_code
abbrev y_Ta_keyOf : MethodName := ⟨"HoldMaps$Table", "keyOf", "(II)I"⟩
abbrev b_En_init : ByteArray := prog_2_method_1_code
abbrev y_En_init : MethodName := ⟨"HoldMaps$Entry", "<init>", "(III)V"⟩
abbrev b_Id_add : ByteArray := prog_4_method_4_code
abbrev y_Id_add : MethodName := ⟨"HoldMaps$IdentityMap", "add", "(LHoldMaps$Entry;)V"⟩
abbrev b_Id_firstSlot : ByteArray := prog_4_method_9_code
abbrev y_Id_firstSlot : MethodName := ⟨"HoldMaps$IdentityMap", "firstSlot", "(LHoldMaps$Entry;)I"⟩
abbrev b_La_add : ByteArray := prog_5_method_2_code
abbrev y_La_add : MethodName := ⟨"HoldMaps$LatestMap", "add", "(LHoldMaps$Entry;)V"⟩
abbrev b_Ro_append : ByteArray := prog_7_method_5_code
abbrev y_Ro_append : MethodName := ⟨"HoldMaps$Row", "append", "(LHoldMaps$Entry;)V"⟩
abbrev b_AL_add : ByteArray := prog_27_method_25_code
abbrev y_AL_add : MethodName := ⟨"java/util/ArrayList", "add", "(Ljava/lang/Object;)Z"⟩
abbrev b_AL_add2 : ByteArray := prog_27_method_24_code
abbrev y_AL_add2 : MethodName := ⟨"java/util/ArrayList", "add", "(Ljava/lang/Object;[Ljava/lang/Object;I)V"⟩
abbrev b_AL_add3 : ByteArray := prog_27_method_26_code
abbrev y_AL_add3 : MethodName := ⟨"java/util/ArrayList", "add", "(ILjava/lang/Object;)V"⟩
abbrev b_AL_grow : ByteArray := prog_27_method_7_code
abbrev y_AL_grow : MethodName := ⟨"java/util/ArrayList", "grow", "()[Ljava/lang/Object;"⟩
abbrev b_AL_grow2 : ByteArray := prog_27_method_6_code
abbrev y_AL_grow2 : MethodName := ⟨"java/util/ArrayList", "grow", "(I)[Ljava/lang/Object;"⟩
abbrev b_As_newLength : ByteArray := prog_35_method_27_code
abbrev y_As_newLength : MethodName := ⟨"jdk/internal/util/ArraysSupport", "newLength", "(III)I"⟩
abbrev b_Ma_max : ByteArray := prog_20_method_65_code
abbrev y_Ma_max : MethodName := ⟨"java/lang/Math", "max", "(II)I"⟩
abbrev b_As_hugeLength : ByteArray := prog_35_method_28_code
abbrev y_As_hugeLength : MethodName := ⟨"jdk/internal/util/ArraysSupport", "hugeLength", "(II)I"⟩
abbrev b_Ar_copyOf : ByteArray := prog_28_method_119_code
abbrev y_Ar_copyOf : MethodName := ⟨"java/util/Arrays", "copyOf", "([Ljava/lang/Object;I)[Ljava/lang/Object;"⟩
abbrev b_Ar_copyOf2 : ByteArray := prog_28_method_120_code
abbrev y_Ar_copyOf2 : MethodName := ⟨"java/util/Arrays", "copyOf", "([Ljava/lang/Object;ILjava/lang/Class;)[Ljava/lang/Object;"⟩
abbrev b_Ma_min : ByteArray := prog_20_method_69_code
abbrev y_Ma_min : MethodName := ⟨"java/lang/Math", "min", "(II)I"⟩
abbrev b_Ro_dropAt : ByteArray := prog_7_method_4_code
abbrev y_Ro_dropAt : MethodName := ⟨"HoldMaps$Row", "dropAt", "(I)V"⟩
abbrev b_AL_remove : ByteArray := prog_27_method_29_code
abbrev y_AL_remove : MethodName := ⟨"java/util/ArrayList", "remove", "(I)Ljava/lang/Object;"⟩
abbrev b_AL_fastRemove : ByteArray := prog_27_method_39_code
abbrev y_AL_fastRemove : MethodName := ⟨"java/util/ArrayList", "fastRemove", "([Ljava/lang/Object;I)V"⟩
abbrev b_Pl_add : ByteArray := prog_6_method_2_code
abbrev y_Pl_add : MethodName := ⟨"HoldMaps$PlacesMap", "add", "(LHoldMaps$Entry;)V"⟩
abbrev b_AL_rangeCheckForAdd : ByteArray := prog_27_method_45_code
abbrev y_AL_rangeCheckForAdd : MethodName := ⟨"java/util/ArrayList", "rangeCheckForAdd", "(I)V"⟩
abbrev b_So_add : ByteArray := prog_8_method_2_code
abbrev y_So_add : MethodName := ⟨"HoldMaps$SoftMap", "add", "(LHoldMaps$Entry;)V"⟩
abbrev b_We_add : ByteArray := prog_11_method_2_code
abbrev y_We_add : MethodName := ⟨"HoldMaps$WeakMap", "add", "(LHoldMaps$Entry;)V"⟩
abbrev b_We_addToBucket : ByteArray := prog_11_method_3_code
abbrev y_We_addToBucket : MethodName := ⟨"HoldMaps$WeakMap", "addToBucket", "(LHoldMaps$Entry;)V"⟩
abbrev b_We_bucketOf : ByteArray := prog_11_method_4_code
abbrev y_We_bucketOf : MethodName := ⟨"HoldMaps$WeakMap", "bucketOf", "(LHoldMaps$Entry;)I"⟩
abbrev b_We_doubleBuckets : ByteArray := prog_11_method_5_code
abbrev y_We_doubleBuckets : MethodName := ⟨"HoldMaps$WeakMap", "doubleBuckets", "()V"⟩
abbrev b_AL_clear : ByteArray := prog_27_method_40_code
abbrev y_AL_clear : MethodName := ⟨"java/util/ArrayList", "clear", "()V"⟩
abbrev b_La_use : ByteArray := prog_5_method_3_code
abbrev y_La_use : MethodName := ⟨"HoldMaps$LatestMap", "use", "(I)V"⟩
abbrev b_So_use : ByteArray := prog_8_method_4_code
abbrev y_So_use : MethodName := ⟨"HoldMaps$SoftMap", "use", "(I)V"⟩
abbrev b_Ta_use : ByteArray := prog_9_method_14_code
abbrev y_Ta_use : MethodName := ⟨"HoldMaps$Table", "use", "(I)V"⟩
abbrev b_Lw_get : ByteArray := method_7_code
abbrev y_Lw_get : MethodName := ⟨"HoldMapsLaw", "get", "(LHoldMaps;II[J)I"⟩
abbrev b_HM_get : ByteArray := prog_1_method_6_code
abbrev y_HM_get : MethodName := ⟨"HoldMaps", "get", "(II)I"⟩
abbrev b_Ta_valueAt : ByteArray := prog_9_method_7_code
abbrev y_Ta_valueAt : MethodName := ⟨"HoldMaps$Table", "valueAt", "(I)I"⟩
abbrev b_Lw_remove : ByteArray := method_8_code
abbrev y_Lw_remove : MethodName := ⟨"HoldMapsLaw", "remove", "(LHoldMaps;II[J)I"⟩
abbrev b_HM_remove : ByteArray := prog_1_method_7_code
abbrev y_HM_remove : MethodName := ⟨"HoldMaps", "remove", "(II)I"⟩
abbrev b_Id_dropAt : ByteArray := prog_4_method_5_code
abbrev y_Id_dropAt : MethodName := ⟨"HoldMaps$IdentityMap", "dropAt", "(I)V"⟩
abbrev b_Id_closeUp : ByteArray := prog_4_method_10_code
abbrev y_Id_closeUp : MethodName := ⟨"HoldMaps$IdentityMap", "closeUp", "(I)V"⟩
abbrev b_Id_liesBehind : ByteArray := prog_4_method_11_code
abbrev y_Id_liesBehind : MethodName := ⟨"HoldMaps$IdentityMap", "liesBehind", "(III)Z"⟩
abbrev b_Ma_floorMod : ByteArray := prog_20_method_50_code
abbrev y_Ma_floorMod : MethodName := ⟨"java/lang/Math", "floorMod", "(II)I"⟩
abbrev b_Lw_entry : ByteArray := method_9_code
abbrev y_Lw_entry : MethodName := ⟨"HoldMapsLaw", "entry", "(LHoldMaps;III[J)I"⟩
abbrev b_HM_entry : ByteArray := prog_1_method_9_code
abbrev y_HM_entry : MethodName := ⟨"HoldMaps", "entry", "(III)I"⟩
abbrev b_Ns_init : ByteArray := prog_31_method_4_code
abbrev y_Ns_init : MethodName := ⟨"java/util/NoSuchElementException", "<init>", "(Ljava/lang/String;)V"⟩
abbrev b_Ta_keyAt : ByteArray := prog_9_method_6_code
abbrev y_Ta_keyAt : MethodName := ⟨"HoldMaps$Table", "keyAt", "(I)I"⟩
abbrev b_Lw_walk : ByteArray := method_10_code
abbrev y_Lw_walk : MethodName := ⟨"HoldMapsLaw", "walk", "(LHoldMaps;I)I"⟩
abbrev b_HM_walk : ByteArray := prog_1_method_10_code
abbrev y_HM_walk : MethodName := ⟨"HoldMaps", "walk", "(I)V"⟩
abbrev b_Lw_step : ByteArray := method_11_code
abbrev y_Lw_step : MethodName := ⟨"HoldMapsLaw", "step", "(LHoldMaps;I[J)I"⟩
abbrev b_HM_step : ByteArray := prog_1_method_11_code
abbrev y_HM_step : MethodName := ⟨"HoldMaps", "step", "(I)I"⟩
abbrev b_Lw_collect : ByteArray := method_12_code
abbrev y_Lw_collect : MethodName := ⟨"HoldMapsLaw", "collect", "(LHoldMaps;I[J)I"⟩
abbrev b_HM_collect : ByteArray := prog_1_method_12_code
abbrev y_HM_collect : MethodName := ⟨"HoldMaps", "collect", "(I)I"⟩
abbrev b_He_holdRootsOnly : ByteArray := prog_3_method_6_code
abbrev y_He_holdRootsOnly : MethodName := ⟨"HoldMaps$Heap", "holdRootsOnly", "()V"⟩
abbrev b_He_hold : ByteArray := prog_3_method_7_code
abbrev y_He_hold : MethodName := ⟨"HoldMaps$Heap", "hold", "(I)V"⟩
abbrev b_He_mark : ByteArray := prog_3_method_9_code
abbrev y_He_mark : MethodName := ⟨"HoldMaps$Heap", "mark", "(I)V"⟩
abbrev b_He_markWhatItRefersTo : ByteArray := prog_3_method_8_code
abbrev y_He_markWhatItRefersTo : MethodName := ⟨"HoldMaps$Heap", "markWhatItRefersTo", "(I)V"⟩
abbrev b_HM_holdWhatMapsHold : ByteArray := prog_1_method_17_code
abbrev y_HM_holdWhatMapsHold : MethodName := ⟨"HoldMaps", "holdWhatMapsHold", "()V"⟩
abbrev b_HM_holdKeys : ByteArray := prog_1_method_18_code
abbrev y_HM_holdKeys : MethodName := ⟨"HoldMaps", "holdKeys", "(LHoldMaps$Table;)V"⟩
abbrev b_HM_holdValues : ByteArray := prog_1_method_19_code
abbrev y_HM_holdValues : MethodName := ⟨"HoldMaps", "holdValues", "(LHoldMaps$Table;)V"⟩
abbrev b_HM_dropSoftEntries : ByteArray := prog_1_method_20_code
abbrev y_HM_dropSoftEntries : MethodName := ⟨"HoldMaps", "dropSoftEntries", "(I)V"⟩
abbrev b_So_usedFirstAfter : ByteArray := prog_8_method_5_code
abbrev y_So_usedFirstAfter : MethodName := ⟨"HoldMaps$SoftMap", "usedFirstAfter", "(I)I"⟩
abbrev b_He_isHeld : ByteArray := prog_3_method_5_code
abbrev y_He_isHeld : MethodName := ⟨"HoldMaps$Heap", "isHeld", "(I)Z"⟩
abbrev b_HM_dropWeakEntries : ByteArray := prog_1_method_21_code
abbrev y_HM_dropWeakEntries : MethodName := ⟨"HoldMaps", "dropWeakEntries", "()V"⟩
abbrev b_He_sweep : ByteArray := prog_3_method_10_code
abbrev y_He_sweep : MethodName := ⟨"HoldMaps$Heap", "sweep", "()I"⟩
abbrev b_Mo_init : ByteArray := prog_13_method_1_code
abbrev y_Mo_init : MethodName := ⟨"HoldMapsModel", "<init>", "()V"⟩
abbrev b_Mo_thrown : ByteArray := prog_13_method_2_code
abbrev y_Mo_thrown : MethodName := ⟨"HoldMapsModel", "thrown", "()I"⟩
abbrev b_Mo_make : ByteArray := prog_13_method_5_code
abbrev y_Mo_make : MethodName := ⟨"HoldMapsModel", "make", "(I)I"⟩
abbrev b_Mo_refuse : ByteArray := prog_13_method_3_code
abbrev y_Mo_refuse : MethodName := ⟨"HoldMapsModel", "refuse", "(I)I"⟩
abbrev b_Mo_refer : ByteArray := prog_13_method_6_code
abbrev y_Mo_refer : MethodName := ⟨"HoldMapsModel", "refer", "(III)I"⟩
abbrev b_Mo_isObject : ByteArray := prog_13_method_4_code
abbrev y_Mo_isObject : MethodName := ⟨"HoldMapsModel", "isObject", "(I)Z"⟩
abbrev b_Mo_root : ByteArray := prog_13_method_7_code
abbrev y_Mo_root : MethodName := ⟨"HoldMapsModel", "root", "(IZ)Z"⟩
abbrev b_Mo_put : ByteArray := prog_13_method_26_code
abbrev y_Mo_put : MethodName := ⟨"HoldMapsModel", "put", "(III)I"⟩
abbrev b_Mo_isMap : ByteArray := prog_13_method_21_code
abbrev y_Mo_isMap : MethodName := ⟨"HoldMapsModel", "isMap", "(I)Z"⟩
abbrev b_Mo_isKey : ByteArray := prog_13_method_22_code
abbrev y_Mo_isKey : MethodName := ⟨"HoldMapsModel", "isKey", "(II)Z"⟩
abbrev b_Mo_find : ByteArray := prog_13_method_11_code
abbrev y_Mo_find : MethodName := ⟨"HoldMapsModel", "find", "(II)I"⟩
abbrev b_Mo_endd : ByteArray := prog_13_method_9_code
abbrev y_Mo_endd : MethodName := ⟨"HoldMapsModel", "end", "(I)I"⟩
abbrev b_Mo_isSame : ByteArray := prog_13_method_10_code
abbrev y_Mo_isSame : MethodName := ⟨"HoldMapsModel", "isSame", "(III)Z"⟩
abbrev b_Mo_comes : ByteArray := prog_13_method_24_code
abbrev y_Mo_comes : MethodName := ⟨"HoldMapsModel", "comes", "(III)V"⟩
abbrev b_Mo_change : ByteArray := prog_13_method_8_code
abbrev y_Mo_change : MethodName := ⟨"HoldMapsModel", "change", "(I)V"⟩
abbrev b_Mo_putWeak : ByteArray := prog_13_method_16_code
abbrev y_Mo_putWeak : MethodName := ⟨"HoldMapsModel", "putWeak", "(II)V"⟩
abbrev b_Mo_bucketOf : ByteArray := prog_13_method_15_code
abbrev y_Mo_bucketOf : MethodName := ⟨"HoldMapsModel", "bucketOf", "(I)I"⟩
abbrev b_Mo_openn : ByteArray := prog_13_method_13_code
abbrev y_Mo_openn : MethodName := ⟨"HoldMapsModel", "open", "(IIII)V"⟩
abbrev b_Mo_set : ByteArray := prog_13_method_12_code
abbrev y_Mo_set : MethodName := ⟨"HoldMapsModel", "set", "(III)V"⟩
abbrev b_Mo_doubleBuckets : ByteArray := prog_13_method_17_code
abbrev y_Mo_doubleBuckets : MethodName := ⟨"HoldMapsModel", "doubleBuckets", "()V"⟩
abbrev b_Mo_putIdentity : ByteArray := prog_13_method_19_code
abbrev y_Mo_putIdentity : MethodName := ⟨"HoldMapsModel", "putIdentity", "(II)V"⟩
abbrev b_Mo_slotOf : ByteArray := prog_13_method_18_code
abbrev y_Mo_slotOf : MethodName := ⟨"HoldMapsModel", "slotOf", "(I)I"⟩
abbrev b_Mo_close : ByteArray := prog_13_method_14_code
abbrev y_Mo_close : MethodName := ⟨"HoldMapsModel", "close", "(II)V"⟩
abbrev b_Mo_use : ByteArray := prog_13_method_23_code
abbrev y_Mo_use : MethodName := ⟨"HoldMapsModel", "use", "(II)V"⟩
abbrev b_Mo_get : ByteArray := prog_13_method_27_code
abbrev y_Mo_get : MethodName := ⟨"HoldMapsModel", "get", "(II)I"⟩
abbrev b_Mo_remove : ByteArray := prog_13_method_28_code
abbrev y_Mo_remove : MethodName := ⟨"HoldMapsModel", "remove", "(II)I"⟩
abbrev b_Mo_goes : ByteArray := prog_13_method_25_code
abbrev y_Mo_goes : MethodName := ⟨"HoldMapsModel", "goes", "(II)V"⟩
abbrev b_Mo_takeIdentity : ByteArray := prog_13_method_20_code
abbrev y_Mo_takeIdentity : MethodName := ⟨"HoldMapsModel", "takeIdentity", "(I)V"⟩
abbrev b_Mo_size : ByteArray := prog_13_method_29_code
abbrev y_Mo_size : MethodName := ⟨"HoldMapsModel", "size", "(I)I"⟩
abbrev b_Mo_entry : ByteArray := prog_13_method_31_code
abbrev y_Mo_entry : MethodName := ⟨"HoldMapsModel", "entry", "(III)I"⟩
abbrev b_Mo_placeOf : ByteArray := prog_13_method_30_code
abbrev y_Mo_placeOf : MethodName := ⟨"HoldMapsModel", "placeOf", "(II)I"⟩
abbrev b_Mo_walk : ByteArray := prog_13_method_32_code
abbrev y_Mo_walk : MethodName := ⟨"HoldMapsModel", "walk", "(I)V"⟩
abbrev b_Mo_step : ByteArray := prog_13_method_33_code
abbrev y_Mo_step : MethodName := ⟨"HoldMapsModel", "step", "(I)I"⟩
abbrev b_Mo_collect : ByteArray := prog_13_method_38_code
abbrev y_Mo_collect : MethodName := ⟨"HoldMapsModel", "collect", "(I)I"⟩
abbrev b_Mo_holdMaps : ByteArray := prog_13_method_36_code
abbrev y_Mo_holdMaps : MethodName := ⟨"HoldMapsModel", "holdMaps", "()V"⟩
abbrev b_Mo_hold : ByteArray := prog_13_method_34_code
abbrev y_Mo_hold : MethodName := ⟨"HoldMapsModel", "hold", "(I)V"⟩
abbrev b_Mo_spread : ByteArray := prog_13_method_35_code
abbrev y_Mo_spread : MethodName := ⟨"HoldMapsModel", "spread", "()V"⟩
abbrev b_Mo_soften : ByteArray := prog_13_method_37_code
abbrev y_Mo_soften : MethodName := ⟨"HoldMapsModel", "soften", "(I)V"⟩
abbrev b_Mo_value : ByteArray := prog_13_method_39_code
abbrev y_Mo_value : MethodName := ⟨"HoldMapsModel", "value", "(I)I"⟩
abbrev b_Mo_count : ByteArray := prog_13_method_40_code
abbrev y_Mo_count : MethodName := ⟨"HoldMapsModel", "count", "(I)I"⟩
-- the words
theorem wd_0 : (Cond.initialized "HoldMapsLaw") ∈ tbl := tbl_mem (i := 0) (by decide +kernel) rfl
theorem wd_1 : (Cond.initialized "HoldMaps") ∈ tbl := tbl_mem (i := 1) (by decide +kernel) rfl
theorem wd_2 : (Cond.initialized "HoldMaps$Heap") ∈ tbl := tbl_mem (i := 2) (by decide +kernel) rfl
theorem wd_3 : (Cond.initialized "HoldMaps$Table") ∈ tbl := tbl_mem (i := 3) (by decide +kernel) rfl
theorem wd_4 : (Cond.initialized "HoldMaps$Row") ∈ tbl := tbl_mem (i := 4) (by decide +kernel) rfl
theorem wd_5 : (Cond.initialized "HoldMaps$WeakMap") ∈ tbl := tbl_mem (i := 5) (by decide +kernel) rfl
theorem wd_6 : (Cond.initialized "java/util/AbstractCollection") ∈ tbl := tbl_mem (i := 6) (by decide +kernel) rfl
theorem wd_7 : (Cond.initialized "java/util/AbstractList") ∈ tbl := tbl_mem (i := 7) (by decide +kernel) rfl
theorem wd_8 : (Cond.initialized "java/util/ArrayList") ∈ tbl := tbl_mem (i := 8) (by decide +kernel) rfl
theorem wd_9 : (Cond.initialized "HoldMaps$SoftMap") ∈ tbl := tbl_mem (i := 9) (by decide +kernel) rfl
theorem wd_10 : (Cond.initialized "HoldMaps$IdentityMap") ∈ tbl := tbl_mem (i := 10) (by decide +kernel) rfl
theorem wd_11 : (Cond.initialized "HoldMaps$PlacesMap") ∈ tbl := tbl_mem (i := 11) (by decide +kernel) rfl
theorem wd_12 : (Cond.initialized "HoldMaps$LatestMap") ∈ tbl := tbl_mem (i := 12) (by decide +kernel) rfl
theorem wd_13 : (Cond.initialized "HoldMapsModel") ∈ tbl := tbl_mem (i := 13) (by decide +kernel) rfl
theorem wd_14 : (Cond.initialized "java/lang/Throwable") ∈ tbl := tbl_mem (i := 14) (by decide +kernel) rfl
theorem wd_15 : (Cond.initialized "java/lang/Exception") ∈ tbl := tbl_mem (i := 15) (by decide +kernel) rfl
theorem wd_16 : (Cond.initialized "java/lang/RuntimeException") ∈ tbl := tbl_mem (i := 16) (by decide +kernel) rfl
theorem wd_17 : (Cond.initialized "java/lang/IllegalArgumentException") ∈ tbl := tbl_mem (i := 17) (by decide +kernel) rfl
theorem wd_18 : (Cond.initialized "java/lang/IllegalStateException") ∈ tbl := tbl_mem (i := 18) (by decide +kernel) rfl
theorem wd_19 : (Cond.initialized "HoldMaps$Thing") ∈ tbl := tbl_mem (i := 19) (by decide +kernel) rfl
theorem wd_20 : (Cond.initialized "java/util/Objects") ∈ tbl := tbl_mem (i := 20) (by decide +kernel) rfl
theorem wd_21 : (Cond.initialized "jdk/internal/util/Preconditions") ∈ tbl := tbl_mem (i := 21) (by decide +kernel) rfl
theorem wd_22 : (Cond.initialized "HoldMaps$Entry") ∈ tbl := tbl_mem (i := 22) (by decide +kernel) rfl
theorem wd_23 : (Cond.initialized "jdk/internal/util/ArraysSupport") ∈ tbl := tbl_mem (i := 23) (by decide +kernel) rfl
theorem wd_24 : (Cond.initialized "java/lang/Math") ∈ tbl := tbl_mem (i := 24) (by decide +kernel) rfl
theorem wd_25 : (Cond.initialized "java/util/Arrays") ∈ tbl := tbl_mem (i := 25) (by decide +kernel) rfl
theorem wd_26 : (Cond.initialized "java/lang/System") ∈ tbl := tbl_mem (i := 26) (by decide +kernel) rfl
theorem wd_27 : (Cond.initialized "java/util/NoSuchElementException") ∈ tbl := tbl_mem (i := 27) (by decide +kernel) rfl
theorem wd_28 : (Cond.classLink "HoldMapsLaw" 8 "HoldMaps") ∈ tbl := tbl_mem (i := 28) (by decide +kernel) rfl
theorem wd_29 : (Cond.instantiable "HoldMaps" 4) ∈ tbl := tbl_mem (i := 29) (by decide +kernel) rfl
theorem wd_30 : (Cond.methodLink "HoldMapsLaw" 50 ({ cls := "HoldMaps", name := "<init>", desc := "()V" } : MethodName)) ∈ tbl := tbl_mem (i := 30) (by decide +kernel) rfl
theorem wd_31 : (Cond.instanceMethod ({ cls := "HoldMaps", name := "<init>", desc := "()V" } : MethodName)) ∈ tbl := tbl_mem (i := 31) (by decide +kernel) rfl
theorem wd_32 : (Cond.code ({ cls := "HoldMaps", name := "<init>", desc := "()V" } : MethodName) prog_1_method_1_code 1 none) ∈ tbl := tbl_mem (i := 32) (by decide +kernel) rfl
theorem wd_33 : (Cond.methodLink "HoldMaps" 1 ({ cls := "java/lang/Object", name := "<init>", desc := "()V" } : MethodName)) ∈ tbl := tbl_mem (i := 33) (by decide +kernel) rfl
theorem wd_34 : (Cond.instanceMethod ({ cls := "java/lang/Object", name := "<init>", desc := "()V" } : MethodName)) ∈ tbl := tbl_mem (i := 34) (by decide +kernel) rfl
theorem wd_35 : (Cond.code ({ cls := "java/lang/Object", name := "<init>", desc := "()V" } : MethodName) object_method_1_code 1 none) ∈ tbl := tbl_mem (i := 35) (by decide +kernel) rfl
theorem wd_36 : (Cond.classLink "HoldMaps" 7 "HoldMaps$Heap") ∈ tbl := tbl_mem (i := 36) (by decide +kernel) rfl
theorem wd_37 : (Cond.instantiable "HoldMaps$Heap" 4) ∈ tbl := tbl_mem (i := 37) (by decide +kernel) rfl
theorem wd_38 : (Cond.methodLinkNest "HoldMaps" 9 ({ cls := "HoldMaps$Heap", name := "<init>", desc := "()V" } : MethodName) "HoldMaps") ∈ tbl := tbl_mem (i := 38) (by decide +kernel) rfl
theorem wd_39 : (Cond.instanceMethod ({ cls := "HoldMaps$Heap", name := "<init>", desc := "()V" } : MethodName)) ∈ tbl := tbl_mem (i := 39) (by decide +kernel) rfl
theorem wd_40 : (Cond.code ({ cls := "HoldMaps$Heap", name := "<init>", desc := "()V" } : MethodName) prog_3_method_1_code 1 none) ∈ tbl := tbl_mem (i := 40) (by decide +kernel) rfl
theorem wd_41 : (Cond.methodLink "HoldMaps$Heap" 3 ({ cls := "java/lang/Object", name := "<init>", desc := "()V" } : MethodName)) ∈ tbl := tbl_mem (i := 41) (by decide +kernel) rfl
theorem wd_42 : (Cond.classLink "HoldMaps$Heap" 9 "HoldMaps$Thing") ∈ tbl := tbl_mem (i := 42) (by decide +kernel) rfl
theorem wd_43 : (Cond.arrayOver (FieldType.object "HoldMaps$Thing")) ∈ tbl := tbl_mem (i := 43) (by decide +kernel) rfl
theorem wd_44 : (Cond.fieldLink "HoldMaps$Heap" 11 "HoldMaps$Heap" "things" "[LHoldMaps$Thing;") ∈ tbl := tbl_mem (i := 44) (by decide +kernel) rfl
theorem wd_45 : (Cond.fieldLink "HoldMaps" 61 "HoldMaps$Heap" "things" "[LHoldMaps$Thing;") ∈ tbl := tbl_mem (i := 45) (by decide +kernel) rfl
theorem wd_46 : (Cond.fieldLink "HoldMaps$Heap" 17 "HoldMaps$Heap" "heldOnes" "[I") ∈ tbl := tbl_mem (i := 46) (by decide +kernel) rfl
theorem wd_47 : (Cond.fieldLink "HoldMaps$Heap" 29 "HoldMaps$Heap" "heldCount" "I") ∈ tbl := tbl_mem (i := 47) (by decide +kernel) rfl
theorem wd_48 : (Cond.fieldLink "HoldMaps$Heap" 49 "HoldMaps$Heap" "collected" "I") ∈ tbl := tbl_mem (i := 48) (by decide +kernel) rfl
theorem wd_49 : (Cond.fieldLink "HoldMaps" 196 "HoldMaps$Heap" "collected" "I") ∈ tbl := tbl_mem (i := 49) (by decide +kernel) rfl
theorem wd_50 : (Cond.laysFinal "HoldMaps$Heap" "HoldMaps$Heap" "things" "[LHoldMaps$Thing;") ∈ tbl := tbl_mem (i := 50) (by decide +kernel) rfl
theorem wd_51 : (Cond.soleField "HoldMaps$Heap" "things") ∈ tbl := tbl_mem (i := 51) (by decide +kernel) rfl
theorem wd_52 : (Cond.laysFinal "HoldMaps$Heap" "HoldMaps$Heap" "heldOnes" "[I") ∈ tbl := tbl_mem (i := 52) (by decide +kernel) rfl
theorem wd_53 : (Cond.soleField "HoldMaps$Heap" "heldOnes") ∈ tbl := tbl_mem (i := 53) (by decide +kernel) rfl
theorem wd_54 : (Cond.lays "HoldMaps$Heap" "HoldMaps$Heap" "heldCount" "I") ∈ tbl := tbl_mem (i := 54) (by decide +kernel) rfl
theorem wd_55 : (Cond.soleField "HoldMaps$Heap" "heldCount") ∈ tbl := tbl_mem (i := 55) (by decide +kernel) rfl
theorem wd_56 : (Cond.lays "HoldMaps$Heap" "HoldMaps$Heap" "collected" "I") ∈ tbl := tbl_mem (i := 56) (by decide +kernel) rfl
theorem wd_57 : (Cond.soleField "HoldMaps$Heap" "collected") ∈ tbl := tbl_mem (i := 57) (by decide +kernel) rfl
theorem wd_58 : (Cond.superclass "HoldMaps$Heap" "java/lang/Object") ∈ tbl := tbl_mem (i := 58) (by decide +kernel) rfl
theorem wd_59 : (Cond.arrayClass FieldType.int) ∈ tbl := tbl_mem (i := 59) (by decide +kernel) rfl
theorem wd_60 : (Cond.classLink "HoldMaps" 16 "HoldMaps$WeakMap") ∈ tbl := tbl_mem (i := 60) (by decide +kernel) rfl
theorem wd_61 : (Cond.instantiable "HoldMaps$WeakMap" 6) ∈ tbl := tbl_mem (i := 61) (by decide +kernel) rfl
theorem wd_62 : (Cond.methodLinkNest "HoldMaps" 18 ({ cls := "HoldMaps$WeakMap", name := "<init>", desc := "()V" } : MethodName) "HoldMaps") ∈ tbl := tbl_mem (i := 62) (by decide +kernel) rfl
theorem wd_63 : (Cond.instanceMethod ({ cls := "HoldMaps$WeakMap", name := "<init>", desc := "()V" } : MethodName)) ∈ tbl := tbl_mem (i := 63) (by decide +kernel) rfl
theorem wd_64 : (Cond.code ({ cls := "HoldMaps$WeakMap", name := "<init>", desc := "()V" } : MethodName) prog_11_method_1_code 1 none) ∈ tbl := tbl_mem (i := 64) (by decide +kernel) rfl
theorem wd_65 : (Cond.methodLinkNest "HoldMaps$WeakMap" 3 ({ cls := "HoldMaps$Row", name := "<init>", desc := "()V" } : MethodName) "HoldMaps") ∈ tbl := tbl_mem (i := 65) (by decide +kernel) rfl
theorem wd_66 : (Cond.instanceMethod ({ cls := "HoldMaps$Row", name := "<init>", desc := "()V" } : MethodName)) ∈ tbl := tbl_mem (i := 66) (by decide +kernel) rfl
theorem wd_67 : (Cond.code ({ cls := "HoldMaps$Row", name := "<init>", desc := "()V" } : MethodName) prog_7_method_1_code 1 none) ∈ tbl := tbl_mem (i := 67) (by decide +kernel) rfl
theorem wd_68 : (Cond.methodLinkNest "HoldMaps$Row" 1 ({ cls := "HoldMaps$Table", name := "<init>", desc := "()V" } : MethodName) "HoldMaps") ∈ tbl := tbl_mem (i := 68) (by decide +kernel) rfl
theorem wd_69 : (Cond.instanceMethod ({ cls := "HoldMaps$Table", name := "<init>", desc := "()V" } : MethodName)) ∈ tbl := tbl_mem (i := 69) (by decide +kernel) rfl
theorem wd_70 : (Cond.code ({ cls := "HoldMaps$Table", name := "<init>", desc := "()V" } : MethodName) prog_9_method_1_code 1 none) ∈ tbl := tbl_mem (i := 70) (by decide +kernel) rfl
theorem wd_71 : (Cond.methodLink "HoldMaps$Table" 3 ({ cls := "java/lang/Object", name := "<init>", desc := "()V" } : MethodName)) ∈ tbl := tbl_mem (i := 71) (by decide +kernel) rfl
theorem wd_72 : (Cond.classLink "HoldMaps$Row" 7 "java/util/ArrayList") ∈ tbl := tbl_mem (i := 72) (by decide +kernel) rfl
theorem wd_73 : (Cond.instantiable "java/util/ArrayList" 3) ∈ tbl := tbl_mem (i := 73) (by decide +kernel) rfl
theorem wd_74 : (Cond.methodLink "HoldMaps$Row" 9 ({ cls := "java/util/ArrayList", name := "<init>", desc := "()V" } : MethodName)) ∈ tbl := tbl_mem (i := 74) (by decide +kernel) rfl
theorem wd_75 : (Cond.instanceMethod ({ cls := "java/util/ArrayList", name := "<init>", desc := "()V" } : MethodName)) ∈ tbl := tbl_mem (i := 75) (by decide +kernel) rfl
theorem wd_76 : (Cond.code ({ cls := "java/util/ArrayList", name := "<init>", desc := "()V" } : MethodName) prog_27_method_2_code 1 none) ∈ tbl := tbl_mem (i := 76) (by decide +kernel) rfl
theorem wd_77 : (Cond.methodLink "java/util/ArrayList" 1 ({ cls := "java/util/AbstractList", name := "<init>", desc := "()V" } : MethodName)) ∈ tbl := tbl_mem (i := 77) (by decide +kernel) rfl
theorem wd_78 : (Cond.instanceMethod ({ cls := "java/util/AbstractList", name := "<init>", desc := "()V" } : MethodName)) ∈ tbl := tbl_mem (i := 78) (by decide +kernel) rfl
theorem wd_79 : (Cond.code ({ cls := "java/util/AbstractList", name := "<init>", desc := "()V" } : MethodName) prog_26_method_1_code 1 none) ∈ tbl := tbl_mem (i := 79) (by decide +kernel) rfl
theorem wd_80 : (Cond.methodLink "java/util/AbstractList" 1 ({ cls := "java/util/AbstractCollection", name := "<init>", desc := "()V" } : MethodName)) ∈ tbl := tbl_mem (i := 80) (by decide +kernel) rfl
theorem wd_81 : (Cond.instanceMethod ({ cls := "java/util/AbstractCollection", name := "<init>", desc := "()V" } : MethodName)) ∈ tbl := tbl_mem (i := 81) (by decide +kernel) rfl
theorem wd_82 : (Cond.code ({ cls := "java/util/AbstractCollection", name := "<init>", desc := "()V" } : MethodName) prog_25_method_1_code 1 none) ∈ tbl := tbl_mem (i := 82) (by decide +kernel) rfl
theorem wd_83 : (Cond.methodLink "java/util/AbstractCollection" 1 ({ cls := "java/lang/Object", name := "<init>", desc := "()V" } : MethodName)) ∈ tbl := tbl_mem (i := 83) (by decide +kernel) rfl
theorem wd_84 : (Cond.fieldLink "java/util/ArrayList" 39 "java/util/ArrayList" "DEFAULTCAPACITY_EMPTY_ELEMENTDATA" "[Ljava/lang/Object;") ∈ tbl := tbl_mem (i := 84) (by decide +kernel) rfl
theorem wd_85 : (Cond.laysStatic "java/util/ArrayList" "DEFAULTCAPACITY_EMPTY_ELEMENTDATA" "[Ljava/lang/Object;") ∈ lw_tbl := lw_mem (i := 85) (by decide +kernel)
theorem wd_86 : (Cond.fieldLink "java/util/ArrayList" 9 "java/util/ArrayList" "elementData" "[Ljava/lang/Object;") ∈ tbl := tbl_mem (i := 86) (by decide +kernel) rfl
theorem wd_87 : (Cond.fieldLink "java/util/ArrayList" 48 "java/util/ArrayList" "size" "I") ∈ tbl := tbl_mem (i := 87) (by decide +kernel) rfl
theorem wd_88 : (Cond.fieldLink "java/util/AbstractList" 7 "java/util/AbstractList" "modCount" "I") ∈ tbl := tbl_mem (i := 88) (by decide +kernel) rfl
theorem wd_89 : (Cond.fieldLink "java/util/ArrayList" 63 "java/util/ArrayList" "modCount" "I") ∈ tbl := tbl_mem (i := 89) (by decide +kernel) rfl
theorem wd_90 : (Cond.sameField "java/util/ArrayList" "java/util/AbstractList" "modCount" "I") ∈ tbl := tbl_mem (i := 90) (by decide +kernel) rfl
theorem wd_91 : (Cond.lays "java/util/ArrayList" "java/util/ArrayList" "elementData" "[Ljava/lang/Object;") ∈ tbl := tbl_mem (i := 91) (by decide +kernel) rfl
theorem wd_92 : (Cond.soleField "java/util/ArrayList" "elementData") ∈ tbl := tbl_mem (i := 92) (by decide +kernel) rfl
theorem wd_93 : (Cond.lays "java/util/ArrayList" "java/util/ArrayList" "size" "I") ∈ tbl := tbl_mem (i := 93) (by decide +kernel) rfl
theorem wd_94 : (Cond.soleField "java/util/ArrayList" "size") ∈ tbl := tbl_mem (i := 94) (by decide +kernel) rfl
theorem wd_95 : (Cond.lays "java/util/ArrayList" "java/util/AbstractList" "modCount" "I") ∈ tbl := tbl_mem (i := 95) (by decide +kernel) rfl
theorem wd_96 : (Cond.soleField "java/util/AbstractList" "modCount") ∈ tbl := tbl_mem (i := 96) (by decide +kernel) rfl
theorem wd_97 : (Cond.superclass "java/util/ArrayList" "java/util/AbstractList") ∈ tbl := tbl_mem (i := 97) (by decide +kernel) rfl
theorem wd_98 : (Cond.classLink "HoldMaps$WeakMap" 9 "java/util/ArrayList") ∈ tbl := tbl_mem (i := 98) (by decide +kernel) rfl
theorem wd_99 : (Cond.methodLink "HoldMaps$WeakMap" 11 ({ cls := "java/util/ArrayList", name := "<init>", desc := "()V" } : MethodName)) ∈ tbl := tbl_mem (i := 99) (by decide +kernel) rfl
theorem wd_100 : (Cond.fieldLink "HoldMaps$WeakMap" 12 "HoldMaps$WeakMap" "moving" "Ljava/util/ArrayList;") ∈ tbl := tbl_mem (i := 100) (by decide +kernel) rfl
theorem wd_101 : (Cond.fieldLink "HoldMaps$WeakMap" 18 "HoldMaps$WeakMap" "buckets" "I") ∈ tbl := tbl_mem (i := 101) (by decide +kernel) rfl
theorem wd_102 : (Cond.fieldLink "HoldMaps" 199 "HoldMaps$WeakMap" "buckets" "I") ∈ tbl := tbl_mem (i := 102) (by decide +kernel) rfl
theorem wd_103 : (Cond.fieldLink "HoldMaps$Row" 10 "HoldMaps$Row" "row" "Ljava/util/ArrayList;") ∈ tbl := tbl_mem (i := 103) (by decide +kernel) rfl
theorem wd_104 : (Cond.fieldLink "HoldMaps$PlacesMap" 9 "HoldMaps$PlacesMap" "row" "Ljava/util/ArrayList;") ∈ tbl := tbl_mem (i := 104) (by decide +kernel) rfl
theorem wd_105 : (Cond.sameField "HoldMaps$PlacesMap" "HoldMaps$Row" "row" "Ljava/util/ArrayList;") ∈ tbl := tbl_mem (i := 105) (by decide +kernel) rfl
theorem wd_106 : (Cond.fieldLink "HoldMaps$LatestMap" 15 "HoldMaps$LatestMap" "row" "Ljava/util/ArrayList;") ∈ tbl := tbl_mem (i := 106) (by decide +kernel) rfl
theorem wd_107 : (Cond.sameField "HoldMaps$LatestMap" "HoldMaps$Row" "row" "Ljava/util/ArrayList;") ∈ tbl := tbl_mem (i := 107) (by decide +kernel) rfl
theorem wd_108 : (Cond.fieldLink "HoldMaps$WeakMap" 30 "HoldMaps$WeakMap" "row" "Ljava/util/ArrayList;") ∈ tbl := tbl_mem (i := 108) (by decide +kernel) rfl
theorem wd_109 : (Cond.sameField "HoldMaps$WeakMap" "HoldMaps$Row" "row" "Ljava/util/ArrayList;") ∈ tbl := tbl_mem (i := 109) (by decide +kernel) rfl
theorem wd_110 : (Cond.fieldLink "HoldMaps$SoftMap" 28 "HoldMaps$SoftMap" "row" "Ljava/util/ArrayList;") ∈ tbl := tbl_mem (i := 110) (by decide +kernel) rfl
theorem wd_111 : (Cond.sameField "HoldMaps$SoftMap" "HoldMaps$Row" "row" "Ljava/util/ArrayList;") ∈ tbl := tbl_mem (i := 111) (by decide +kernel) rfl
theorem wd_112 : (Cond.fieldLink "HoldMaps" 161 "HoldMaps$Table" "hasWalk" "Z") ∈ tbl := tbl_mem (i := 112) (by decide +kernel) rfl
theorem wd_113 : (Cond.fieldLink "HoldMaps$WeakMap" 26 "HoldMaps$WeakMap" "isBroken" "Z") ∈ tbl := tbl_mem (i := 113) (by decide +kernel) rfl
theorem wd_114 : (Cond.sameField "HoldMaps$WeakMap" "HoldMaps$Table" "isBroken" "Z") ∈ tbl := tbl_mem (i := 114) (by decide +kernel) rfl
theorem wd_115 : (Cond.fieldLink "HoldMaps$PlacesMap" 35 "HoldMaps$PlacesMap" "isBroken" "Z") ∈ tbl := tbl_mem (i := 115) (by decide +kernel) rfl
theorem wd_116 : (Cond.sameField "HoldMaps$PlacesMap" "HoldMaps$Table" "isBroken" "Z") ∈ tbl := tbl_mem (i := 116) (by decide +kernel) rfl
theorem wd_117 : (Cond.fieldLink "HoldMaps$Row" 29 "HoldMaps$Row" "isBroken" "Z") ∈ tbl := tbl_mem (i := 117) (by decide +kernel) rfl
theorem wd_118 : (Cond.sameField "HoldMaps$Row" "HoldMaps$Table" "isBroken" "Z") ∈ tbl := tbl_mem (i := 118) (by decide +kernel) rfl
theorem wd_119 : (Cond.fieldLink "HoldMaps$IdentityMap" 29 "HoldMaps$IdentityMap" "isBroken" "Z") ∈ tbl := tbl_mem (i := 119) (by decide +kernel) rfl
theorem wd_120 : (Cond.sameField "HoldMaps$IdentityMap" "HoldMaps$Table" "isBroken" "Z") ∈ tbl := tbl_mem (i := 120) (by decide +kernel) rfl
theorem wd_121 : (Cond.fieldLink "HoldMaps" 164 "HoldMaps$Table" "isBroken" "Z") ∈ tbl := tbl_mem (i := 121) (by decide +kernel) rfl
theorem wd_122 : (Cond.fieldLink "HoldMaps" 167 "HoldMaps$Table" "walked" "I") ∈ tbl := tbl_mem (i := 122) (by decide +kernel) rfl
theorem wd_123 : (Cond.laysFinal "HoldMaps$WeakMap" "HoldMaps$WeakMap" "moving" "Ljava/util/ArrayList;") ∈ tbl := tbl_mem (i := 123) (by decide +kernel) rfl
theorem wd_124 : (Cond.soleField "HoldMaps$WeakMap" "moving") ∈ tbl := tbl_mem (i := 124) (by decide +kernel) rfl
theorem wd_125 : (Cond.lays "HoldMaps$WeakMap" "HoldMaps$WeakMap" "buckets" "I") ∈ tbl := tbl_mem (i := 125) (by decide +kernel) rfl
theorem wd_126 : (Cond.soleField "HoldMaps$WeakMap" "buckets") ∈ tbl := tbl_mem (i := 126) (by decide +kernel) rfl
theorem wd_127 : (Cond.laysFinal "HoldMaps$WeakMap" "HoldMaps$Row" "row" "Ljava/util/ArrayList;") ∈ tbl := tbl_mem (i := 127) (by decide +kernel) rfl
theorem wd_128 : (Cond.soleField "HoldMaps$Row" "row") ∈ tbl := tbl_mem (i := 128) (by decide +kernel) rfl
theorem wd_129 : (Cond.lays "HoldMaps$WeakMap" "HoldMaps$Table" "hasWalk" "Z") ∈ tbl := tbl_mem (i := 129) (by decide +kernel) rfl
theorem wd_130 : (Cond.soleField "HoldMaps$Table" "hasWalk") ∈ tbl := tbl_mem (i := 130) (by decide +kernel) rfl
theorem wd_131 : (Cond.lays "HoldMaps$WeakMap" "HoldMaps$Table" "isBroken" "Z") ∈ tbl := tbl_mem (i := 131) (by decide +kernel) rfl
theorem wd_132 : (Cond.soleField "HoldMaps$Table" "isBroken") ∈ tbl := tbl_mem (i := 132) (by decide +kernel) rfl
theorem wd_133 : (Cond.lays "HoldMaps$WeakMap" "HoldMaps$Table" "walked" "I") ∈ tbl := tbl_mem (i := 133) (by decide +kernel) rfl
theorem wd_134 : (Cond.soleField "HoldMaps$Table" "walked") ∈ tbl := tbl_mem (i := 134) (by decide +kernel) rfl
theorem wd_135 : (Cond.superclass "HoldMaps$WeakMap" "HoldMaps$Row") ∈ tbl := tbl_mem (i := 135) (by decide +kernel) rfl
theorem wd_136 : (Cond.classLink "HoldMaps" 23 "HoldMaps$SoftMap") ∈ tbl := tbl_mem (i := 136) (by decide +kernel) rfl
theorem wd_137 : (Cond.instantiable "HoldMaps$SoftMap" 5) ∈ tbl := tbl_mem (i := 137) (by decide +kernel) rfl
theorem wd_138 : (Cond.methodLinkNest "HoldMaps" 25 ({ cls := "HoldMaps$SoftMap", name := "<init>", desc := "()V" } : MethodName) "HoldMaps") ∈ tbl := tbl_mem (i := 138) (by decide +kernel) rfl
theorem wd_139 : (Cond.instanceMethod ({ cls := "HoldMaps$SoftMap", name := "<init>", desc := "()V" } : MethodName)) ∈ tbl := tbl_mem (i := 139) (by decide +kernel) rfl
theorem wd_140 : (Cond.code ({ cls := "HoldMaps$SoftMap", name := "<init>", desc := "()V" } : MethodName) prog_8_method_1_code 1 none) ∈ tbl := tbl_mem (i := 140) (by decide +kernel) rfl
theorem wd_141 : (Cond.methodLinkNest "HoldMaps$SoftMap" 3 ({ cls := "HoldMaps$Row", name := "<init>", desc := "()V" } : MethodName) "HoldMaps") ∈ tbl := tbl_mem (i := 141) (by decide +kernel) rfl
theorem wd_142 : (Cond.fieldLink "HoldMaps$SoftMap" 9 "HoldMaps$SoftMap" "time" "I") ∈ tbl := tbl_mem (i := 142) (by decide +kernel) rfl
theorem wd_143 : (Cond.fieldLink "HoldMaps" 202 "HoldMaps$SoftMap" "time" "I") ∈ tbl := tbl_mem (i := 143) (by decide +kernel) rfl
theorem wd_144 : (Cond.lays "HoldMaps$SoftMap" "HoldMaps$SoftMap" "time" "I") ∈ tbl := tbl_mem (i := 144) (by decide +kernel) rfl
theorem wd_145 : (Cond.soleField "HoldMaps$SoftMap" "time") ∈ tbl := tbl_mem (i := 145) (by decide +kernel) rfl
theorem wd_146 : (Cond.laysFinal "HoldMaps$SoftMap" "HoldMaps$Row" "row" "Ljava/util/ArrayList;") ∈ tbl := tbl_mem (i := 146) (by decide +kernel) rfl
theorem wd_147 : (Cond.lays "HoldMaps$SoftMap" "HoldMaps$Table" "hasWalk" "Z") ∈ tbl := tbl_mem (i := 147) (by decide +kernel) rfl
theorem wd_148 : (Cond.lays "HoldMaps$SoftMap" "HoldMaps$Table" "isBroken" "Z") ∈ tbl := tbl_mem (i := 148) (by decide +kernel) rfl
theorem wd_149 : (Cond.lays "HoldMaps$SoftMap" "HoldMaps$Table" "walked" "I") ∈ tbl := tbl_mem (i := 149) (by decide +kernel) rfl
theorem wd_150 : (Cond.superclass "HoldMaps$SoftMap" "HoldMaps$Row") ∈ tbl := tbl_mem (i := 150) (by decide +kernel) rfl
theorem wd_151 : (Cond.classLink "HoldMaps" 30 "HoldMaps$Table") ∈ tbl := tbl_mem (i := 151) (by decide +kernel) rfl
theorem wd_152 : (Cond.arrayOver (FieldType.object "HoldMaps$Table")) ∈ tbl := tbl_mem (i := 152) (by decide +kernel) rfl
theorem wd_153 : (Cond.classLink "HoldMaps" 36 "HoldMaps$IdentityMap") ∈ tbl := tbl_mem (i := 153) (by decide +kernel) rfl
theorem wd_154 : (Cond.instantiable "HoldMaps$IdentityMap" 5) ∈ tbl := tbl_mem (i := 154) (by decide +kernel) rfl
theorem wd_155 : (Cond.methodLinkNest "HoldMaps" 38 ({ cls := "HoldMaps$IdentityMap", name := "<init>", desc := "()V" } : MethodName) "HoldMaps") ∈ tbl := tbl_mem (i := 155) (by decide +kernel) rfl
theorem wd_156 : (Cond.instanceMethod ({ cls := "HoldMaps$IdentityMap", name := "<init>", desc := "()V" } : MethodName)) ∈ tbl := tbl_mem (i := 156) (by decide +kernel) rfl
theorem wd_157 : (Cond.code ({ cls := "HoldMaps$IdentityMap", name := "<init>", desc := "()V" } : MethodName) prog_4_method_1_code 1 none) ∈ tbl := tbl_mem (i := 157) (by decide +kernel) rfl
theorem wd_158 : (Cond.methodLinkNest "HoldMaps$IdentityMap" 3 ({ cls := "HoldMaps$Table", name := "<init>", desc := "()V" } : MethodName) "HoldMaps") ∈ tbl := tbl_mem (i := 158) (by decide +kernel) rfl
theorem wd_159 : (Cond.classLink "HoldMaps$IdentityMap" 9 "HoldMaps$Entry") ∈ tbl := tbl_mem (i := 159) (by decide +kernel) rfl
theorem wd_160 : (Cond.arrayOver (FieldType.object "HoldMaps$Entry")) ∈ tbl := tbl_mem (i := 160) (by decide +kernel) rfl
theorem wd_161 : (Cond.fieldLink "HoldMaps$IdentityMap" 11 "HoldMaps$IdentityMap" "slots" "[LHoldMaps$Entry;") ∈ tbl := tbl_mem (i := 161) (by decide +kernel) rfl
theorem wd_162 : (Cond.fieldLink "HoldMaps$IdentityMap" 17 "HoldMaps$IdentityMap" "entries" "I") ∈ tbl := tbl_mem (i := 162) (by decide +kernel) rfl
theorem wd_163 : (Cond.laysFinal "HoldMaps$IdentityMap" "HoldMaps$IdentityMap" "slots" "[LHoldMaps$Entry;") ∈ tbl := tbl_mem (i := 163) (by decide +kernel) rfl
theorem wd_164 : (Cond.soleField "HoldMaps$IdentityMap" "slots") ∈ tbl := tbl_mem (i := 164) (by decide +kernel) rfl
theorem wd_165 : (Cond.lays "HoldMaps$IdentityMap" "HoldMaps$IdentityMap" "entries" "I") ∈ tbl := tbl_mem (i := 165) (by decide +kernel) rfl
theorem wd_166 : (Cond.soleField "HoldMaps$IdentityMap" "entries") ∈ tbl := tbl_mem (i := 166) (by decide +kernel) rfl
theorem wd_167 : (Cond.lays "HoldMaps$IdentityMap" "HoldMaps$Table" "hasWalk" "Z") ∈ tbl := tbl_mem (i := 167) (by decide +kernel) rfl
theorem wd_168 : (Cond.lays "HoldMaps$IdentityMap" "HoldMaps$Table" "isBroken" "Z") ∈ tbl := tbl_mem (i := 168) (by decide +kernel) rfl
theorem wd_169 : (Cond.lays "HoldMaps$IdentityMap" "HoldMaps$Table" "walked" "I") ∈ tbl := tbl_mem (i := 169) (by decide +kernel) rfl
theorem wd_170 : (Cond.superclass "HoldMaps$IdentityMap" "HoldMaps$Table") ∈ tbl := tbl_mem (i := 170) (by decide +kernel) rfl
theorem wd_171 : (Cond.classLink "HoldMaps" 39 "HoldMaps$PlacesMap") ∈ tbl := tbl_mem (i := 171) (by decide +kernel) rfl
theorem wd_172 : (Cond.instantiable "HoldMaps$PlacesMap" 4) ∈ tbl := tbl_mem (i := 172) (by decide +kernel) rfl
theorem wd_173 : (Cond.methodLinkNest "HoldMaps" 41 ({ cls := "HoldMaps$PlacesMap", name := "<init>", desc := "()V" } : MethodName) "HoldMaps") ∈ tbl := tbl_mem (i := 173) (by decide +kernel) rfl
theorem wd_174 : (Cond.instanceMethod ({ cls := "HoldMaps$PlacesMap", name := "<init>", desc := "()V" } : MethodName)) ∈ tbl := tbl_mem (i := 174) (by decide +kernel) rfl
theorem wd_175 : (Cond.code ({ cls := "HoldMaps$PlacesMap", name := "<init>", desc := "()V" } : MethodName) prog_6_method_1_code 1 none) ∈ tbl := tbl_mem (i := 175) (by decide +kernel) rfl
theorem wd_176 : (Cond.methodLinkNest "HoldMaps$PlacesMap" 3 ({ cls := "HoldMaps$Row", name := "<init>", desc := "()V" } : MethodName) "HoldMaps") ∈ tbl := tbl_mem (i := 176) (by decide +kernel) rfl
theorem wd_177 : (Cond.laysFinal "HoldMaps$PlacesMap" "HoldMaps$Row" "row" "Ljava/util/ArrayList;") ∈ tbl := tbl_mem (i := 177) (by decide +kernel) rfl
theorem wd_178 : (Cond.lays "HoldMaps$PlacesMap" "HoldMaps$Table" "hasWalk" "Z") ∈ tbl := tbl_mem (i := 178) (by decide +kernel) rfl
theorem wd_179 : (Cond.lays "HoldMaps$PlacesMap" "HoldMaps$Table" "isBroken" "Z") ∈ tbl := tbl_mem (i := 179) (by decide +kernel) rfl
theorem wd_180 : (Cond.lays "HoldMaps$PlacesMap" "HoldMaps$Table" "walked" "I") ∈ tbl := tbl_mem (i := 180) (by decide +kernel) rfl
theorem wd_181 : (Cond.superclass "HoldMaps$PlacesMap" "HoldMaps$Row") ∈ tbl := tbl_mem (i := 181) (by decide +kernel) rfl
theorem wd_182 : (Cond.classLink "HoldMaps" 42 "HoldMaps$LatestMap") ∈ tbl := tbl_mem (i := 182) (by decide +kernel) rfl
theorem wd_183 : (Cond.instantiable "HoldMaps$LatestMap" 4) ∈ tbl := tbl_mem (i := 183) (by decide +kernel) rfl
theorem wd_184 : (Cond.methodLinkNest "HoldMaps" 44 ({ cls := "HoldMaps$LatestMap", name := "<init>", desc := "()V" } : MethodName) "HoldMaps") ∈ tbl := tbl_mem (i := 184) (by decide +kernel) rfl
theorem wd_185 : (Cond.instanceMethod ({ cls := "HoldMaps$LatestMap", name := "<init>", desc := "()V" } : MethodName)) ∈ tbl := tbl_mem (i := 185) (by decide +kernel) rfl
theorem wd_186 : (Cond.code ({ cls := "HoldMaps$LatestMap", name := "<init>", desc := "()V" } : MethodName) prog_5_method_1_code 1 none) ∈ tbl := tbl_mem (i := 186) (by decide +kernel) rfl
theorem wd_187 : (Cond.methodLinkNest "HoldMaps$LatestMap" 3 ({ cls := "HoldMaps$Row", name := "<init>", desc := "()V" } : MethodName) "HoldMaps") ∈ tbl := tbl_mem (i := 187) (by decide +kernel) rfl
theorem wd_188 : (Cond.laysFinal "HoldMaps$LatestMap" "HoldMaps$Row" "row" "Ljava/util/ArrayList;") ∈ tbl := tbl_mem (i := 188) (by decide +kernel) rfl
theorem wd_189 : (Cond.lays "HoldMaps$LatestMap" "HoldMaps$Table" "hasWalk" "Z") ∈ tbl := tbl_mem (i := 189) (by decide +kernel) rfl
theorem wd_190 : (Cond.lays "HoldMaps$LatestMap" "HoldMaps$Table" "isBroken" "Z") ∈ tbl := tbl_mem (i := 190) (by decide +kernel) rfl
theorem wd_191 : (Cond.lays "HoldMaps$LatestMap" "HoldMaps$Table" "walked" "I") ∈ tbl := tbl_mem (i := 191) (by decide +kernel) rfl
theorem wd_192 : (Cond.superclass "HoldMaps$LatestMap" "HoldMaps$Row") ∈ tbl := tbl_mem (i := 192) (by decide +kernel) rfl
theorem wd_193 : (Cond.fieldLink "HoldMaps" 10 "HoldMaps" "heap" "LHoldMaps$Heap;") ∈ tbl := tbl_mem (i := 193) (by decide +kernel) rfl
theorem wd_194 : (Cond.fieldLink "HoldMaps" 19 "HoldMaps" "weak" "LHoldMaps$WeakMap;") ∈ tbl := tbl_mem (i := 194) (by decide +kernel) rfl
theorem wd_195 : (Cond.fieldLink "HoldMaps" 26 "HoldMaps" "soft" "LHoldMaps$SoftMap;") ∈ tbl := tbl_mem (i := 195) (by decide +kernel) rfl
theorem wd_196 : (Cond.fieldLink "HoldMaps" 32 "HoldMaps" "tables" "[LHoldMaps$Table;") ∈ tbl := tbl_mem (i := 196) (by decide +kernel) rfl
theorem wd_197 : (Cond.laysFinal "HoldMaps" "HoldMaps" "heap" "LHoldMaps$Heap;") ∈ tbl := tbl_mem (i := 197) (by decide +kernel) rfl
theorem wd_198 : (Cond.soleField "HoldMaps" "heap") ∈ tbl := tbl_mem (i := 198) (by decide +kernel) rfl
theorem wd_199 : (Cond.laysFinal "HoldMaps" "HoldMaps" "weak" "LHoldMaps$WeakMap;") ∈ tbl := tbl_mem (i := 199) (by decide +kernel) rfl
theorem wd_200 : (Cond.soleField "HoldMaps" "weak") ∈ tbl := tbl_mem (i := 200) (by decide +kernel) rfl
theorem wd_201 : (Cond.laysFinal "HoldMaps" "HoldMaps" "soft" "LHoldMaps$SoftMap;") ∈ tbl := tbl_mem (i := 201) (by decide +kernel) rfl
theorem wd_202 : (Cond.soleField "HoldMaps" "soft") ∈ tbl := tbl_mem (i := 202) (by decide +kernel) rfl
theorem wd_203 : (Cond.laysFinal "HoldMaps" "HoldMaps" "tables" "[LHoldMaps$Table;") ∈ tbl := tbl_mem (i := 203) (by decide +kernel) rfl
theorem wd_204 : (Cond.soleField "HoldMaps" "tables") ∈ tbl := tbl_mem (i := 204) (by decide +kernel) rfl
theorem wd_205 : (Cond.superclass "HoldMaps" "java/lang/Object") ∈ tbl := tbl_mem (i := 205) (by decide +kernel) rfl
theorem wd_206 : (Cond.methodLink "HoldMapsLaw" 82 ({ cls := "HoldMaps", name := "size", desc := "(I)I" } : MethodName)) ∈ tbl := tbl_mem (i := 206) (by decide +kernel) rfl
theorem wd_207 : (Cond.instanceMethod ({ cls := "HoldMaps", name := "size", desc := "(I)I" } : MethodName)) ∈ tbl := tbl_mem (i := 207) (by decide +kernel) rfl
theorem wd_208 : (Cond.selects "HoldMaps" ({ cls := "HoldMaps", name := "size", desc := "(I)I" } : MethodName) ({ cls := "HoldMaps", name := "size", desc := "(I)I" } : MethodName)) ∈ tbl := tbl_mem (i := 208) (by decide +kernel) rfl
theorem wd_209 : (Cond.code ({ cls := "HoldMaps", name := "size", desc := "(I)I" } : MethodName) prog_1_method_8_code 2 (some FieldType.int)) ∈ tbl := tbl_mem (i := 209) (by decide +kernel) rfl
theorem wd_210 : (Cond.methodLink "HoldMaps" 143 ({ cls := "HoldMaps", name := "isMap", desc := "(I)Z" } : MethodName)) ∈ tbl := tbl_mem (i := 210) (by decide +kernel) rfl
theorem wd_211 : (Cond.static ({ cls := "HoldMaps", name := "isMap", desc := "(I)Z" } : MethodName)) ∈ tbl := tbl_mem (i := 211) (by decide +kernel) rfl
theorem wd_212 : (Cond.code ({ cls := "HoldMaps", name := "isMap", desc := "(I)Z" } : MethodName) prog_1_method_15_code 1 (some FieldType.boolean)) ∈ tbl := tbl_mem (i := 212) (by decide +kernel) rfl
theorem wd_213 : (Cond.methodLink "HoldMaps" 146 ({ cls := "HoldMaps$Table", name := "length", desc := "()I" } : MethodName)) ∈ tbl := tbl_mem (i := 213) (by decide +kernel) rfl
theorem wd_214 : (Cond.declares ({ cls := "HoldMaps$Table", name := "length", desc := "()I" } : MethodName)) ∈ tbl := tbl_mem (i := 214) (by decide +kernel) rfl
theorem wd_215 : (Cond.sameMethod "HoldMaps$Table" "HoldMaps$Table" "length" "()I") ∈ tbl := tbl_mem (i := 215) (by decide +kernel) rfl
theorem wd_216 : (Cond.selects "HoldMaps$IdentityMap" ({ cls := "HoldMaps$Table", name := "length", desc := "()I" } : MethodName) ({ cls := "HoldMaps$IdentityMap", name := "length", desc := "()I" } : MethodName)) ∈ tbl := tbl_mem (i := 216) (by decide +kernel) rfl
theorem wd_217 : (Cond.instanceMethod ({ cls := "HoldMaps$IdentityMap", name := "length", desc := "()I" } : MethodName)) ∈ tbl := tbl_mem (i := 217) (by decide +kernel) rfl
theorem wd_218 : (Cond.code ({ cls := "HoldMaps$IdentityMap", name := "length", desc := "()I" } : MethodName) prog_4_method_2_code 1 (some FieldType.int)) ∈ tbl := tbl_mem (i := 218) (by decide +kernel) rfl
theorem wd_219 : (Cond.selects "HoldMaps$LatestMap" ({ cls := "HoldMaps$Table", name := "length", desc := "()I" } : MethodName) ({ cls := "HoldMaps$Row", name := "length", desc := "()I" } : MethodName)) ∈ tbl := tbl_mem (i := 219) (by decide +kernel) rfl
theorem wd_220 : (Cond.instanceMethod ({ cls := "HoldMaps$Row", name := "length", desc := "()I" } : MethodName)) ∈ tbl := tbl_mem (i := 220) (by decide +kernel) rfl
theorem wd_221 : (Cond.code ({ cls := "HoldMaps$Row", name := "length", desc := "()I" } : MethodName) prog_7_method_2_code 1 (some FieldType.int)) ∈ tbl := tbl_mem (i := 221) (by decide +kernel) rfl
theorem wd_222 : (Cond.methodLink "HoldMaps$Row" 16 ({ cls := "java/util/ArrayList", name := "size", desc := "()I" } : MethodName)) ∈ tbl := tbl_mem (i := 222) (by decide +kernel) rfl
theorem wd_223 : (Cond.instanceMethod ({ cls := "java/util/ArrayList", name := "size", desc := "()I" } : MethodName)) ∈ tbl := tbl_mem (i := 223) (by decide +kernel) rfl
theorem wd_224 : (Cond.selects "java/util/ArrayList" ({ cls := "java/util/ArrayList", name := "size", desc := "()I" } : MethodName) ({ cls := "java/util/ArrayList", name := "size", desc := "()I" } : MethodName)) ∈ tbl := tbl_mem (i := 224) (by decide +kernel) rfl
theorem wd_225 : (Cond.code ({ cls := "java/util/ArrayList", name := "size", desc := "()I" } : MethodName) prog_27_method_8_code 1 (some FieldType.int)) ∈ tbl := tbl_mem (i := 225) (by decide +kernel) rfl
theorem wd_226 : (Cond.selects "HoldMaps$PlacesMap" ({ cls := "HoldMaps$Table", name := "length", desc := "()I" } : MethodName) ({ cls := "HoldMaps$Row", name := "length", desc := "()I" } : MethodName)) ∈ tbl := tbl_mem (i := 226) (by decide +kernel) rfl
theorem wd_227 : (Cond.selects "HoldMaps$SoftMap" ({ cls := "HoldMaps$Table", name := "length", desc := "()I" } : MethodName) ({ cls := "HoldMaps$Row", name := "length", desc := "()I" } : MethodName)) ∈ tbl := tbl_mem (i := 227) (by decide +kernel) rfl
theorem wd_228 : (Cond.selects "HoldMaps$WeakMap" ({ cls := "HoldMaps$Table", name := "length", desc := "()I" } : MethodName) ({ cls := "HoldMaps$Row", name := "length", desc := "()I" } : MethodName)) ∈ tbl := tbl_mem (i := 228) (by decide +kernel) rfl
theorem wd_229 : (Cond.methodLink "HoldMapsLaw" 99 ({ cls := "HoldMaps", name := "value", desc := "(I)I" } : MethodName)) ∈ tbl := tbl_mem (i := 229) (by decide +kernel) rfl
theorem wd_230 : (Cond.instanceMethod ({ cls := "HoldMaps", name := "value", desc := "(I)I" } : MethodName)) ∈ tbl := tbl_mem (i := 230) (by decide +kernel) rfl
theorem wd_231 : (Cond.selects "HoldMaps" ({ cls := "HoldMaps", name := "value", desc := "(I)I" } : MethodName) ({ cls := "HoldMaps", name := "value", desc := "(I)I" } : MethodName)) ∈ tbl := tbl_mem (i := 231) (by decide +kernel) rfl
theorem wd_232 : (Cond.code ({ cls := "HoldMaps", name := "value", desc := "(I)I" } : MethodName) prog_1_method_13_code 2 (some FieldType.int)) ∈ tbl := tbl_mem (i := 232) (by decide +kernel) rfl
theorem wd_233 : (Cond.methodLink "HoldMaps" 70 ({ cls := "HoldMaps$Heap", name := "has", desc := "(I)Z" } : MethodName)) ∈ tbl := tbl_mem (i := 233) (by decide +kernel) rfl
theorem wd_234 : (Cond.instanceMethod ({ cls := "HoldMaps$Heap", name := "has", desc := "(I)Z" } : MethodName)) ∈ tbl := tbl_mem (i := 234) (by decide +kernel) rfl
theorem wd_235 : (Cond.selects "HoldMaps$Heap" ({ cls := "HoldMaps$Heap", name := "has", desc := "(I)Z" } : MethodName) ({ cls := "HoldMaps$Heap", name := "has", desc := "(I)Z" } : MethodName)) ∈ tbl := tbl_mem (i := 235) (by decide +kernel) rfl
theorem wd_236 : (Cond.code ({ cls := "HoldMaps$Heap", name := "has", desc := "(I)Z" } : MethodName) prog_3_method_2_code 2 (some FieldType.boolean)) ∈ tbl := tbl_mem (i := 236) (by decide +kernel) rfl
theorem wd_237 : (Cond.methodLink "HoldMapsLaw" 103 ({ cls := "HoldMaps", name := "count", desc := "(I)I" } : MethodName)) ∈ tbl := tbl_mem (i := 237) (by decide +kernel) rfl
theorem wd_238 : (Cond.instanceMethod ({ cls := "HoldMaps", name := "count", desc := "(I)I" } : MethodName)) ∈ tbl := tbl_mem (i := 238) (by decide +kernel) rfl
theorem wd_239 : (Cond.selects "HoldMaps" ({ cls := "HoldMaps", name := "count", desc := "(I)I" } : MethodName) ({ cls := "HoldMaps", name := "count", desc := "(I)I" } : MethodName)) ∈ tbl := tbl_mem (i := 239) (by decide +kernel) rfl
theorem wd_240 : (Cond.code ({ cls := "HoldMaps", name := "count", desc := "(I)I" } : MethodName) prog_1_method_14_code 2 (some FieldType.int)) ∈ tbl := tbl_mem (i := 240) (by decide +kernel) rfl
theorem wd_241 : (Cond.methodLink "HoldMaps" 193 ({ cls := "HoldMaps$Heap", name := "living", desc := "()I" } : MethodName)) ∈ tbl := tbl_mem (i := 241) (by decide +kernel) rfl
theorem wd_242 : (Cond.instanceMethod ({ cls := "HoldMaps$Heap", name := "living", desc := "()I" } : MethodName)) ∈ tbl := tbl_mem (i := 242) (by decide +kernel) rfl
theorem wd_243 : (Cond.selects "HoldMaps$Heap" ({ cls := "HoldMaps$Heap", name := "living", desc := "()I" } : MethodName) ({ cls := "HoldMaps$Heap", name := "living", desc := "()I" } : MethodName)) ∈ tbl := tbl_mem (i := 243) (by decide +kernel) rfl
theorem wd_244 : (Cond.code ({ cls := "HoldMaps$Heap", name := "living", desc := "()I" } : MethodName) prog_3_method_4_code 3 (some FieldType.int)) ∈ tbl := tbl_mem (i := 244) (by decide +kernel) rfl
theorem wd_245 : (Cond.methodLink "HoldMapsLaw" 54 ({ cls := "HoldMapsLaw", name := "make", desc := "(LHoldMaps;I[J)I" } : MethodName)) ∈ tbl := tbl_mem (i := 245) (by decide +kernel) rfl
theorem wd_246 : (Cond.static ({ cls := "HoldMapsLaw", name := "make", desc := "(LHoldMaps;I[J)I" } : MethodName)) ∈ tbl := tbl_mem (i := 246) (by decide +kernel) rfl
theorem wd_247 : (Cond.codeWith ({ cls := "HoldMapsLaw", name := "make", desc := "(LHoldMaps;I[J)I" } : MethodName) method_3_code 4 (some FieldType.int) [(0, 9, 12, 13), (0, 9, 15, 15)]) ∈ tbl := tbl_mem (i := 247) (by decide +kernel) rfl
theorem wd_248 : (Cond.classLink "HoldMapsLaw" 13 "java/lang/IllegalArgumentException") ∈ tbl := tbl_mem (i := 248) (by decide +kernel) rfl
theorem wd_249 : (Cond.classLink "HoldMapsLaw" 15 "java/lang/IllegalStateException") ∈ tbl := tbl_mem (i := 249) (by decide +kernel) rfl
theorem wd_250 : (Cond.methodLink "HoldMapsLaw" 7 ({ cls := "HoldMaps", name := "make", desc := "(I)I" } : MethodName)) ∈ tbl := tbl_mem (i := 250) (by decide +kernel) rfl
theorem wd_251 : (Cond.instanceMethod ({ cls := "HoldMaps", name := "make", desc := "(I)I" } : MethodName)) ∈ tbl := tbl_mem (i := 251) (by decide +kernel) rfl
theorem wd_252 : (Cond.selects "HoldMaps" ({ cls := "HoldMaps", name := "make", desc := "(I)I" } : MethodName) ({ cls := "HoldMaps", name := "make", desc := "(I)I" } : MethodName)) ∈ tbl := tbl_mem (i := 252) (by decide +kernel) rfl
theorem wd_253 : (Cond.code ({ cls := "HoldMaps", name := "make", desc := "(I)I" } : MethodName) prog_1_method_2_code 3 (some FieldType.int)) ∈ tbl := tbl_mem (i := 253) (by decide +kernel) rfl
theorem wd_254 : (Cond.classLink "HoldMaps" 45 "java/lang/IllegalArgumentException") ∈ tbl := tbl_mem (i := 254) (by decide +kernel) rfl
theorem wd_255 : (Cond.instantiable "java/lang/IllegalArgumentException" 6) ∈ tbl := tbl_mem (i := 255) (by decide +kernel) rfl
theorem wd_256 : (Cond.castable "java/lang/IllegalArgumentException" "java/lang/IllegalArgumentException") ∈ tbl := tbl_mem (i := 256) (by decide +kernel) rfl
theorem wd_257 : (Cond.declares ({ cls := "java/lang/RuntimeException", name := "<init>", desc := "()V" } : MethodName)) ∈ tbl := tbl_mem (i := 257) (by decide +kernel) rfl
theorem wd_258 : (Cond.declares ({ cls := "java/lang/RuntimeException", name := "<init>", desc := "(Ljava/lang/String;)V" } : MethodName)) ∈ tbl := tbl_mem (i := 258) (by decide +kernel) rfl
theorem wd_259 : (Cond.declares ({ cls := "java/lang/Exception", name := "<init>", desc := "()V" } : MethodName)) ∈ tbl := tbl_mem (i := 259) (by decide +kernel) rfl
theorem wd_260 : (Cond.declares ({ cls := "java/lang/Exception", name := "<init>", desc := "(Ljava/lang/String;)V" } : MethodName)) ∈ tbl := tbl_mem (i := 260) (by decide +kernel) rfl
theorem wd_261 : (Cond.declares ({ cls := "java/lang/Throwable", name := "<init>", desc := "()V" } : MethodName)) ∈ tbl := tbl_mem (i := 261) (by decide +kernel) rfl
theorem wd_262 : (Cond.declares ({ cls := "java/lang/Throwable", name := "<init>", desc := "(Ljava/lang/String;)V" } : MethodName)) ∈ tbl := tbl_mem (i := 262) (by decide +kernel) rfl
theorem wd_263 : (Cond.selects "java/lang/IllegalArgumentException" ({ cls := "java/lang/Throwable", name := "fillInStackTrace", desc := "(I)Ljava/lang/Throwable;" } : MethodName) ({ cls := "java/lang/Throwable", name := "fillInStackTrace", desc := "(I)Ljava/lang/Throwable;" } : MethodName)) ∈ tbl := tbl_mem (i := 263) (by decide +kernel) rfl
theorem wd_264 : (Cond.selects "java/lang/IllegalArgumentException" ({ cls := "java/lang/Throwable", name := "fillInStackTrace", desc := "()Ljava/lang/Throwable;" } : MethodName) ({ cls := "java/lang/Throwable", name := "fillInStackTrace", desc := "()Ljava/lang/Throwable;" } : MethodName)) ∈ tbl := tbl_mem (i := 264) (by decide +kernel) rfl
theorem wd_265 : (Cond.lays "java/lang/IllegalArgumentException" "java/lang/Throwable" "cause" "Ljava/lang/Throwable;") ∈ tbl := tbl_mem (i := 265) (by decide +kernel) rfl
theorem wd_266 : (Cond.lays "java/lang/Throwable" "java/lang/Throwable" "cause" "Ljava/lang/Throwable;") ∈ tbl := tbl_mem (i := 266) (by decide +kernel) rfl
theorem wd_267 : (Cond.lays "java/lang/IllegalArgumentException" "java/lang/Throwable" "stackTrace" "[Ljava/lang/StackTraceElement;") ∈ tbl := tbl_mem (i := 267) (by decide +kernel) rfl
theorem wd_268 : (Cond.lays "java/lang/Throwable" "java/lang/Throwable" "stackTrace" "[Ljava/lang/StackTraceElement;") ∈ tbl := tbl_mem (i := 268) (by decide +kernel) rfl
theorem wd_269 : (Cond.lays "java/lang/IllegalArgumentException" "java/lang/Throwable" "suppressedExceptions" "Ljava/util/List;") ∈ tbl := tbl_mem (i := 269) (by decide +kernel) rfl
theorem wd_270 : (Cond.lays "java/lang/Throwable" "java/lang/Throwable" "suppressedExceptions" "Ljava/util/List;") ∈ tbl := tbl_mem (i := 270) (by decide +kernel) rfl
theorem wd_271 : (Cond.lays "java/lang/IllegalArgumentException" "java/lang/Throwable" "detailMessage" "Ljava/lang/String;") ∈ tbl := tbl_mem (i := 271) (by decide +kernel) rfl
theorem wd_272 : (Cond.lays "java/lang/Throwable" "java/lang/Throwable" "detailMessage" "Ljava/lang/String;") ∈ tbl := tbl_mem (i := 272) (by decide +kernel) rfl
theorem wd_273 : (Cond.lays "java/lang/IllegalArgumentException" "java/lang/Throwable" "backtrace" "Ljava/lang/Object;") ∈ tbl := tbl_mem (i := 273) (by decide +kernel) rfl
theorem wd_274 : (Cond.lays "java/lang/Throwable" "java/lang/Throwable" "backtrace" "Ljava/lang/Object;") ∈ tbl := tbl_mem (i := 274) (by decide +kernel) rfl
theorem wd_275 : (Cond.fieldLink "java/lang/Throwable" 198 "java/lang/Throwable" "backtrace" "Ljava/lang/Object;") ∈ tbl := tbl_mem (i := 275) (by decide +kernel) rfl
theorem wd_276 : (Cond.superclass "java/lang/Throwable" "java/lang/Object") ∈ tbl := tbl_mem (i := 276) (by decide +kernel) rfl
theorem wd_277 : (Cond.instanceMethod ({ cls := "java/lang/Throwable", name := "<init>", desc := "()V" } : MethodName)) ∈ tbl := tbl_mem (i := 277) (by decide +kernel) rfl
theorem wd_278 : (Cond.code ({ cls := "java/lang/Throwable", name := "<init>", desc := "()V" } : MethodName) prog_24_method_1_code 1 none) ∈ tbl := tbl_mem (i := 278) (by decide +kernel) rfl
theorem wd_279 : (Cond.methodLink "java/lang/Throwable" 1 ({ cls := "java/lang/Object", name := "<init>", desc := "()V" } : MethodName)) ∈ tbl := tbl_mem (i := 279) (by decide +kernel) rfl
theorem wd_280 : (Cond.fieldLink "java/lang/Throwable" 13 "java/lang/Throwable" "UNASSIGNED_STACK" "[Ljava/lang/StackTraceElement;") ∈ tbl := tbl_mem (i := 280) (by decide +kernel) rfl
theorem wd_281 : (Cond.laysStatic "java/lang/Throwable" "UNASSIGNED_STACK" "[Ljava/lang/StackTraceElement;") ∈ lw_tbl := lw_mem (i := 281) (by decide +kernel)
theorem wd_282 : (Cond.fieldLink "java/lang/Throwable" 20 "java/lang/Throwable" "SUPPRESSED_SENTINEL" "Ljava/util/List;") ∈ tbl := tbl_mem (i := 282) (by decide +kernel) rfl
theorem wd_283 : (Cond.laysStatic "java/lang/Throwable" "SUPPRESSED_SENTINEL" "Ljava/util/List;") ∈ lw_tbl := lw_mem (i := 283) (by decide +kernel)
theorem wd_284 : (Cond.methodLink "java/lang/Throwable" 27 ({ cls := "java/lang/Throwable", name := "fillInStackTrace", desc := "()Ljava/lang/Throwable;" } : MethodName)) ∈ tbl := tbl_mem (i := 284) (by decide +kernel) rfl
theorem wd_285 : (Cond.instanceMethod ({ cls := "java/lang/Throwable", name := "fillInStackTrace", desc := "()Ljava/lang/Throwable;" } : MethodName)) ∈ tbl := tbl_mem (i := 285) (by decide +kernel) rfl
theorem wd_286 : (Cond.sameMethod "java/lang/Throwable" "java/lang/Throwable" "fillInStackTrace" "()Ljava/lang/Throwable;") ∈ tbl := tbl_mem (i := 286) (by decide +kernel) rfl
theorem wd_287 : (Cond.selects "java/lang/IllegalStateException" ({ cls := "java/lang/Throwable", name := "fillInStackTrace", desc := "()Ljava/lang/Throwable;" } : MethodName) ({ cls := "java/lang/Throwable", name := "fillInStackTrace", desc := "()Ljava/lang/Throwable;" } : MethodName)) ∈ tbl := tbl_mem (i := 287) (by decide +kernel) rfl
theorem wd_288 : (Cond.selects "java/util/NoSuchElementException" ({ cls := "java/lang/Throwable", name := "fillInStackTrace", desc := "()Ljava/lang/Throwable;" } : MethodName) ({ cls := "java/lang/Throwable", name := "fillInStackTrace", desc := "()Ljava/lang/Throwable;" } : MethodName)) ∈ tbl := tbl_mem (i := 288) (by decide +kernel) rfl
theorem wd_289 : (Cond.codeSync ({ cls := "java/lang/Throwable", name := "fillInStackTrace", desc := "()Ljava/lang/Throwable;" } : MethodName) prog_24_method_18_code 1 (some (FieldType.object "java/lang/Throwable"))) ∈ tbl := tbl_mem (i := 289) (by decide +kernel) rfl
theorem wd_290 : (Cond.methodLink "java/lang/Throwable" 202 ({ cls := "java/lang/Throwable", name := "fillInStackTrace", desc := "(I)Ljava/lang/Throwable;" } : MethodName)) ∈ tbl := tbl_mem (i := 290) (by decide +kernel) rfl
theorem wd_291 : (Cond.privateMethod ({ cls := "java/lang/Throwable", name := "fillInStackTrace", desc := "(I)Ljava/lang/Throwable;" } : MethodName)) ∈ tbl := tbl_mem (i := 291) (by decide +kernel) rfl
theorem wd_292 : (Cond.instanceMethod ({ cls := "java/lang/Throwable", name := "fillInStackTrace", desc := "(I)Ljava/lang/Throwable;" } : MethodName)) ∈ tbl := tbl_mem (i := 292) (by decide +kernel) rfl
theorem wd_293 : (Cond.instantiable "java/lang/Throwable" 6) ∈ tbl := tbl_mem (i := 293) (by decide +kernel) rfl
theorem wd_294 : (Cond.native ({ cls := "java/lang/Throwable", name := "fillInStackTrace", desc := "(I)Ljava/lang/Throwable;" } : MethodName)) ∈ tbl := tbl_mem (i := 294) (by decide +kernel) rfl
theorem wd_295 : (Cond.stringRef "HoldMaps" 47 "the value is not 0 .. 99") ∈ lw_tbl := lw_mem (i := 295) (by decide +kernel)
theorem wd_296 : (Cond.methodLink "HoldMaps" 49 ({ cls := "java/lang/IllegalArgumentException", name := "<init>", desc := "(Ljava/lang/String;)V" } : MethodName)) ∈ tbl := tbl_mem (i := 296) (by decide +kernel) rfl
theorem wd_297 : (Cond.instanceMethod ({ cls := "java/lang/IllegalArgumentException", name := "<init>", desc := "(Ljava/lang/String;)V" } : MethodName)) ∈ tbl := tbl_mem (i := 297) (by decide +kernel) rfl
theorem wd_298 : (Cond.code ({ cls := "java/lang/IllegalArgumentException", name := "<init>", desc := "(Ljava/lang/String;)V" } : MethodName) prog_17_method_2_code 2 none) ∈ tbl := tbl_mem (i := 298) (by decide +kernel) rfl
theorem wd_299 : (Cond.methodLink "java/lang/IllegalArgumentException" 7 ({ cls := "java/lang/RuntimeException", name := "<init>", desc := "(Ljava/lang/String;)V" } : MethodName)) ∈ tbl := tbl_mem (i := 299) (by decide +kernel) rfl
theorem wd_300 : (Cond.instanceMethod ({ cls := "java/lang/RuntimeException", name := "<init>", desc := "(Ljava/lang/String;)V" } : MethodName)) ∈ tbl := tbl_mem (i := 300) (by decide +kernel) rfl
theorem wd_301 : (Cond.code ({ cls := "java/lang/RuntimeException", name := "<init>", desc := "(Ljava/lang/String;)V" } : MethodName) prog_21_method_2_code 2 none) ∈ tbl := tbl_mem (i := 301) (by decide +kernel) rfl
theorem wd_302 : (Cond.methodLink "java/lang/RuntimeException" 7 ({ cls := "java/lang/Exception", name := "<init>", desc := "(Ljava/lang/String;)V" } : MethodName)) ∈ tbl := tbl_mem (i := 302) (by decide +kernel) rfl
theorem wd_303 : (Cond.instanceMethod ({ cls := "java/lang/Exception", name := "<init>", desc := "(Ljava/lang/String;)V" } : MethodName)) ∈ tbl := tbl_mem (i := 303) (by decide +kernel) rfl
theorem wd_304 : (Cond.code ({ cls := "java/lang/Exception", name := "<init>", desc := "(Ljava/lang/String;)V" } : MethodName) prog_16_method_2_code 2 none) ∈ tbl := tbl_mem (i := 304) (by decide +kernel) rfl
theorem wd_305 : (Cond.methodLink "java/lang/Exception" 7 ({ cls := "java/lang/Throwable", name := "<init>", desc := "(Ljava/lang/String;)V" } : MethodName)) ∈ tbl := tbl_mem (i := 305) (by decide +kernel) rfl
theorem wd_306 : (Cond.instanceMethod ({ cls := "java/lang/Throwable", name := "<init>", desc := "(Ljava/lang/String;)V" } : MethodName)) ∈ tbl := tbl_mem (i := 306) (by decide +kernel) rfl
theorem wd_307 : (Cond.code ({ cls := "java/lang/Throwable", name := "<init>", desc := "(Ljava/lang/String;)V" } : MethodName) prog_24_method_2_code 2 none) ∈ tbl := tbl_mem (i := 307) (by decide +kernel) rfl
theorem wd_308 : (Cond.fieldLink "java/lang/Throwable" 198 "java/lang/Throwable" "backtrace" "Ljava/lang/Object;") ∈ tbl := tbl_mem (i := 308) (by decide +kernel) rfl
theorem wd_309 : (Cond.fieldLink "java/lang/Throwable" 31 "java/lang/Throwable" "detailMessage" "Ljava/lang/String;") ∈ tbl := tbl_mem (i := 309) (by decide +kernel) rfl
theorem wd_310 : (Cond.fieldLink "java/lang/Throwable" 7 "java/lang/Throwable" "cause" "Ljava/lang/Throwable;") ∈ tbl := tbl_mem (i := 310) (by decide +kernel) rfl
theorem wd_311 : (Cond.fieldLink "java/lang/Throwable" 17 "java/lang/Throwable" "stackTrace" "[Ljava/lang/StackTraceElement;") ∈ tbl := tbl_mem (i := 311) (by decide +kernel) rfl
theorem wd_312 : (Cond.fieldLink "java/lang/Throwable" 24 "java/lang/Throwable" "suppressedExceptions" "Ljava/util/List;") ∈ tbl := tbl_mem (i := 312) (by decide +kernel) rfl
theorem wd_313 : (Cond.soleField "java/lang/Throwable" "backtrace") ∈ tbl := tbl_mem (i := 313) (by decide +kernel) rfl
theorem wd_314 : (Cond.soleField "java/lang/Throwable" "detailMessage") ∈ tbl := tbl_mem (i := 314) (by decide +kernel) rfl
theorem wd_315 : (Cond.soleField "java/lang/Throwable" "cause") ∈ tbl := tbl_mem (i := 315) (by decide +kernel) rfl
theorem wd_316 : (Cond.soleField "java/lang/Throwable" "stackTrace") ∈ tbl := tbl_mem (i := 316) (by decide +kernel) rfl
theorem wd_317 : (Cond.lays "java/lang/IllegalArgumentException" "java/lang/Throwable" "depth" "I") ∈ tbl := tbl_mem (i := 317) (by decide +kernel) rfl
theorem wd_318 : (Cond.soleField "java/lang/Throwable" "depth") ∈ tbl := tbl_mem (i := 318) (by decide +kernel) rfl
theorem wd_319 : (Cond.soleField "java/lang/Throwable" "suppressedExceptions") ∈ tbl := tbl_mem (i := 319) (by decide +kernel) rfl
theorem wd_320 : (Cond.superclass "java/lang/IllegalArgumentException" "java/lang/RuntimeException") ∈ tbl := tbl_mem (i := 320) (by decide +kernel) rfl
theorem wd_321 : (Cond.arrayClass FieldType.byte) ∈ tbl := tbl_mem (i := 321) (by decide +kernel) rfl
theorem wd_322 : (Cond.methodLink "HoldMaps" 52 ({ cls := "HoldMaps$Heap", name := "lowestFree", desc := "()I" } : MethodName)) ∈ tbl := tbl_mem (i := 322) (by decide +kernel) rfl
theorem wd_323 : (Cond.instanceMethod ({ cls := "HoldMaps$Heap", name := "lowestFree", desc := "()I" } : MethodName)) ∈ tbl := tbl_mem (i := 323) (by decide +kernel) rfl
theorem wd_324 : (Cond.selects "HoldMaps$Heap" ({ cls := "HoldMaps$Heap", name := "lowestFree", desc := "()I" } : MethodName) ({ cls := "HoldMaps$Heap", name := "lowestFree", desc := "()I" } : MethodName)) ∈ tbl := tbl_mem (i := 324) (by decide +kernel) rfl
theorem wd_325 : (Cond.code ({ cls := "HoldMaps$Heap", name := "lowestFree", desc := "()I" } : MethodName) prog_3_method_3_code 2 (some FieldType.int)) ∈ tbl := tbl_mem (i := 325) (by decide +kernel) rfl
theorem wd_326 : (Cond.classLink "HoldMaps" 56 "java/lang/IllegalStateException") ∈ tbl := tbl_mem (i := 326) (by decide +kernel) rfl
theorem wd_327 : (Cond.instantiable "java/lang/IllegalStateException" 6) ∈ tbl := tbl_mem (i := 327) (by decide +kernel) rfl
theorem wd_328 : (Cond.castable "java/lang/IllegalStateException" "java/lang/IllegalStateException") ∈ tbl := tbl_mem (i := 328) (by decide +kernel) rfl
theorem wd_329 : (Cond.selects "java/lang/IllegalStateException" ({ cls := "java/lang/Throwable", name := "fillInStackTrace", desc := "(I)Ljava/lang/Throwable;" } : MethodName) ({ cls := "java/lang/Throwable", name := "fillInStackTrace", desc := "(I)Ljava/lang/Throwable;" } : MethodName)) ∈ tbl := tbl_mem (i := 329) (by decide +kernel) rfl
theorem wd_330 : (Cond.lays "java/lang/IllegalStateException" "java/lang/Throwable" "cause" "Ljava/lang/Throwable;") ∈ tbl := tbl_mem (i := 330) (by decide +kernel) rfl
theorem wd_331 : (Cond.lays "java/lang/IllegalStateException" "java/lang/Throwable" "stackTrace" "[Ljava/lang/StackTraceElement;") ∈ tbl := tbl_mem (i := 331) (by decide +kernel) rfl
theorem wd_332 : (Cond.lays "java/lang/IllegalStateException" "java/lang/Throwable" "suppressedExceptions" "Ljava/util/List;") ∈ tbl := tbl_mem (i := 332) (by decide +kernel) rfl
theorem wd_333 : (Cond.lays "java/lang/IllegalStateException" "java/lang/Throwable" "detailMessage" "Ljava/lang/String;") ∈ tbl := tbl_mem (i := 333) (by decide +kernel) rfl
theorem wd_334 : (Cond.lays "java/lang/IllegalStateException" "java/lang/Throwable" "backtrace" "Ljava/lang/Object;") ∈ tbl := tbl_mem (i := 334) (by decide +kernel) rfl
theorem wd_335 : (Cond.stringRef "HoldMaps" 58 "there are 32 objects") ∈ lw_tbl := lw_mem (i := 335) (by decide +kernel)
theorem wd_336 : (Cond.methodLink "HoldMaps" 60 ({ cls := "java/lang/IllegalStateException", name := "<init>", desc := "(Ljava/lang/String;)V" } : MethodName)) ∈ tbl := tbl_mem (i := 336) (by decide +kernel) rfl
theorem wd_337 : (Cond.instanceMethod ({ cls := "java/lang/IllegalStateException", name := "<init>", desc := "(Ljava/lang/String;)V" } : MethodName)) ∈ tbl := tbl_mem (i := 337) (by decide +kernel) rfl
theorem wd_338 : (Cond.code ({ cls := "java/lang/IllegalStateException", name := "<init>", desc := "(Ljava/lang/String;)V" } : MethodName) prog_18_method_2_code 2 none) ∈ tbl := tbl_mem (i := 338) (by decide +kernel) rfl
theorem wd_339 : (Cond.methodLink "java/lang/IllegalStateException" 7 ({ cls := "java/lang/RuntimeException", name := "<init>", desc := "(Ljava/lang/String;)V" } : MethodName)) ∈ tbl := tbl_mem (i := 339) (by decide +kernel) rfl
theorem wd_340 : (Cond.lays "java/lang/IllegalStateException" "java/lang/Throwable" "depth" "I") ∈ tbl := tbl_mem (i := 340) (by decide +kernel) rfl
theorem wd_341 : (Cond.superclass "java/lang/IllegalStateException" "java/lang/RuntimeException") ∈ tbl := tbl_mem (i := 341) (by decide +kernel) rfl
theorem wd_342 : (Cond.classLink "HoldMaps" 65 "HoldMaps$Thing") ∈ tbl := tbl_mem (i := 342) (by decide +kernel) rfl
theorem wd_343 : (Cond.instantiable "HoldMaps$Thing" 4) ∈ tbl := tbl_mem (i := 343) (by decide +kernel) rfl
theorem wd_344 : (Cond.methodLink "HoldMaps" 67 ({ cls := "HoldMaps$Thing", name := "<init>", desc := "(I)V" } : MethodName)) ∈ tbl := tbl_mem (i := 344) (by decide +kernel) rfl
theorem wd_345 : (Cond.instanceMethod ({ cls := "HoldMaps$Thing", name := "<init>", desc := "(I)V" } : MethodName)) ∈ tbl := tbl_mem (i := 345) (by decide +kernel) rfl
theorem wd_346 : (Cond.code ({ cls := "HoldMaps$Thing", name := "<init>", desc := "(I)V" } : MethodName) prog_10_method_1_code 2 none) ∈ tbl := tbl_mem (i := 346) (by decide +kernel) rfl
theorem wd_347 : (Cond.methodLink "HoldMaps$Thing" 3 ({ cls := "java/lang/Object", name := "<init>", desc := "()V" } : MethodName)) ∈ tbl := tbl_mem (i := 347) (by decide +kernel) rfl
theorem wd_348 : (Cond.fieldLink "HoldMaps$Thing" 9 "HoldMaps$Thing" "value" "I") ∈ tbl := tbl_mem (i := 348) (by decide +kernel) rfl
theorem wd_349 : (Cond.fieldLink "HoldMaps" 94 "HoldMaps$Thing" "value" "I") ∈ tbl := tbl_mem (i := 349) (by decide +kernel) rfl
theorem wd_350 : (Cond.fieldLink "HoldMaps$Thing" 15 "HoldMaps$Thing" "references" "[I") ∈ tbl := tbl_mem (i := 350) (by decide +kernel) rfl
theorem wd_351 : (Cond.fieldLink "HoldMaps" 78 "HoldMaps$Thing" "references" "[I") ∈ tbl := tbl_mem (i := 351) (by decide +kernel) rfl
theorem wd_352 : (Cond.fieldLink "HoldMaps$Heap" 46 "HoldMaps$Thing" "references" "[I") ∈ tbl := tbl_mem (i := 352) (by decide +kernel) rfl
theorem wd_353 : (Cond.fieldLink "HoldMaps" 84 "HoldMaps$Thing" "isRoot" "Z") ∈ tbl := tbl_mem (i := 353) (by decide +kernel) rfl
theorem wd_354 : (Cond.fieldLink "HoldMaps$Heap" 33 "HoldMaps$Thing" "isRoot" "Z") ∈ tbl := tbl_mem (i := 354) (by decide +kernel) rfl
theorem wd_355 : (Cond.fieldLink "HoldMaps$Heap" 25 "HoldMaps$Thing" "isHeld" "Z") ∈ tbl := tbl_mem (i := 355) (by decide +kernel) rfl
theorem wd_356 : (Cond.laysFinal "HoldMaps$Thing" "HoldMaps$Thing" "value" "I") ∈ tbl := tbl_mem (i := 356) (by decide +kernel) rfl
theorem wd_357 : (Cond.soleField "HoldMaps$Thing" "value") ∈ tbl := tbl_mem (i := 357) (by decide +kernel) rfl
theorem wd_358 : (Cond.laysFinal "HoldMaps$Thing" "HoldMaps$Thing" "references" "[I") ∈ tbl := tbl_mem (i := 358) (by decide +kernel) rfl
theorem wd_359 : (Cond.soleField "HoldMaps$Thing" "references") ∈ tbl := tbl_mem (i := 359) (by decide +kernel) rfl
theorem wd_360 : (Cond.lays "HoldMaps$Thing" "HoldMaps$Thing" "isRoot" "Z") ∈ tbl := tbl_mem (i := 360) (by decide +kernel) rfl
theorem wd_361 : (Cond.soleField "HoldMaps$Thing" "isRoot") ∈ tbl := tbl_mem (i := 361) (by decide +kernel) rfl
theorem wd_362 : (Cond.lays "HoldMaps$Thing" "HoldMaps$Thing" "isHeld" "Z") ∈ tbl := tbl_mem (i := 362) (by decide +kernel) rfl
theorem wd_363 : (Cond.soleField "HoldMaps$Thing" "isHeld") ∈ tbl := tbl_mem (i := 363) (by decide +kernel) rfl
theorem wd_364 : (Cond.superclass "HoldMaps$Thing" "java/lang/Object") ∈ tbl := tbl_mem (i := 364) (by decide +kernel) rfl
theorem wd_365 : (Cond.methodLink "HoldMapsLaw" 64 ({ cls := "HoldMapsLaw", name := "refer", desc := "(LHoldMaps;III[J)I" } : MethodName)) ∈ tbl := tbl_mem (i := 365) (by decide +kernel) rfl
theorem wd_366 : (Cond.static ({ cls := "HoldMapsLaw", name := "refer", desc := "(LHoldMaps;III[J)I" } : MethodName)) ∈ tbl := tbl_mem (i := 366) (by decide +kernel) rfl
theorem wd_367 : (Cond.codeWith ({ cls := "HoldMapsLaw", name := "refer", desc := "(LHoldMaps;III[J)I" } : MethodName) method_4_code 6 (some FieldType.int) [(0, 12, 15, 13)]) ∈ tbl := tbl_mem (i := 367) (by decide +kernel) rfl
theorem wd_368 : (Cond.methodLink "HoldMapsLaw" 17 ({ cls := "HoldMaps", name := "refer", desc := "(III)I" } : MethodName)) ∈ tbl := tbl_mem (i := 368) (by decide +kernel) rfl
theorem wd_369 : (Cond.instanceMethod ({ cls := "HoldMaps", name := "refer", desc := "(III)I" } : MethodName)) ∈ tbl := tbl_mem (i := 369) (by decide +kernel) rfl
theorem wd_370 : (Cond.selects "HoldMaps" ({ cls := "HoldMaps", name := "refer", desc := "(III)I" } : MethodName) ({ cls := "HoldMaps", name := "refer", desc := "(III)I" } : MethodName)) ∈ tbl := tbl_mem (i := 370) (by decide +kernel) rfl
theorem wd_371 : (Cond.code ({ cls := "HoldMaps", name := "refer", desc := "(III)I" } : MethodName) prog_1_method_3_code 6 (some FieldType.int)) ∈ tbl := tbl_mem (i := 371) (by decide +kernel) rfl
theorem wd_372 : (Cond.stringRef "HoldMaps" 74 "no such object or reference") ∈ lw_tbl := lw_mem (i := 372) (by decide +kernel)
theorem wd_373 : (Cond.stringRef "HoldMaps" 76 "no such object to refer to") ∈ lw_tbl := lw_mem (i := 373) (by decide +kernel)
theorem wd_374 : (Cond.methodLink "HoldMapsLaw" 68 ({ cls := "HoldMapsLaw", name := "root", desc := "(LHoldMaps;IZ[J)I" } : MethodName)) ∈ tbl := tbl_mem (i := 374) (by decide +kernel) rfl
theorem wd_375 : (Cond.static ({ cls := "HoldMapsLaw", name := "root", desc := "(LHoldMaps;IZ[J)I" } : MethodName)) ∈ tbl := tbl_mem (i := 375) (by decide +kernel) rfl
theorem wd_376 : (Cond.codeWith ({ cls := "HoldMapsLaw", name := "root", desc := "(LHoldMaps;IZ[J)I" } : MethodName) method_5_code 5 (some FieldType.int) [(0, 17, 20, 13)]) ∈ tbl := tbl_mem (i := 376) (by decide +kernel) rfl
theorem wd_377 : (Cond.methodLink "HoldMapsLaw" 21 ({ cls := "HoldMaps", name := "root", desc := "(IZ)Z" } : MethodName)) ∈ tbl := tbl_mem (i := 377) (by decide +kernel) rfl
theorem wd_378 : (Cond.instanceMethod ({ cls := "HoldMaps", name := "root", desc := "(IZ)Z" } : MethodName)) ∈ tbl := tbl_mem (i := 378) (by decide +kernel) rfl
theorem wd_379 : (Cond.selects "HoldMaps" ({ cls := "HoldMaps", name := "root", desc := "(IZ)Z" } : MethodName) ({ cls := "HoldMaps", name := "root", desc := "(IZ)Z" } : MethodName)) ∈ tbl := tbl_mem (i := 379) (by decide +kernel) rfl
theorem wd_380 : (Cond.code ({ cls := "HoldMaps", name := "root", desc := "(IZ)Z" } : MethodName) prog_1_method_4_code 5 (some FieldType.boolean)) ∈ tbl := tbl_mem (i := 380) (by decide +kernel) rfl
theorem wd_381 : (Cond.stringRef "HoldMaps" 82 "no such object") ∈ lw_tbl := lw_mem (i := 381) (by decide +kernel)
theorem wd_382 : (Cond.methodLink "HoldMapsLaw" 72 ({ cls := "HoldMapsLaw", name := "put", desc := "(LHoldMaps;III[J)I" } : MethodName)) ∈ tbl := tbl_mem (i := 382) (by decide +kernel) rfl
theorem wd_383 : (Cond.static ({ cls := "HoldMapsLaw", name := "put", desc := "(LHoldMaps;III[J)I" } : MethodName)) ∈ tbl := tbl_mem (i := 383) (by decide +kernel) rfl
theorem wd_384 : (Cond.codeWith ({ cls := "HoldMapsLaw", name := "put", desc := "(LHoldMaps;III[J)I" } : MethodName) method_6_code 6 (some FieldType.int) [(0, 12, 15, 13), (0, 12, 19, 15)]) ∈ tbl := tbl_mem (i := 384) (by decide +kernel) rfl
theorem wd_385 : (Cond.methodLink "HoldMapsLaw" 25 ({ cls := "HoldMaps", name := "put", desc := "(III)I" } : MethodName)) ∈ tbl := tbl_mem (i := 385) (by decide +kernel) rfl
theorem wd_386 : (Cond.instanceMethod ({ cls := "HoldMaps", name := "put", desc := "(III)I" } : MethodName)) ∈ tbl := tbl_mem (i := 386) (by decide +kernel) rfl
theorem wd_387 : (Cond.selects "HoldMaps" ({ cls := "HoldMaps", name := "put", desc := "(III)I" } : MethodName) ({ cls := "HoldMaps", name := "put", desc := "(III)I" } : MethodName)) ∈ tbl := tbl_mem (i := 387) (by decide +kernel) rfl
theorem wd_388 : (Cond.code ({ cls := "HoldMaps", name := "put", desc := "(III)I" } : MethodName) prog_1_method_5_code 10 (some FieldType.int)) ∈ tbl := tbl_mem (i := 388) (by decide +kernel) rfl
theorem wd_389 : (Cond.methodLink "HoldMaps" 88 ({ cls := "HoldMaps", name := "isKeyOf", desc := "(II)Z" } : MethodName)) ∈ tbl := tbl_mem (i := 389) (by decide +kernel) rfl
theorem wd_390 : (Cond.privateMethod ({ cls := "HoldMaps", name := "isKeyOf", desc := "(II)Z" } : MethodName)) ∈ tbl := tbl_mem (i := 390) (by decide +kernel) rfl
theorem wd_391 : (Cond.instanceMethod ({ cls := "HoldMaps", name := "isKeyOf", desc := "(II)Z" } : MethodName)) ∈ tbl := tbl_mem (i := 391) (by decide +kernel) rfl
theorem wd_392 : (Cond.code ({ cls := "HoldMaps", name := "isKeyOf", desc := "(II)Z" } : MethodName) prog_1_method_16_code 3 (some FieldType.boolean)) ∈ tbl := tbl_mem (i := 392) (by decide +kernel) rfl
theorem wd_393 : (Cond.methodLink "HoldMaps" 205 ({ cls := "HoldMaps$Table", name := "takes", desc := "(I)Z" } : MethodName)) ∈ tbl := tbl_mem (i := 393) (by decide +kernel) rfl
theorem wd_394 : (Cond.instanceMethod ({ cls := "HoldMaps$Table", name := "takes", desc := "(I)Z" } : MethodName)) ∈ tbl := tbl_mem (i := 394) (by decide +kernel) rfl
theorem wd_395 : (Cond.sameMethod "HoldMaps$Table" "HoldMaps$Table" "takes" "(I)Z") ∈ tbl := tbl_mem (i := 395) (by decide +kernel) rfl
theorem wd_396 : (Cond.selects "HoldMaps$IdentityMap" ({ cls := "HoldMaps$Table", name := "takes", desc := "(I)Z" } : MethodName) ({ cls := "HoldMaps$Table", name := "takes", desc := "(I)Z" } : MethodName)) ∈ tbl := tbl_mem (i := 396) (by decide +kernel) rfl
theorem wd_397 : (Cond.selects "HoldMaps$LatestMap" ({ cls := "HoldMaps$Table", name := "takes", desc := "(I)Z" } : MethodName) ({ cls := "HoldMaps$Table", name := "takes", desc := "(I)Z" } : MethodName)) ∈ tbl := tbl_mem (i := 397) (by decide +kernel) rfl
theorem wd_398 : (Cond.selects "HoldMaps$PlacesMap" ({ cls := "HoldMaps$Table", name := "takes", desc := "(I)Z" } : MethodName) ({ cls := "HoldMaps$PlacesMap", name := "takes", desc := "(I)Z" } : MethodName)) ∈ tbl := tbl_mem (i := 398) (by decide +kernel) rfl
theorem wd_399 : (Cond.instanceMethod ({ cls := "HoldMaps$PlacesMap", name := "takes", desc := "(I)Z" } : MethodName)) ∈ tbl := tbl_mem (i := 399) (by decide +kernel) rfl
theorem wd_400 : (Cond.code ({ cls := "HoldMaps$PlacesMap", name := "takes", desc := "(I)Z" } : MethodName) prog_6_method_4_code 2 (some FieldType.boolean)) ∈ tbl := tbl_mem (i := 400) (by decide +kernel) rfl
theorem wd_401 : (Cond.selects "HoldMaps$SoftMap" ({ cls := "HoldMaps$Table", name := "takes", desc := "(I)Z" } : MethodName) ({ cls := "HoldMaps$Table", name := "takes", desc := "(I)Z" } : MethodName)) ∈ tbl := tbl_mem (i := 401) (by decide +kernel) rfl
theorem wd_402 : (Cond.selects "HoldMaps$WeakMap" ({ cls := "HoldMaps$Table", name := "takes", desc := "(I)Z" } : MethodName) ({ cls := "HoldMaps$Table", name := "takes", desc := "(I)Z" } : MethodName)) ∈ tbl := tbl_mem (i := 402) (by decide +kernel) rfl
theorem wd_403 : (Cond.code ({ cls := "HoldMaps$Table", name := "takes", desc := "(I)Z" } : MethodName) prog_9_method_11_code 2 (some FieldType.boolean)) ∈ tbl := tbl_mem (i := 403) (by decide +kernel) rfl
theorem wd_404 : (Cond.stringRef "HoldMaps" 92 "no such map, key or value") ∈ lw_tbl := lw_mem (i := 404) (by decide +kernel)
theorem wd_405 : (Cond.methodLink "HoldMaps" 98 ({ cls := "HoldMaps$Table", name := "markOf", desc := "(II)I" } : MethodName)) ∈ tbl := tbl_mem (i := 405) (by decide +kernel) rfl
theorem wd_406 : (Cond.instanceMethod ({ cls := "HoldMaps$Table", name := "markOf", desc := "(II)I" } : MethodName)) ∈ tbl := tbl_mem (i := 406) (by decide +kernel) rfl
theorem wd_407 : (Cond.sameMethod "HoldMaps$Table" "HoldMaps$Table" "markOf" "(II)I") ∈ tbl := tbl_mem (i := 407) (by decide +kernel) rfl
theorem wd_408 : (Cond.selects "HoldMaps$IdentityMap" ({ cls := "HoldMaps$Table", name := "markOf", desc := "(II)I" } : MethodName) ({ cls := "HoldMaps$IdentityMap", name := "markOf", desc := "(II)I" } : MethodName)) ∈ tbl := tbl_mem (i := 408) (by decide +kernel) rfl
theorem wd_409 : (Cond.instanceMethod ({ cls := "HoldMaps$IdentityMap", name := "markOf", desc := "(II)I" } : MethodName)) ∈ tbl := tbl_mem (i := 409) (by decide +kernel) rfl
theorem wd_410 : (Cond.code ({ cls := "HoldMaps$IdentityMap", name := "markOf", desc := "(II)I" } : MethodName) prog_4_method_6_code 3 (some FieldType.int)) ∈ tbl := tbl_mem (i := 410) (by decide +kernel) rfl
theorem wd_411 : (Cond.selects "HoldMaps$LatestMap" ({ cls := "HoldMaps$Table", name := "markOf", desc := "(II)I" } : MethodName) ({ cls := "HoldMaps$Table", name := "markOf", desc := "(II)I" } : MethodName)) ∈ tbl := tbl_mem (i := 411) (by decide +kernel) rfl
theorem wd_412 : (Cond.selects "HoldMaps$PlacesMap" ({ cls := "HoldMaps$Table", name := "markOf", desc := "(II)I" } : MethodName) ({ cls := "HoldMaps$Table", name := "markOf", desc := "(II)I" } : MethodName)) ∈ tbl := tbl_mem (i := 412) (by decide +kernel) rfl
theorem wd_413 : (Cond.selects "HoldMaps$SoftMap" ({ cls := "HoldMaps$Table", name := "markOf", desc := "(II)I" } : MethodName) ({ cls := "HoldMaps$Table", name := "markOf", desc := "(II)I" } : MethodName)) ∈ tbl := tbl_mem (i := 413) (by decide +kernel) rfl
theorem wd_414 : (Cond.selects "HoldMaps$WeakMap" ({ cls := "HoldMaps$Table", name := "markOf", desc := "(II)I" } : MethodName) ({ cls := "HoldMaps$Table", name := "markOf", desc := "(II)I" } : MethodName)) ∈ tbl := tbl_mem (i := 414) (by decide +kernel) rfl
theorem wd_415 : (Cond.code ({ cls := "HoldMaps$Table", name := "markOf", desc := "(II)I" } : MethodName) prog_9_method_9_code 3 (some FieldType.int)) ∈ tbl := tbl_mem (i := 415) (by decide +kernel) rfl
theorem wd_416 : (Cond.methodLink "HoldMaps" 102 ({ cls := "HoldMaps$Table", name := "find", desc := "(I)I" } : MethodName)) ∈ tbl := tbl_mem (i := 416) (by decide +kernel) rfl
theorem wd_417 : (Cond.instanceMethod ({ cls := "HoldMaps$Table", name := "find", desc := "(I)I" } : MethodName)) ∈ tbl := tbl_mem (i := 417) (by decide +kernel) rfl
theorem wd_418 : (Cond.sameMethod "HoldMaps$Table" "HoldMaps$Table" "find" "(I)I") ∈ tbl := tbl_mem (i := 418) (by decide +kernel) rfl
theorem wd_419 : (Cond.selects "HoldMaps$IdentityMap" ({ cls := "HoldMaps$Table", name := "find", desc := "(I)I" } : MethodName) ({ cls := "HoldMaps$Table", name := "find", desc := "(I)I" } : MethodName)) ∈ tbl := tbl_mem (i := 419) (by decide +kernel) rfl
theorem wd_420 : (Cond.selects "HoldMaps$LatestMap" ({ cls := "HoldMaps$Table", name := "find", desc := "(I)I" } : MethodName) ({ cls := "HoldMaps$Table", name := "find", desc := "(I)I" } : MethodName)) ∈ tbl := tbl_mem (i := 420) (by decide +kernel) rfl
theorem wd_421 : (Cond.selects "HoldMaps$PlacesMap" ({ cls := "HoldMaps$Table", name := "find", desc := "(I)I" } : MethodName) ({ cls := "HoldMaps$Table", name := "find", desc := "(I)I" } : MethodName)) ∈ tbl := tbl_mem (i := 421) (by decide +kernel) rfl
theorem wd_422 : (Cond.selects "HoldMaps$SoftMap" ({ cls := "HoldMaps$Table", name := "find", desc := "(I)I" } : MethodName) ({ cls := "HoldMaps$Table", name := "find", desc := "(I)I" } : MethodName)) ∈ tbl := tbl_mem (i := 422) (by decide +kernel) rfl
theorem wd_423 : (Cond.selects "HoldMaps$WeakMap" ({ cls := "HoldMaps$Table", name := "find", desc := "(I)I" } : MethodName) ({ cls := "HoldMaps$Table", name := "find", desc := "(I)I" } : MethodName)) ∈ tbl := tbl_mem (i := 423) (by decide +kernel) rfl
theorem wd_424 : (Cond.code ({ cls := "HoldMaps$Table", name := "find", desc := "(I)I" } : MethodName) prog_9_method_8_code 4 (some FieldType.int)) ∈ tbl := tbl_mem (i := 424) (by decide +kernel) rfl
theorem wd_425 : (Cond.methodLink "HoldMaps$Table" 24 ({ cls := "HoldMaps$Table", name := "length", desc := "()I" } : MethodName)) ∈ tbl := tbl_mem (i := 425) (by decide +kernel) rfl
theorem wd_426 : (Cond.methodLink "HoldMaps$Table" 9 ({ cls := "HoldMaps$Table", name := "entryAt", desc := "(I)LHoldMaps$Entry;" } : MethodName)) ∈ tbl := tbl_mem (i := 426) (by decide +kernel) rfl
theorem wd_427 : (Cond.declares ({ cls := "HoldMaps$Table", name := "entryAt", desc := "(I)LHoldMaps$Entry;" } : MethodName)) ∈ tbl := tbl_mem (i := 427) (by decide +kernel) rfl
theorem wd_428 : (Cond.sameMethod "HoldMaps$Table" "HoldMaps$Table" "entryAt" "(I)LHoldMaps$Entry;") ∈ tbl := tbl_mem (i := 428) (by decide +kernel) rfl
theorem wd_429 : (Cond.selects "HoldMaps$IdentityMap" ({ cls := "HoldMaps$Table", name := "entryAt", desc := "(I)LHoldMaps$Entry;" } : MethodName) ({ cls := "HoldMaps$IdentityMap", name := "entryAt", desc := "(I)LHoldMaps$Entry;" } : MethodName)) ∈ tbl := tbl_mem (i := 429) (by decide +kernel) rfl
theorem wd_430 : (Cond.instanceMethod ({ cls := "HoldMaps$IdentityMap", name := "entryAt", desc := "(I)LHoldMaps$Entry;" } : MethodName)) ∈ tbl := tbl_mem (i := 430) (by decide +kernel) rfl
theorem wd_431 : (Cond.code ({ cls := "HoldMaps$IdentityMap", name := "entryAt", desc := "(I)LHoldMaps$Entry;" } : MethodName) prog_4_method_3_code 3 (some (FieldType.object "HoldMaps$Entry"))) ∈ tbl := tbl_mem (i := 431) (by decide +kernel) rfl
theorem wd_432 : (Cond.methodLink "HoldMaps$IdentityMap" 21 ({ cls := "HoldMaps$IdentityMap", name := "slotOf", desc := "(I)I" } : MethodName)) ∈ tbl := tbl_mem (i := 432) (by decide +kernel) rfl
theorem wd_433 : (Cond.privateMethod ({ cls := "HoldMaps$IdentityMap", name := "slotOf", desc := "(I)I" } : MethodName)) ∈ tbl := tbl_mem (i := 433) (by decide +kernel) rfl
theorem wd_434 : (Cond.instanceMethod ({ cls := "HoldMaps$IdentityMap", name := "slotOf", desc := "(I)I" } : MethodName)) ∈ tbl := tbl_mem (i := 434) (by decide +kernel) rfl
theorem wd_435 : (Cond.code ({ cls := "HoldMaps$IdentityMap", name := "slotOf", desc := "(I)I" } : MethodName) prog_4_method_8_code 4 (some FieldType.int)) ∈ tbl := tbl_mem (i := 435) (by decide +kernel) rfl
theorem wd_436 : (Cond.selects "HoldMaps$LatestMap" ({ cls := "HoldMaps$Table", name := "entryAt", desc := "(I)LHoldMaps$Entry;" } : MethodName) ({ cls := "HoldMaps$Row", name := "entryAt", desc := "(I)LHoldMaps$Entry;" } : MethodName)) ∈ tbl := tbl_mem (i := 436) (by decide +kernel) rfl
theorem wd_437 : (Cond.instanceMethod ({ cls := "HoldMaps$Row", name := "entryAt", desc := "(I)LHoldMaps$Entry;" } : MethodName)) ∈ tbl := tbl_mem (i := 437) (by decide +kernel) rfl
theorem wd_438 : (Cond.code ({ cls := "HoldMaps$Row", name := "entryAt", desc := "(I)LHoldMaps$Entry;" } : MethodName) prog_7_method_3_code 2 (some (FieldType.object "HoldMaps$Entry"))) ∈ tbl := tbl_mem (i := 438) (by decide +kernel) rfl
theorem wd_439 : (Cond.methodLink "HoldMaps$Row" 20 ({ cls := "java/util/ArrayList", name := "get", desc := "(I)Ljava/lang/Object;" } : MethodName)) ∈ tbl := tbl_mem (i := 439) (by decide +kernel) rfl
theorem wd_440 : (Cond.instanceMethod ({ cls := "java/util/ArrayList", name := "get", desc := "(I)Ljava/lang/Object;" } : MethodName)) ∈ tbl := tbl_mem (i := 440) (by decide +kernel) rfl
theorem wd_441 : (Cond.selects "java/util/ArrayList" ({ cls := "java/util/ArrayList", name := "get", desc := "(I)Ljava/lang/Object;" } : MethodName) ({ cls := "java/util/ArrayList", name := "get", desc := "(I)Ljava/lang/Object;" } : MethodName)) ∈ tbl := tbl_mem (i := 441) (by decide +kernel) rfl
theorem wd_442 : (Cond.code ({ cls := "java/util/ArrayList", name := "get", desc := "(I)Ljava/lang/Object;" } : MethodName) prog_27_method_20_code 2 (some (FieldType.object "java/lang/Object"))) ∈ tbl := tbl_mem (i := 442) (by decide +kernel) rfl
theorem wd_443 : (Cond.methodLink "java/util/ArrayList" 118 ({ cls := "java/util/Objects", name := "checkIndex", desc := "(II)I" } : MethodName)) ∈ tbl := tbl_mem (i := 443) (by decide +kernel) rfl
theorem wd_444 : (Cond.static ({ cls := "java/util/Objects", name := "checkIndex", desc := "(II)I" } : MethodName)) ∈ tbl := tbl_mem (i := 444) (by decide +kernel) rfl
theorem wd_445 : (Cond.code ({ cls := "java/util/Objects", name := "checkIndex", desc := "(II)I" } : MethodName) prog_32_method_17_code 2 (some FieldType.int)) ∈ tbl := tbl_mem (i := 445) (by decide +kernel) rfl
theorem wd_446 : (Cond.methodLink "java/util/Objects" 105 ({ cls := "jdk/internal/util/Preconditions", name := "checkIndex", desc := "(IILjava/util/function/BiFunction;)I" } : MethodName)) ∈ tbl := tbl_mem (i := 446) (by decide +kernel) rfl
theorem wd_447 : (Cond.static ({ cls := "jdk/internal/util/Preconditions", name := "checkIndex", desc := "(IILjava/util/function/BiFunction;)I" } : MethodName)) ∈ tbl := tbl_mem (i := 447) (by decide +kernel) rfl
theorem wd_448 : (Cond.code ({ cls := "jdk/internal/util/Preconditions", name := "checkIndex", desc := "(IILjava/util/function/BiFunction;)I" } : MethodName) prog_36_method_11_code 3 (some FieldType.int)) ∈ tbl := tbl_mem (i := 448) (by decide +kernel) rfl
theorem wd_449 : (Cond.methodLink "java/util/ArrayList" 123 ({ cls := "java/util/ArrayList", name := "elementData", desc := "(I)Ljava/lang/Object;" } : MethodName)) ∈ tbl := tbl_mem (i := 449) (by decide +kernel) rfl
theorem wd_450 : (Cond.instanceMethod ({ cls := "java/util/ArrayList", name := "elementData", desc := "(I)Ljava/lang/Object;" } : MethodName)) ∈ tbl := tbl_mem (i := 450) (by decide +kernel) rfl
theorem wd_451 : (Cond.selects "java/util/ArrayList" ({ cls := "java/util/ArrayList", name := "elementData", desc := "(I)Ljava/lang/Object;" } : MethodName) ({ cls := "java/util/ArrayList", name := "elementData", desc := "(I)Ljava/lang/Object;" } : MethodName)) ∈ tbl := tbl_mem (i := 451) (by decide +kernel) rfl
theorem wd_452 : (Cond.code ({ cls := "java/util/ArrayList", name := "elementData", desc := "(I)Ljava/lang/Object;" } : MethodName) prog_27_method_18_code 2 (some (FieldType.object "java/lang/Object"))) ∈ tbl := tbl_mem (i := 452) (by decide +kernel) rfl
theorem wd_453 : (Cond.classLink "HoldMaps$Row" 24 "HoldMaps$Entry") ∈ tbl := tbl_mem (i := 453) (by decide +kernel) rfl
theorem wd_454 : (Cond.selects "HoldMaps$PlacesMap" ({ cls := "HoldMaps$Table", name := "entryAt", desc := "(I)LHoldMaps$Entry;" } : MethodName) ({ cls := "HoldMaps$Row", name := "entryAt", desc := "(I)LHoldMaps$Entry;" } : MethodName)) ∈ tbl := tbl_mem (i := 454) (by decide +kernel) rfl
theorem wd_455 : (Cond.selects "HoldMaps$SoftMap" ({ cls := "HoldMaps$Table", name := "entryAt", desc := "(I)LHoldMaps$Entry;" } : MethodName) ({ cls := "HoldMaps$Row", name := "entryAt", desc := "(I)LHoldMaps$Entry;" } : MethodName)) ∈ tbl := tbl_mem (i := 455) (by decide +kernel) rfl
theorem wd_456 : (Cond.selects "HoldMaps$WeakMap" ({ cls := "HoldMaps$Table", name := "entryAt", desc := "(I)LHoldMaps$Entry;" } : MethodName) ({ cls := "HoldMaps$Row", name := "entryAt", desc := "(I)LHoldMaps$Entry;" } : MethodName)) ∈ tbl := tbl_mem (i := 456) (by decide +kernel) rfl
theorem wd_457 : (Cond.methodLink "HoldMaps" 106 ({ cls := "HoldMaps$Table", name := "entryAt", desc := "(I)LHoldMaps$Entry;" } : MethodName)) ∈ tbl := tbl_mem (i := 457) (by decide +kernel) rfl
theorem wd_458 : (Cond.methodLink "HoldMaps" 110 ({ cls := "HoldMaps$Table", name := "isFull", desc := "()Z" } : MethodName)) ∈ tbl := tbl_mem (i := 458) (by decide +kernel) rfl
theorem wd_459 : (Cond.instanceMethod ({ cls := "HoldMaps$Table", name := "isFull", desc := "()Z" } : MethodName)) ∈ tbl := tbl_mem (i := 459) (by decide +kernel) rfl
theorem wd_460 : (Cond.sameMethod "HoldMaps$Table" "HoldMaps$Table" "isFull" "()Z") ∈ tbl := tbl_mem (i := 460) (by decide +kernel) rfl
theorem wd_461 : (Cond.selects "HoldMaps$IdentityMap" ({ cls := "HoldMaps$Table", name := "isFull", desc := "()Z" } : MethodName) ({ cls := "HoldMaps$IdentityMap", name := "isFull", desc := "()Z" } : MethodName)) ∈ tbl := tbl_mem (i := 461) (by decide +kernel) rfl
theorem wd_462 : (Cond.instanceMethod ({ cls := "HoldMaps$IdentityMap", name := "isFull", desc := "()Z" } : MethodName)) ∈ tbl := tbl_mem (i := 462) (by decide +kernel) rfl
theorem wd_463 : (Cond.code ({ cls := "HoldMaps$IdentityMap", name := "isFull", desc := "()Z" } : MethodName) prog_4_method_7_code 1 (some FieldType.boolean)) ∈ tbl := tbl_mem (i := 463) (by decide +kernel) rfl
theorem wd_464 : (Cond.selects "HoldMaps$LatestMap" ({ cls := "HoldMaps$Table", name := "isFull", desc := "()Z" } : MethodName) ({ cls := "HoldMaps$Table", name := "isFull", desc := "()Z" } : MethodName)) ∈ tbl := tbl_mem (i := 464) (by decide +kernel) rfl
theorem wd_465 : (Cond.selects "HoldMaps$PlacesMap" ({ cls := "HoldMaps$Table", name := "isFull", desc := "()Z" } : MethodName) ({ cls := "HoldMaps$Table", name := "isFull", desc := "()Z" } : MethodName)) ∈ tbl := tbl_mem (i := 465) (by decide +kernel) rfl
theorem wd_466 : (Cond.selects "HoldMaps$SoftMap" ({ cls := "HoldMaps$Table", name := "isFull", desc := "()Z" } : MethodName) ({ cls := "HoldMaps$Table", name := "isFull", desc := "()Z" } : MethodName)) ∈ tbl := tbl_mem (i := 466) (by decide +kernel) rfl
theorem wd_467 : (Cond.selects "HoldMaps$WeakMap" ({ cls := "HoldMaps$Table", name := "isFull", desc := "()Z" } : MethodName) ({ cls := "HoldMaps$Table", name := "isFull", desc := "()Z" } : MethodName)) ∈ tbl := tbl_mem (i := 467) (by decide +kernel) rfl
theorem wd_468 : (Cond.code ({ cls := "HoldMaps$Table", name := "isFull", desc := "()Z" } : MethodName) prog_9_method_12_code 1 (some FieldType.boolean)) ∈ tbl := tbl_mem (i := 468) (by decide +kernel) rfl
theorem wd_469 : (Cond.stringRef "HoldMaps" 114 "the map is full") ∈ lw_tbl := lw_mem (i := 469) (by decide +kernel)
theorem wd_470 : (Cond.methodLink "HoldMaps" 116 ({ cls := "HoldMaps$Table", name := "tick", desc := "()V" } : MethodName)) ∈ tbl := tbl_mem (i := 470) (by decide +kernel) rfl
theorem wd_471 : (Cond.instanceMethod ({ cls := "HoldMaps$Table", name := "tick", desc := "()V" } : MethodName)) ∈ tbl := tbl_mem (i := 471) (by decide +kernel) rfl
theorem wd_472 : (Cond.sameMethod "HoldMaps$Table" "HoldMaps$Table" "tick" "()V") ∈ tbl := tbl_mem (i := 472) (by decide +kernel) rfl
theorem wd_473 : (Cond.selects "HoldMaps$IdentityMap" ({ cls := "HoldMaps$Table", name := "tick", desc := "()V" } : MethodName) ({ cls := "HoldMaps$Table", name := "tick", desc := "()V" } : MethodName)) ∈ tbl := tbl_mem (i := 473) (by decide +kernel) rfl
theorem wd_474 : (Cond.selects "HoldMaps$LatestMap" ({ cls := "HoldMaps$Table", name := "tick", desc := "()V" } : MethodName) ({ cls := "HoldMaps$Table", name := "tick", desc := "()V" } : MethodName)) ∈ tbl := tbl_mem (i := 474) (by decide +kernel) rfl
theorem wd_475 : (Cond.selects "HoldMaps$PlacesMap" ({ cls := "HoldMaps$Table", name := "tick", desc := "()V" } : MethodName) ({ cls := "HoldMaps$Table", name := "tick", desc := "()V" } : MethodName)) ∈ tbl := tbl_mem (i := 475) (by decide +kernel) rfl
theorem wd_476 : (Cond.selects "HoldMaps$SoftMap" ({ cls := "HoldMaps$Table", name := "tick", desc := "()V" } : MethodName) ({ cls := "HoldMaps$SoftMap", name := "tick", desc := "()V" } : MethodName)) ∈ tbl := tbl_mem (i := 476) (by decide +kernel) rfl
theorem wd_477 : (Cond.instanceMethod ({ cls := "HoldMaps$SoftMap", name := "tick", desc := "()V" } : MethodName)) ∈ tbl := tbl_mem (i := 477) (by decide +kernel) rfl
theorem wd_478 : (Cond.code ({ cls := "HoldMaps$SoftMap", name := "tick", desc := "()V" } : MethodName) prog_8_method_3_code 1 none) ∈ tbl := tbl_mem (i := 478) (by decide +kernel) rfl
theorem wd_479 : (Cond.selects "HoldMaps$WeakMap" ({ cls := "HoldMaps$Table", name := "tick", desc := "()V" } : MethodName) ({ cls := "HoldMaps$Table", name := "tick", desc := "()V" } : MethodName)) ∈ tbl := tbl_mem (i := 479) (by decide +kernel) rfl
theorem wd_480 : (Cond.code ({ cls := "HoldMaps$Table", name := "tick", desc := "()V" } : MethodName) prog_9_method_13_code 1 none) ∈ tbl := tbl_mem (i := 480) (by decide +kernel) rfl
theorem wd_481 : (Cond.classLink "HoldMaps" 119 "HoldMaps$Entry") ∈ tbl := tbl_mem (i := 481) (by decide +kernel) rfl
theorem wd_482 : (Cond.instantiable "HoldMaps$Entry" 4) ∈ tbl := tbl_mem (i := 482) (by decide +kernel) rfl
theorem wd_483 : (Cond.methodLink "HoldMaps" 121 ({ cls := "HoldMaps$Table", name := "keyOf", desc := "(II)I" } : MethodName)) ∈ tbl := tbl_mem (i := 483) (by decide +kernel) rfl
theorem wd_484 : (Cond.instanceMethod ({ cls := "HoldMaps$Table", name := "keyOf", desc := "(II)I" } : MethodName)) ∈ tbl := tbl_mem (i := 484) (by decide +kernel) rfl
theorem wd_485 : (Cond.sameMethod "HoldMaps$Table" "HoldMaps$Table" "keyOf" "(II)I") ∈ tbl := tbl_mem (i := 485) (by decide +kernel) rfl
theorem wd_486 : (Cond.selects "HoldMaps$IdentityMap" ({ cls := "HoldMaps$Table", name := "keyOf", desc := "(II)I" } : MethodName) ({ cls := "HoldMaps$Table", name := "keyOf", desc := "(II)I" } : MethodName)) ∈ tbl := tbl_mem (i := 486) (by decide +kernel) rfl
theorem wd_487 : (Cond.selects "HoldMaps$LatestMap" ({ cls := "HoldMaps$Table", name := "keyOf", desc := "(II)I" } : MethodName) ({ cls := "HoldMaps$Table", name := "keyOf", desc := "(II)I" } : MethodName)) ∈ tbl := tbl_mem (i := 487) (by decide +kernel) rfl
theorem wd_488 : (Cond.selects "HoldMaps$PlacesMap" ({ cls := "HoldMaps$Table", name := "keyOf", desc := "(II)I" } : MethodName) ({ cls := "HoldMaps$PlacesMap", name := "keyOf", desc := "(II)I" } : MethodName)) ∈ tbl := tbl_mem (i := 488) (by decide +kernel) rfl
theorem wd_489 : (Cond.instanceMethod ({ cls := "HoldMaps$PlacesMap", name := "keyOf", desc := "(II)I" } : MethodName)) ∈ tbl := tbl_mem (i := 489) (by decide +kernel) rfl
theorem wd_490 : (Cond.code ({ cls := "HoldMaps$PlacesMap", name := "keyOf", desc := "(II)I" } : MethodName) prog_6_method_3_code 3 (some FieldType.int)) ∈ tbl := tbl_mem (i := 490) (by decide +kernel) rfl
theorem wd_491 : (Cond.selects "HoldMaps$SoftMap" ({ cls := "HoldMaps$Table", name := "keyOf", desc := "(II)I" } : MethodName) ({ cls := "HoldMaps$Table", name := "keyOf", desc := "(II)I" } : MethodName)) ∈ tbl := tbl_mem (i := 491) (by decide +kernel) rfl
theorem wd_492 : (Cond.selects "HoldMaps$WeakMap" ({ cls := "HoldMaps$Table", name := "keyOf", desc := "(II)I" } : MethodName) ({ cls := "HoldMaps$Table", name := "keyOf", desc := "(II)I" } : MethodName)) ∈ tbl := tbl_mem (i := 492) (by decide +kernel) rfl
theorem wd_493 : (Cond.code ({ cls := "HoldMaps$Table", name := "keyOf", desc := "(II)I" } : MethodName) prog_9_method_10_code 3 (some FieldType.int)) ∈ tbl := tbl_mem (i := 493) (by decide +kernel) rfl
theorem wd_494 : (Cond.methodLink "HoldMaps" 124 ({ cls := "HoldMaps$Entry", name := "<init>", desc := "(III)V" } : MethodName)) ∈ tbl := tbl_mem (i := 494) (by decide +kernel) rfl
theorem wd_495 : (Cond.instanceMethod ({ cls := "HoldMaps$Entry", name := "<init>", desc := "(III)V" } : MethodName)) ∈ tbl := tbl_mem (i := 495) (by decide +kernel) rfl
theorem wd_496 : (Cond.code ({ cls := "HoldMaps$Entry", name := "<init>", desc := "(III)V" } : MethodName) prog_2_method_1_code 4 none) ∈ tbl := tbl_mem (i := 496) (by decide +kernel) rfl
theorem wd_497 : (Cond.methodLink "HoldMaps$Entry" 1 ({ cls := "java/lang/Object", name := "<init>", desc := "()V" } : MethodName)) ∈ tbl := tbl_mem (i := 497) (by decide +kernel) rfl
theorem wd_498 : (Cond.fieldLink "HoldMaps$Entry" 7 "HoldMaps$Entry" "key" "I") ∈ tbl := tbl_mem (i := 498) (by decide +kernel) rfl
theorem wd_499 : (Cond.fieldLink "HoldMaps$PlacesMap" 27 "HoldMaps$Entry" "key" "I") ∈ tbl := tbl_mem (i := 499) (by decide +kernel) rfl
theorem wd_500 : (Cond.fieldLink "HoldMaps$Table" 15 "HoldMaps$Entry" "key" "I") ∈ tbl := tbl_mem (i := 500) (by decide +kernel) rfl
theorem wd_501 : (Cond.fieldLink "HoldMaps$IdentityMap" 37 "HoldMaps$Entry" "key" "I") ∈ tbl := tbl_mem (i := 501) (by decide +kernel) rfl
theorem wd_502 : (Cond.fieldLink "HoldMaps$Entry" 13 "HoldMaps$Entry" "mark" "I") ∈ tbl := tbl_mem (i := 502) (by decide +kernel) rfl
theorem wd_503 : (Cond.fieldLink "HoldMaps$WeakMap" 54 "HoldMaps$Entry" "mark" "I") ∈ tbl := tbl_mem (i := 503) (by decide +kernel) rfl
theorem wd_504 : (Cond.fieldLink "HoldMaps$Table" 28 "HoldMaps$Entry" "mark" "I") ∈ tbl := tbl_mem (i := 504) (by decide +kernel) rfl
theorem wd_505 : (Cond.fieldLink "HoldMaps$Entry" 16 "HoldMaps$Entry" "value" "I") ∈ tbl := tbl_mem (i := 505) (by decide +kernel) rfl
theorem wd_506 : (Cond.fieldLink "HoldMaps" 131 "HoldMaps$Entry" "value" "I") ∈ tbl := tbl_mem (i := 506) (by decide +kernel) rfl
theorem wd_507 : (Cond.fieldLink "HoldMaps$Table" 21 "HoldMaps$Entry" "value" "I") ∈ tbl := tbl_mem (i := 507) (by decide +kernel) rfl
theorem wd_508 : (Cond.fieldLink "HoldMaps$SoftMap" 15 "HoldMaps$Entry" "use" "I") ∈ tbl := tbl_mem (i := 508) (by decide +kernel) rfl
theorem wd_509 : (Cond.fieldLink "HoldMaps" 223 "HoldMaps$Entry" "use" "I") ∈ tbl := tbl_mem (i := 509) (by decide +kernel) rfl
theorem wd_510 : (Cond.laysFinal "HoldMaps$Entry" "HoldMaps$Entry" "key" "I") ∈ tbl := tbl_mem (i := 510) (by decide +kernel) rfl
theorem wd_511 : (Cond.soleField "HoldMaps$Entry" "key") ∈ tbl := tbl_mem (i := 511) (by decide +kernel) rfl
theorem wd_512 : (Cond.laysFinal "HoldMaps$Entry" "HoldMaps$Entry" "mark" "I") ∈ tbl := tbl_mem (i := 512) (by decide +kernel) rfl
theorem wd_513 : (Cond.soleField "HoldMaps$Entry" "mark") ∈ tbl := tbl_mem (i := 513) (by decide +kernel) rfl
theorem wd_514 : (Cond.lays "HoldMaps$Entry" "HoldMaps$Entry" "value" "I") ∈ tbl := tbl_mem (i := 514) (by decide +kernel) rfl
theorem wd_515 : (Cond.soleField "HoldMaps$Entry" "value") ∈ tbl := tbl_mem (i := 515) (by decide +kernel) rfl
theorem wd_516 : (Cond.lays "HoldMaps$Entry" "HoldMaps$Entry" "use" "I") ∈ tbl := tbl_mem (i := 516) (by decide +kernel) rfl
theorem wd_517 : (Cond.soleField "HoldMaps$Entry" "use") ∈ tbl := tbl_mem (i := 517) (by decide +kernel) rfl
theorem wd_518 : (Cond.superclass "HoldMaps$Entry" "java/lang/Object") ∈ tbl := tbl_mem (i := 518) (by decide +kernel) rfl
theorem wd_519 : (Cond.methodLink "HoldMaps" 127 ({ cls := "HoldMaps$Table", name := "add", desc := "(LHoldMaps$Entry;)V" } : MethodName)) ∈ tbl := tbl_mem (i := 519) (by decide +kernel) rfl
theorem wd_520 : (Cond.declares ({ cls := "HoldMaps$Table", name := "add", desc := "(LHoldMaps$Entry;)V" } : MethodName)) ∈ tbl := tbl_mem (i := 520) (by decide +kernel) rfl
theorem wd_521 : (Cond.sameMethod "HoldMaps$Table" "HoldMaps$Table" "add" "(LHoldMaps$Entry;)V") ∈ tbl := tbl_mem (i := 521) (by decide +kernel) rfl
theorem wd_522 : (Cond.selects "HoldMaps$IdentityMap" ({ cls := "HoldMaps$Table", name := "add", desc := "(LHoldMaps$Entry;)V" } : MethodName) ({ cls := "HoldMaps$IdentityMap", name := "add", desc := "(LHoldMaps$Entry;)V" } : MethodName)) ∈ tbl := tbl_mem (i := 522) (by decide +kernel) rfl
theorem wd_523 : (Cond.instanceMethod ({ cls := "HoldMaps$IdentityMap", name := "add", desc := "(LHoldMaps$Entry;)V" } : MethodName)) ∈ tbl := tbl_mem (i := 523) (by decide +kernel) rfl
theorem wd_524 : (Cond.code ({ cls := "HoldMaps$IdentityMap", name := "add", desc := "(LHoldMaps$Entry;)V" } : MethodName) prog_4_method_4_code 5 none) ∈ tbl := tbl_mem (i := 524) (by decide +kernel) rfl
theorem wd_525 : (Cond.methodLink "HoldMaps$IdentityMap" 25 ({ cls := "HoldMaps$IdentityMap", name := "firstSlot", desc := "(LHoldMaps$Entry;)I" } : MethodName)) ∈ tbl := tbl_mem (i := 525) (by decide +kernel) rfl
theorem wd_526 : (Cond.static ({ cls := "HoldMaps$IdentityMap", name := "firstSlot", desc := "(LHoldMaps$Entry;)I" } : MethodName)) ∈ tbl := tbl_mem (i := 526) (by decide +kernel) rfl
theorem wd_527 : (Cond.code ({ cls := "HoldMaps$IdentityMap", name := "firstSlot", desc := "(LHoldMaps$Entry;)I" } : MethodName) prog_4_method_9_code 1 (some FieldType.int)) ∈ tbl := tbl_mem (i := 527) (by decide +kernel) rfl
theorem wd_528 : (Cond.selects "HoldMaps$LatestMap" ({ cls := "HoldMaps$Table", name := "add", desc := "(LHoldMaps$Entry;)V" } : MethodName) ({ cls := "HoldMaps$LatestMap", name := "add", desc := "(LHoldMaps$Entry;)V" } : MethodName)) ∈ tbl := tbl_mem (i := 528) (by decide +kernel) rfl
theorem wd_529 : (Cond.instanceMethod ({ cls := "HoldMaps$LatestMap", name := "add", desc := "(LHoldMaps$Entry;)V" } : MethodName)) ∈ tbl := tbl_mem (i := 529) (by decide +kernel) rfl
theorem wd_530 : (Cond.code ({ cls := "HoldMaps$LatestMap", name := "add", desc := "(LHoldMaps$Entry;)V" } : MethodName) prog_5_method_2_code 2 none) ∈ tbl := tbl_mem (i := 530) (by decide +kernel) rfl
theorem wd_531 : (Cond.methodLink "HoldMaps$LatestMap" 9 ({ cls := "HoldMaps$LatestMap", name := "append", desc := "(LHoldMaps$Entry;)V" } : MethodName)) ∈ tbl := tbl_mem (i := 531) (by decide +kernel) rfl
theorem wd_532 : (Cond.sameMethod "HoldMaps$LatestMap" "HoldMaps$Row" "append" "(LHoldMaps$Entry;)V") ∈ tbl := tbl_mem (i := 532) (by decide +kernel) rfl
theorem wd_533 : (Cond.declares ({ cls := "HoldMaps$Row", name := "append", desc := "(LHoldMaps$Entry;)V" } : MethodName)) ∈ tbl := tbl_mem (i := 533) (by decide +kernel) rfl
theorem wd_534 : (Cond.selects "HoldMaps$LatestMap" ({ cls := "HoldMaps$LatestMap", name := "append", desc := "(LHoldMaps$Entry;)V" } : MethodName) ({ cls := "HoldMaps$Row", name := "append", desc := "(LHoldMaps$Entry;)V" } : MethodName)) ∈ tbl := tbl_mem (i := 534) (by decide +kernel) rfl
theorem wd_535 : (Cond.instanceMethod ({ cls := "HoldMaps$Row", name := "append", desc := "(LHoldMaps$Entry;)V" } : MethodName)) ∈ tbl := tbl_mem (i := 535) (by decide +kernel) rfl
theorem wd_536 : (Cond.code ({ cls := "HoldMaps$Row", name := "append", desc := "(LHoldMaps$Entry;)V" } : MethodName) prog_7_method_5_code 2 none) ∈ tbl := tbl_mem (i := 536) (by decide +kernel) rfl
theorem wd_537 : (Cond.methodLink "HoldMaps$Row" 33 ({ cls := "java/util/ArrayList", name := "add", desc := "(Ljava/lang/Object;)Z" } : MethodName)) ∈ tbl := tbl_mem (i := 537) (by decide +kernel) rfl
theorem wd_538 : (Cond.instanceMethod ({ cls := "java/util/ArrayList", name := "add", desc := "(Ljava/lang/Object;)Z" } : MethodName)) ∈ tbl := tbl_mem (i := 538) (by decide +kernel) rfl
theorem wd_539 : (Cond.selects "java/util/ArrayList" ({ cls := "java/util/ArrayList", name := "add", desc := "(Ljava/lang/Object;)Z" } : MethodName) ({ cls := "java/util/ArrayList", name := "add", desc := "(Ljava/lang/Object;)Z" } : MethodName)) ∈ tbl := tbl_mem (i := 539) (by decide +kernel) rfl
theorem wd_540 : (Cond.code ({ cls := "java/util/ArrayList", name := "add", desc := "(Ljava/lang/Object;)Z" } : MethodName) prog_27_method_25_code 2 (some FieldType.boolean)) ∈ tbl := tbl_mem (i := 540) (by decide +kernel) rfl
theorem wd_541 : (Cond.methodLink "java/util/ArrayList" 131 ({ cls := "java/util/ArrayList", name := "add", desc := "(Ljava/lang/Object;[Ljava/lang/Object;I)V" } : MethodName)) ∈ tbl := tbl_mem (i := 541) (by decide +kernel) rfl
theorem wd_542 : (Cond.privateMethod ({ cls := "java/util/ArrayList", name := "add", desc := "(Ljava/lang/Object;[Ljava/lang/Object;I)V" } : MethodName)) ∈ tbl := tbl_mem (i := 542) (by decide +kernel) rfl
theorem wd_543 : (Cond.instanceMethod ({ cls := "java/util/ArrayList", name := "add", desc := "(Ljava/lang/Object;[Ljava/lang/Object;I)V" } : MethodName)) ∈ tbl := tbl_mem (i := 543) (by decide +kernel) rfl
theorem wd_544 : (Cond.code ({ cls := "java/util/ArrayList", name := "add", desc := "(Ljava/lang/Object;[Ljava/lang/Object;I)V" } : MethodName) prog_27_method_24_code 4 none) ∈ tbl := tbl_mem (i := 544) (by decide +kernel) rfl
theorem wd_545 : (Cond.methodLink "java/util/ArrayList" 129 ({ cls := "java/util/ArrayList", name := "grow", desc := "()[Ljava/lang/Object;" } : MethodName)) ∈ tbl := tbl_mem (i := 545) (by decide +kernel) rfl
theorem wd_546 : (Cond.privateMethod ({ cls := "java/util/ArrayList", name := "grow", desc := "()[Ljava/lang/Object;" } : MethodName)) ∈ tbl := tbl_mem (i := 546) (by decide +kernel) rfl
theorem wd_547 : (Cond.instanceMethod ({ cls := "java/util/ArrayList", name := "grow", desc := "()[Ljava/lang/Object;" } : MethodName)) ∈ tbl := tbl_mem (i := 547) (by decide +kernel) rfl
theorem wd_548 : (Cond.code ({ cls := "java/util/ArrayList", name := "grow", desc := "()[Ljava/lang/Object;" } : MethodName) prog_27_method_7_code 1 (some (FieldType.array (FieldType.object "java/lang/Object")))) ∈ tbl := tbl_mem (i := 548) (by decide +kernel) rfl
theorem wd_549 : (Cond.methodLink "java/util/ArrayList" 69 ({ cls := "java/util/ArrayList", name := "grow", desc := "(I)[Ljava/lang/Object;" } : MethodName)) ∈ tbl := tbl_mem (i := 549) (by decide +kernel) rfl
theorem wd_550 : (Cond.privateMethod ({ cls := "java/util/ArrayList", name := "grow", desc := "(I)[Ljava/lang/Object;" } : MethodName)) ∈ tbl := tbl_mem (i := 550) (by decide +kernel) rfl
theorem wd_551 : (Cond.instanceMethod ({ cls := "java/util/ArrayList", name := "grow", desc := "(I)[Ljava/lang/Object;" } : MethodName)) ∈ tbl := tbl_mem (i := 551) (by decide +kernel) rfl
theorem wd_552 : (Cond.code ({ cls := "java/util/ArrayList", name := "grow", desc := "(I)[Ljava/lang/Object;" } : MethodName) prog_27_method_6_code 4 (some (FieldType.array (FieldType.object "java/lang/Object")))) ∈ tbl := tbl_mem (i := 552) (by decide +kernel) rfl
theorem wd_553 : (Cond.methodLink "java/util/ArrayList" 73 ({ cls := "jdk/internal/util/ArraysSupport", name := "newLength", desc := "(III)I" } : MethodName)) ∈ tbl := tbl_mem (i := 553) (by decide +kernel) rfl
theorem wd_554 : (Cond.static ({ cls := "jdk/internal/util/ArraysSupport", name := "newLength", desc := "(III)I" } : MethodName)) ∈ tbl := tbl_mem (i := 554) (by decide +kernel) rfl
theorem wd_555 : (Cond.code ({ cls := "jdk/internal/util/ArraysSupport", name := "newLength", desc := "(III)I" } : MethodName) prog_35_method_27_code 4 (some FieldType.int)) ∈ tbl := tbl_mem (i := 555) (by decide +kernel) rfl
theorem wd_556 : (Cond.methodLink "jdk/internal/util/ArraysSupport" 194 ({ cls := "java/lang/Math", name := "max", desc := "(II)I" } : MethodName)) ∈ tbl := tbl_mem (i := 556) (by decide +kernel) rfl
theorem wd_557 : (Cond.static ({ cls := "java/lang/Math", name := "max", desc := "(II)I" } : MethodName)) ∈ tbl := tbl_mem (i := 557) (by decide +kernel) rfl
theorem wd_558 : (Cond.code ({ cls := "java/lang/Math", name := "max", desc := "(II)I" } : MethodName) prog_20_method_65_code 2 (some FieldType.int)) ∈ tbl := tbl_mem (i := 558) (by decide +kernel) rfl
theorem wd_559 : (Cond.constant "jdk/internal/util/ArraysSupport" 200 (2147483639 : Int32)) ∈ tbl := tbl_mem (i := 559) (by decide +kernel) rfl
theorem wd_560 : (Cond.methodLink "jdk/internal/util/ArraysSupport" 201 ({ cls := "jdk/internal/util/ArraysSupport", name := "hugeLength", desc := "(II)I" } : MethodName)) ∈ tbl := tbl_mem (i := 560) (by decide +kernel) rfl
theorem wd_561 : (Cond.static ({ cls := "jdk/internal/util/ArraysSupport", name := "hugeLength", desc := "(II)I" } : MethodName)) ∈ tbl := tbl_mem (i := 561) (by decide +kernel) rfl
theorem wd_562 : (Cond.code ({ cls := "jdk/internal/util/ArraysSupport", name := "hugeLength", desc := "(II)I" } : MethodName) prog_35_method_28_code 3 (some FieldType.int)) ∈ tbl := tbl_mem (i := 562) (by decide +kernel) rfl
theorem wd_563 : (Cond.methodLink "java/util/ArrayList" 66 ({ cls := "java/util/Arrays", name := "copyOf", desc := "([Ljava/lang/Object;I)[Ljava/lang/Object;" } : MethodName)) ∈ tbl := tbl_mem (i := 563) (by decide +kernel) rfl
theorem wd_564 : (Cond.static ({ cls := "java/util/Arrays", name := "copyOf", desc := "([Ljava/lang/Object;I)[Ljava/lang/Object;" } : MethodName)) ∈ tbl := tbl_mem (i := 564) (by decide +kernel) rfl
theorem wd_565 : (Cond.code ({ cls := "java/util/Arrays", name := "copyOf", desc := "([Ljava/lang/Object;I)[Ljava/lang/Object;" } : MethodName) prog_28_method_119_code 2 (some (FieldType.array (FieldType.object "java/lang/Object")))) ∈ tbl := tbl_mem (i := 565) (by decide +kernel) rfl
theorem wd_566 : (Cond.methodLink "java/util/Arrays" 86 ({ cls := "java/lang/Object", name := "getClass", desc := "()Ljava/lang/Class;" } : MethodName)) ∈ tbl := tbl_mem (i := 566) (by decide +kernel) rfl
theorem wd_567 : (Cond.instanceMethod ({ cls := "java/lang/Object", name := "getClass", desc := "()Ljava/lang/Class;" } : MethodName)) ∈ tbl := tbl_mem (i := 567) (by decide +kernel) rfl
theorem wd_568 : (Cond.sameMethod "java/lang/Object" "java/lang/Object" "getClass" "()Ljava/lang/Class;") ∈ tbl := tbl_mem (i := 568) (by decide +kernel) rfl
theorem wd_569 : (Cond.selects "HoldMaps" ({ cls := "java/lang/Object", name := "getClass", desc := "()Ljava/lang/Class;" } : MethodName) ({ cls := "java/lang/Object", name := "getClass", desc := "()Ljava/lang/Class;" } : MethodName)) ∈ tbl := tbl_mem (i := 569) (by decide +kernel) rfl
theorem wd_570 : (Cond.selects "HoldMaps$Entry" ({ cls := "java/lang/Object", name := "getClass", desc := "()Ljava/lang/Class;" } : MethodName) ({ cls := "java/lang/Object", name := "getClass", desc := "()Ljava/lang/Class;" } : MethodName)) ∈ tbl := tbl_mem (i := 570) (by decide +kernel) rfl
theorem wd_571 : (Cond.selects "HoldMaps$Heap" ({ cls := "java/lang/Object", name := "getClass", desc := "()Ljava/lang/Class;" } : MethodName) ({ cls := "java/lang/Object", name := "getClass", desc := "()Ljava/lang/Class;" } : MethodName)) ∈ tbl := tbl_mem (i := 571) (by decide +kernel) rfl
theorem wd_572 : (Cond.selects "HoldMaps$IdentityMap" ({ cls := "java/lang/Object", name := "getClass", desc := "()Ljava/lang/Class;" } : MethodName) ({ cls := "java/lang/Object", name := "getClass", desc := "()Ljava/lang/Class;" } : MethodName)) ∈ tbl := tbl_mem (i := 572) (by decide +kernel) rfl
theorem wd_573 : (Cond.selects "HoldMaps$LatestMap" ({ cls := "java/lang/Object", name := "getClass", desc := "()Ljava/lang/Class;" } : MethodName) ({ cls := "java/lang/Object", name := "getClass", desc := "()Ljava/lang/Class;" } : MethodName)) ∈ tbl := tbl_mem (i := 573) (by decide +kernel) rfl
theorem wd_574 : (Cond.selects "HoldMaps$PlacesMap" ({ cls := "java/lang/Object", name := "getClass", desc := "()Ljava/lang/Class;" } : MethodName) ({ cls := "java/lang/Object", name := "getClass", desc := "()Ljava/lang/Class;" } : MethodName)) ∈ tbl := tbl_mem (i := 574) (by decide +kernel) rfl
theorem wd_575 : (Cond.selects "HoldMaps$SoftMap" ({ cls := "java/lang/Object", name := "getClass", desc := "()Ljava/lang/Class;" } : MethodName) ({ cls := "java/lang/Object", name := "getClass", desc := "()Ljava/lang/Class;" } : MethodName)) ∈ tbl := tbl_mem (i := 575) (by decide +kernel) rfl
theorem wd_576 : (Cond.selects "HoldMaps$Thing" ({ cls := "java/lang/Object", name := "getClass", desc := "()Ljava/lang/Class;" } : MethodName) ({ cls := "java/lang/Object", name := "getClass", desc := "()Ljava/lang/Class;" } : MethodName)) ∈ tbl := tbl_mem (i := 576) (by decide +kernel) rfl
theorem wd_577 : (Cond.selects "HoldMaps$WeakMap" ({ cls := "java/lang/Object", name := "getClass", desc := "()Ljava/lang/Class;" } : MethodName) ({ cls := "java/lang/Object", name := "getClass", desc := "()Ljava/lang/Class;" } : MethodName)) ∈ tbl := tbl_mem (i := 577) (by decide +kernel) rfl
theorem wd_578 : (Cond.selects "HoldMapsModel" ({ cls := "java/lang/Object", name := "getClass", desc := "()Ljava/lang/Class;" } : MethodName) ({ cls := "java/lang/Object", name := "getClass", desc := "()Ljava/lang/Class;" } : MethodName)) ∈ tbl := tbl_mem (i := 578) (by decide +kernel) rfl
theorem wd_579 : (Cond.selects "java/lang/IllegalArgumentException" ({ cls := "java/lang/Object", name := "getClass", desc := "()Ljava/lang/Class;" } : MethodName) ({ cls := "java/lang/Object", name := "getClass", desc := "()Ljava/lang/Class;" } : MethodName)) ∈ tbl := tbl_mem (i := 579) (by decide +kernel) rfl
theorem wd_580 : (Cond.selects "java/lang/IllegalStateException" ({ cls := "java/lang/Object", name := "getClass", desc := "()Ljava/lang/Class;" } : MethodName) ({ cls := "java/lang/Object", name := "getClass", desc := "()Ljava/lang/Class;" } : MethodName)) ∈ tbl := tbl_mem (i := 580) (by decide +kernel) rfl
theorem wd_581 : (Cond.selects "java/util/ArrayList" ({ cls := "java/lang/Object", name := "getClass", desc := "()Ljava/lang/Class;" } : MethodName) ({ cls := "java/lang/Object", name := "getClass", desc := "()Ljava/lang/Class;" } : MethodName)) ∈ tbl := tbl_mem (i := 581) (by decide +kernel) rfl
theorem wd_582 : (Cond.selects "java/util/NoSuchElementException" ({ cls := "java/lang/Object", name := "getClass", desc := "()Ljava/lang/Class;" } : MethodName) ({ cls := "java/lang/Object", name := "getClass", desc := "()Ljava/lang/Class;" } : MethodName)) ∈ tbl := tbl_mem (i := 582) (by decide +kernel) rfl
theorem wd_583 : (Cond.native ({ cls := "java/lang/Object", name := "getClass", desc := "()Ljava/lang/Class;" } : MethodName)) ∈ tbl := tbl_mem (i := 583) (by decide +kernel) rfl
theorem wd_584 : (Cond.methodLink "java/util/Arrays" 300 ({ cls := "java/util/Arrays", name := "copyOf", desc := "([Ljava/lang/Object;ILjava/lang/Class;)[Ljava/lang/Object;" } : MethodName)) ∈ tbl := tbl_mem (i := 584) (by decide +kernel) rfl
theorem wd_585 : (Cond.static ({ cls := "java/util/Arrays", name := "copyOf", desc := "([Ljava/lang/Object;ILjava/lang/Class;)[Ljava/lang/Object;" } : MethodName)) ∈ tbl := tbl_mem (i := 585) (by decide +kernel) rfl
theorem wd_586 : (Cond.code ({ cls := "java/util/Arrays", name := "copyOf", desc := "([Ljava/lang/Object;ILjava/lang/Class;)[Ljava/lang/Object;" } : MethodName) prog_28_method_120_code 4 (some (FieldType.array (FieldType.object "java/lang/Object")))) ∈ tbl := tbl_mem (i := 586) (by decide +kernel) rfl
theorem wd_587 : (Cond.classLink "java/util/Arrays" 110 "[Ljava/lang/Object;") ∈ tbl := tbl_mem (i := 587) (by decide +kernel) rfl
theorem wd_588 : (Cond.arrayOver (FieldType.object "java/lang/Object")) ∈ tbl := tbl_mem (i := 588) (by decide +kernel) rfl
theorem wd_589 : (Cond.classLink "java/util/Arrays" 2 "java/lang/Object") ∈ tbl := tbl_mem (i := 589) (by decide +kernel) rfl
theorem wd_590 : (Cond.methodLink "java/util/Arrays" 304 ({ cls := "java/lang/Math", name := "min", desc := "(II)I" } : MethodName)) ∈ tbl := tbl_mem (i := 590) (by decide +kernel) rfl
theorem wd_591 : (Cond.static ({ cls := "java/lang/Math", name := "min", desc := "(II)I" } : MethodName)) ∈ tbl := tbl_mem (i := 591) (by decide +kernel) rfl
theorem wd_592 : (Cond.code ({ cls := "java/lang/Math", name := "min", desc := "(II)I" } : MethodName) prog_20_method_69_code 2 (some FieldType.int)) ∈ tbl := tbl_mem (i := 592) (by decide +kernel) rfl
theorem wd_593 : (Cond.methodLink "java/util/Arrays" 150 ({ cls := "java/lang/System", name := "arraycopy", desc := "(Ljava/lang/Object;ILjava/lang/Object;II)V" } : MethodName)) ∈ tbl := tbl_mem (i := 593) (by decide +kernel) rfl
theorem wd_594 : (Cond.static ({ cls := "java/lang/System", name := "arraycopy", desc := "(Ljava/lang/Object;ILjava/lang/Object;II)V" } : MethodName)) ∈ tbl := tbl_mem (i := 594) (by decide +kernel) rfl
theorem wd_595 : (Cond.native ({ cls := "java/lang/System", name := "arraycopy", desc := "(Ljava/lang/Object;ILjava/lang/Object;II)V" } : MethodName)) ∈ tbl := tbl_mem (i := 595) (by decide +kernel) rfl
theorem wd_596 : (Cond.methodLink "java/util/ArrayList" 79 ({ cls := "java/lang/Math", name := "max", desc := "(II)I" } : MethodName)) ∈ tbl := tbl_mem (i := 596) (by decide +kernel) rfl
theorem wd_597 : (Cond.classLink "java/util/ArrayList" 7 "java/lang/Object") ∈ tbl := tbl_mem (i := 597) (by decide +kernel) rfl
theorem wd_598 : (Cond.methodLink "HoldMaps$LatestMap" 19 ({ cls := "java/util/ArrayList", name := "size", desc := "()I" } : MethodName)) ∈ tbl := tbl_mem (i := 598) (by decide +kernel) rfl
theorem wd_599 : (Cond.methodLink "HoldMaps$LatestMap" 25 ({ cls := "HoldMaps$LatestMap", name := "dropAt", desc := "(I)V" } : MethodName)) ∈ tbl := tbl_mem (i := 599) (by decide +kernel) rfl
theorem wd_600 : (Cond.sameMethod "HoldMaps$LatestMap" "HoldMaps$Row" "dropAt" "(I)V") ∈ tbl := tbl_mem (i := 600) (by decide +kernel) rfl
theorem wd_601 : (Cond.declares ({ cls := "HoldMaps$Row", name := "dropAt", desc := "(I)V" } : MethodName)) ∈ tbl := tbl_mem (i := 601) (by decide +kernel) rfl
theorem wd_602 : (Cond.selects "HoldMaps$LatestMap" ({ cls := "HoldMaps$LatestMap", name := "dropAt", desc := "(I)V" } : MethodName) ({ cls := "HoldMaps$Row", name := "dropAt", desc := "(I)V" } : MethodName)) ∈ tbl := tbl_mem (i := 602) (by decide +kernel) rfl
theorem wd_603 : (Cond.instanceMethod ({ cls := "HoldMaps$Row", name := "dropAt", desc := "(I)V" } : MethodName)) ∈ tbl := tbl_mem (i := 603) (by decide +kernel) rfl
theorem wd_604 : (Cond.code ({ cls := "HoldMaps$Row", name := "dropAt", desc := "(I)V" } : MethodName) prog_7_method_4_code 2 none) ∈ tbl := tbl_mem (i := 604) (by decide +kernel) rfl
theorem wd_605 : (Cond.methodLink "HoldMaps$Row" 26 ({ cls := "java/util/ArrayList", name := "remove", desc := "(I)Ljava/lang/Object;" } : MethodName)) ∈ tbl := tbl_mem (i := 605) (by decide +kernel) rfl
theorem wd_606 : (Cond.instanceMethod ({ cls := "java/util/ArrayList", name := "remove", desc := "(I)Ljava/lang/Object;" } : MethodName)) ∈ tbl := tbl_mem (i := 606) (by decide +kernel) rfl
theorem wd_607 : (Cond.selects "java/util/ArrayList" ({ cls := "java/util/ArrayList", name := "remove", desc := "(I)Ljava/lang/Object;" } : MethodName) ({ cls := "java/util/ArrayList", name := "remove", desc := "(I)Ljava/lang/Object;" } : MethodName)) ∈ tbl := tbl_mem (i := 607) (by decide +kernel) rfl
theorem wd_608 : (Cond.code ({ cls := "java/util/ArrayList", name := "remove", desc := "(I)Ljava/lang/Object;" } : MethodName) prog_27_method_29_code 4 (some (FieldType.object "java/lang/Object"))) ∈ tbl := tbl_mem (i := 608) (by decide +kernel) rfl
theorem wd_609 : (Cond.methodLink "java/util/ArrayList" 144 ({ cls := "java/util/ArrayList", name := "fastRemove", desc := "([Ljava/lang/Object;I)V" } : MethodName)) ∈ tbl := tbl_mem (i := 609) (by decide +kernel) rfl
theorem wd_610 : (Cond.privateMethod ({ cls := "java/util/ArrayList", name := "fastRemove", desc := "([Ljava/lang/Object;I)V" } : MethodName)) ∈ tbl := tbl_mem (i := 610) (by decide +kernel) rfl
theorem wd_611 : (Cond.instanceMethod ({ cls := "java/util/ArrayList", name := "fastRemove", desc := "([Ljava/lang/Object;I)V" } : MethodName)) ∈ tbl := tbl_mem (i := 611) (by decide +kernel) rfl
theorem wd_612 : (Cond.code ({ cls := "java/util/ArrayList", name := "fastRemove", desc := "([Ljava/lang/Object;I)V" } : MethodName) prog_27_method_39_code 4 none) ∈ tbl := tbl_mem (i := 612) (by decide +kernel) rfl
theorem wd_613 : (Cond.methodLink "java/util/ArrayList" 112 ({ cls := "java/lang/System", name := "arraycopy", desc := "(Ljava/lang/Object;ILjava/lang/Object;II)V" } : MethodName)) ∈ tbl := tbl_mem (i := 613) (by decide +kernel) rfl
theorem wd_614 : (Cond.selects "HoldMaps$PlacesMap" ({ cls := "HoldMaps$Table", name := "add", desc := "(LHoldMaps$Entry;)V" } : MethodName) ({ cls := "HoldMaps$PlacesMap", name := "add", desc := "(LHoldMaps$Entry;)V" } : MethodName)) ∈ tbl := tbl_mem (i := 614) (by decide +kernel) rfl
theorem wd_615 : (Cond.instanceMethod ({ cls := "HoldMaps$PlacesMap", name := "add", desc := "(LHoldMaps$Entry;)V" } : MethodName)) ∈ tbl := tbl_mem (i := 615) (by decide +kernel) rfl
theorem wd_616 : (Cond.code ({ cls := "HoldMaps$PlacesMap", name := "add", desc := "(LHoldMaps$Entry;)V" } : MethodName) prog_6_method_2_code 3 none) ∈ tbl := tbl_mem (i := 616) (by decide +kernel) rfl
theorem wd_617 : (Cond.methodLink "HoldMaps$PlacesMap" 15 ({ cls := "java/util/ArrayList", name := "size", desc := "()I" } : MethodName)) ∈ tbl := tbl_mem (i := 617) (by decide +kernel) rfl
theorem wd_618 : (Cond.methodLink "HoldMaps$PlacesMap" 21 ({ cls := "java/util/ArrayList", name := "get", desc := "(I)Ljava/lang/Object;" } : MethodName)) ∈ tbl := tbl_mem (i := 618) (by decide +kernel) rfl
theorem wd_619 : (Cond.classLink "HoldMaps$PlacesMap" 25 "HoldMaps$Entry") ∈ tbl := tbl_mem (i := 619) (by decide +kernel) rfl
theorem wd_620 : (Cond.methodLink "HoldMaps$PlacesMap" 31 ({ cls := "java/util/ArrayList", name := "add", desc := "(ILjava/lang/Object;)V" } : MethodName)) ∈ tbl := tbl_mem (i := 620) (by decide +kernel) rfl
theorem wd_621 : (Cond.instanceMethod ({ cls := "java/util/ArrayList", name := "add", desc := "(ILjava/lang/Object;)V" } : MethodName)) ∈ tbl := tbl_mem (i := 621) (by decide +kernel) rfl
theorem wd_622 : (Cond.selects "java/util/ArrayList" ({ cls := "java/util/ArrayList", name := "add", desc := "(ILjava/lang/Object;)V" } : MethodName) ({ cls := "java/util/ArrayList", name := "add", desc := "(ILjava/lang/Object;)V" } : MethodName)) ∈ tbl := tbl_mem (i := 622) (by decide +kernel) rfl
theorem wd_623 : (Cond.code ({ cls := "java/util/ArrayList", name := "add", desc := "(ILjava/lang/Object;)V" } : MethodName) prog_27_method_26_code 5 none) ∈ tbl := tbl_mem (i := 623) (by decide +kernel) rfl
theorem wd_624 : (Cond.methodLink "java/util/ArrayList" 135 ({ cls := "java/util/ArrayList", name := "rangeCheckForAdd", desc := "(I)V" } : MethodName)) ∈ tbl := tbl_mem (i := 624) (by decide +kernel) rfl
theorem wd_625 : (Cond.privateMethod ({ cls := "java/util/ArrayList", name := "rangeCheckForAdd", desc := "(I)V" } : MethodName)) ∈ tbl := tbl_mem (i := 625) (by decide +kernel) rfl
theorem wd_626 : (Cond.instanceMethod ({ cls := "java/util/ArrayList", name := "rangeCheckForAdd", desc := "(I)V" } : MethodName)) ∈ tbl := tbl_mem (i := 626) (by decide +kernel) rfl
theorem wd_627 : (Cond.code ({ cls := "java/util/ArrayList", name := "rangeCheckForAdd", desc := "(I)V" } : MethodName) prog_27_method_45_code 2 none) ∈ tbl := tbl_mem (i := 627) (by decide +kernel) rfl
theorem wd_628 : (Cond.selects "HoldMaps$SoftMap" ({ cls := "HoldMaps$Table", name := "add", desc := "(LHoldMaps$Entry;)V" } : MethodName) ({ cls := "HoldMaps$SoftMap", name := "add", desc := "(LHoldMaps$Entry;)V" } : MethodName)) ∈ tbl := tbl_mem (i := 628) (by decide +kernel) rfl
theorem wd_629 : (Cond.instanceMethod ({ cls := "HoldMaps$SoftMap", name := "add", desc := "(LHoldMaps$Entry;)V" } : MethodName)) ∈ tbl := tbl_mem (i := 629) (by decide +kernel) rfl
theorem wd_630 : (Cond.code ({ cls := "HoldMaps$SoftMap", name := "add", desc := "(LHoldMaps$Entry;)V" } : MethodName) prog_8_method_2_code 2 none) ∈ tbl := tbl_mem (i := 630) (by decide +kernel) rfl
theorem wd_631 : (Cond.methodLink "HoldMaps$SoftMap" 20 ({ cls := "HoldMaps$SoftMap", name := "append", desc := "(LHoldMaps$Entry;)V" } : MethodName)) ∈ tbl := tbl_mem (i := 631) (by decide +kernel) rfl
theorem wd_632 : (Cond.sameMethod "HoldMaps$SoftMap" "HoldMaps$Row" "append" "(LHoldMaps$Entry;)V") ∈ tbl := tbl_mem (i := 632) (by decide +kernel) rfl
theorem wd_633 : (Cond.selects "HoldMaps$SoftMap" ({ cls := "HoldMaps$SoftMap", name := "append", desc := "(LHoldMaps$Entry;)V" } : MethodName) ({ cls := "HoldMaps$Row", name := "append", desc := "(LHoldMaps$Entry;)V" } : MethodName)) ∈ tbl := tbl_mem (i := 633) (by decide +kernel) rfl
theorem wd_634 : (Cond.selects "HoldMaps$WeakMap" ({ cls := "HoldMaps$Table", name := "add", desc := "(LHoldMaps$Entry;)V" } : MethodName) ({ cls := "HoldMaps$WeakMap", name := "add", desc := "(LHoldMaps$Entry;)V" } : MethodName)) ∈ tbl := tbl_mem (i := 634) (by decide +kernel) rfl
theorem wd_635 : (Cond.instanceMethod ({ cls := "HoldMaps$WeakMap", name := "add", desc := "(LHoldMaps$Entry;)V" } : MethodName)) ∈ tbl := tbl_mem (i := 635) (by decide +kernel) rfl
theorem wd_636 : (Cond.code ({ cls := "HoldMaps$WeakMap", name := "add", desc := "(LHoldMaps$Entry;)V" } : MethodName) prog_11_method_2_code 2 none) ∈ tbl := tbl_mem (i := 636) (by decide +kernel) rfl
theorem wd_637 : (Cond.methodLink "HoldMaps$WeakMap" 22 ({ cls := "HoldMaps$WeakMap", name := "addToBucket", desc := "(LHoldMaps$Entry;)V" } : MethodName)) ∈ tbl := tbl_mem (i := 637) (by decide +kernel) rfl
theorem wd_638 : (Cond.privateMethod ({ cls := "HoldMaps$WeakMap", name := "addToBucket", desc := "(LHoldMaps$Entry;)V" } : MethodName)) ∈ tbl := tbl_mem (i := 638) (by decide +kernel) rfl
theorem wd_639 : (Cond.instanceMethod ({ cls := "HoldMaps$WeakMap", name := "addToBucket", desc := "(LHoldMaps$Entry;)V" } : MethodName)) ∈ tbl := tbl_mem (i := 639) (by decide +kernel) rfl
theorem wd_640 : (Cond.code ({ cls := "HoldMaps$WeakMap", name := "addToBucket", desc := "(LHoldMaps$Entry;)V" } : MethodName) prog_11_method_3_code 4 none) ∈ tbl := tbl_mem (i := 640) (by decide +kernel) rfl
theorem wd_641 : (Cond.methodLink "HoldMaps$WeakMap" 40 ({ cls := "HoldMaps$WeakMap", name := "bucketOf", desc := "(LHoldMaps$Entry;)I" } : MethodName)) ∈ tbl := tbl_mem (i := 641) (by decide +kernel) rfl
theorem wd_642 : (Cond.privateMethod ({ cls := "HoldMaps$WeakMap", name := "bucketOf", desc := "(LHoldMaps$Entry;)I" } : MethodName)) ∈ tbl := tbl_mem (i := 642) (by decide +kernel) rfl
theorem wd_643 : (Cond.instanceMethod ({ cls := "HoldMaps$WeakMap", name := "bucketOf", desc := "(LHoldMaps$Entry;)I" } : MethodName)) ∈ tbl := tbl_mem (i := 643) (by decide +kernel) rfl
theorem wd_644 : (Cond.code ({ cls := "HoldMaps$WeakMap", name := "bucketOf", desc := "(LHoldMaps$Entry;)I" } : MethodName) prog_11_method_4_code 3 (some FieldType.int)) ∈ tbl := tbl_mem (i := 644) (by decide +kernel) rfl
theorem wd_645 : (Cond.methodLink "HoldMaps$WeakMap" 33 ({ cls := "java/util/ArrayList", name := "size", desc := "()I" } : MethodName)) ∈ tbl := tbl_mem (i := 645) (by decide +kernel) rfl
theorem wd_646 : (Cond.methodLink "HoldMaps$WeakMap" 44 ({ cls := "java/util/ArrayList", name := "get", desc := "(I)Ljava/lang/Object;" } : MethodName)) ∈ tbl := tbl_mem (i := 646) (by decide +kernel) rfl
theorem wd_647 : (Cond.classLink "HoldMaps$WeakMap" 48 "HoldMaps$Entry") ∈ tbl := tbl_mem (i := 647) (by decide +kernel) rfl
theorem wd_648 : (Cond.methodLink "HoldMaps$WeakMap" 50 ({ cls := "java/util/ArrayList", name := "add", desc := "(ILjava/lang/Object;)V" } : MethodName)) ∈ tbl := tbl_mem (i := 648) (by decide +kernel) rfl
theorem wd_649 : (Cond.methodLink "HoldMaps$WeakMap" 37 ({ cls := "HoldMaps$WeakMap", name := "doubleBuckets", desc := "()V" } : MethodName)) ∈ tbl := tbl_mem (i := 649) (by decide +kernel) rfl
theorem wd_650 : (Cond.privateMethod ({ cls := "HoldMaps$WeakMap", name := "doubleBuckets", desc := "()V" } : MethodName)) ∈ tbl := tbl_mem (i := 650) (by decide +kernel) rfl
theorem wd_651 : (Cond.instanceMethod ({ cls := "HoldMaps$WeakMap", name := "doubleBuckets", desc := "()V" } : MethodName)) ∈ tbl := tbl_mem (i := 651) (by decide +kernel) rfl
theorem wd_652 : (Cond.code ({ cls := "HoldMaps$WeakMap", name := "doubleBuckets", desc := "()V" } : MethodName) prog_11_method_5_code 2 none) ∈ tbl := tbl_mem (i := 652) (by decide +kernel) rfl
theorem wd_653 : (Cond.methodLink "HoldMaps$WeakMap" 57 ({ cls := "java/util/ArrayList", name := "clear", desc := "()V" } : MethodName)) ∈ tbl := tbl_mem (i := 653) (by decide +kernel) rfl
theorem wd_654 : (Cond.instanceMethod ({ cls := "java/util/ArrayList", name := "clear", desc := "()V" } : MethodName)) ∈ tbl := tbl_mem (i := 654) (by decide +kernel) rfl
theorem wd_655 : (Cond.selects "java/util/ArrayList" ({ cls := "java/util/ArrayList", name := "clear", desc := "()V" } : MethodName) ({ cls := "java/util/ArrayList", name := "clear", desc := "()V" } : MethodName)) ∈ tbl := tbl_mem (i := 655) (by decide +kernel) rfl
theorem wd_656 : (Cond.code ({ cls := "java/util/ArrayList", name := "clear", desc := "()V" } : MethodName) prog_27_method_40_code 4 none) ∈ tbl := tbl_mem (i := 656) (by decide +kernel) rfl
theorem wd_657 : (Cond.methodLink "HoldMaps$WeakMap" 60 ({ cls := "java/util/ArrayList", name := "add", desc := "(Ljava/lang/Object;)Z" } : MethodName)) ∈ tbl := tbl_mem (i := 657) (by decide +kernel) rfl
theorem wd_658 : (Cond.methodLink "HoldMaps" 132 ({ cls := "HoldMaps$Table", name := "use", desc := "(I)V" } : MethodName)) ∈ tbl := tbl_mem (i := 658) (by decide +kernel) rfl
theorem wd_659 : (Cond.instanceMethod ({ cls := "HoldMaps$Table", name := "use", desc := "(I)V" } : MethodName)) ∈ tbl := tbl_mem (i := 659) (by decide +kernel) rfl
theorem wd_660 : (Cond.sameMethod "HoldMaps$Table" "HoldMaps$Table" "use" "(I)V") ∈ tbl := tbl_mem (i := 660) (by decide +kernel) rfl
theorem wd_661 : (Cond.selects "HoldMaps$IdentityMap" ({ cls := "HoldMaps$Table", name := "use", desc := "(I)V" } : MethodName) ({ cls := "HoldMaps$Table", name := "use", desc := "(I)V" } : MethodName)) ∈ tbl := tbl_mem (i := 661) (by decide +kernel) rfl
theorem wd_662 : (Cond.selects "HoldMaps$LatestMap" ({ cls := "HoldMaps$Table", name := "use", desc := "(I)V" } : MethodName) ({ cls := "HoldMaps$LatestMap", name := "use", desc := "(I)V" } : MethodName)) ∈ tbl := tbl_mem (i := 662) (by decide +kernel) rfl
theorem wd_663 : (Cond.instanceMethod ({ cls := "HoldMaps$LatestMap", name := "use", desc := "(I)V" } : MethodName)) ∈ tbl := tbl_mem (i := 663) (by decide +kernel) rfl
theorem wd_664 : (Cond.code ({ cls := "HoldMaps$LatestMap", name := "use", desc := "(I)V" } : MethodName) prog_5_method_3_code 3 none) ∈ tbl := tbl_mem (i := 664) (by decide +kernel) rfl
theorem wd_665 : (Cond.methodLink "HoldMaps$LatestMap" 29 ({ cls := "java/util/ArrayList", name := "get", desc := "(I)Ljava/lang/Object;" } : MethodName)) ∈ tbl := tbl_mem (i := 665) (by decide +kernel) rfl
theorem wd_666 : (Cond.classLink "HoldMaps$LatestMap" 33 "HoldMaps$Entry") ∈ tbl := tbl_mem (i := 666) (by decide +kernel) rfl
theorem wd_667 : (Cond.selects "HoldMaps$PlacesMap" ({ cls := "HoldMaps$Table", name := "use", desc := "(I)V" } : MethodName) ({ cls := "HoldMaps$Table", name := "use", desc := "(I)V" } : MethodName)) ∈ tbl := tbl_mem (i := 667) (by decide +kernel) rfl
theorem wd_668 : (Cond.selects "HoldMaps$SoftMap" ({ cls := "HoldMaps$Table", name := "use", desc := "(I)V" } : MethodName) ({ cls := "HoldMaps$SoftMap", name := "use", desc := "(I)V" } : MethodName)) ∈ tbl := tbl_mem (i := 668) (by decide +kernel) rfl
theorem wd_669 : (Cond.instanceMethod ({ cls := "HoldMaps$SoftMap", name := "use", desc := "(I)V" } : MethodName)) ∈ tbl := tbl_mem (i := 669) (by decide +kernel) rfl
theorem wd_670 : (Cond.code ({ cls := "HoldMaps$SoftMap", name := "use", desc := "(I)V" } : MethodName) prog_8_method_4_code 3 none) ∈ tbl := tbl_mem (i := 670) (by decide +kernel) rfl
theorem wd_671 : (Cond.methodLink "HoldMaps$SoftMap" 24 ({ cls := "HoldMaps$SoftMap", name := "entryAt", desc := "(I)LHoldMaps$Entry;" } : MethodName)) ∈ tbl := tbl_mem (i := 671) (by decide +kernel) rfl
theorem wd_672 : (Cond.sameMethod "HoldMaps$SoftMap" "HoldMaps$Row" "entryAt" "(I)LHoldMaps$Entry;") ∈ tbl := tbl_mem (i := 672) (by decide +kernel) rfl
theorem wd_673 : (Cond.declares ({ cls := "HoldMaps$Row", name := "entryAt", desc := "(I)LHoldMaps$Entry;" } : MethodName)) ∈ tbl := tbl_mem (i := 673) (by decide +kernel) rfl
theorem wd_674 : (Cond.selects "HoldMaps$SoftMap" ({ cls := "HoldMaps$SoftMap", name := "entryAt", desc := "(I)LHoldMaps$Entry;" } : MethodName) ({ cls := "HoldMaps$Row", name := "entryAt", desc := "(I)LHoldMaps$Entry;" } : MethodName)) ∈ tbl := tbl_mem (i := 674) (by decide +kernel) rfl
theorem wd_675 : (Cond.selects "HoldMaps$WeakMap" ({ cls := "HoldMaps$Table", name := "use", desc := "(I)V" } : MethodName) ({ cls := "HoldMaps$Table", name := "use", desc := "(I)V" } : MethodName)) ∈ tbl := tbl_mem (i := 675) (by decide +kernel) rfl
theorem wd_676 : (Cond.code ({ cls := "HoldMaps$Table", name := "use", desc := "(I)V" } : MethodName) prog_9_method_14_code 2 none) ∈ tbl := tbl_mem (i := 676) (by decide +kernel) rfl
theorem wd_677 : (Cond.methodLink "HoldMapsLaw" 75 ({ cls := "HoldMapsLaw", name := "get", desc := "(LHoldMaps;II[J)I" } : MethodName)) ∈ tbl := tbl_mem (i := 677) (by decide +kernel) rfl
theorem wd_678 : (Cond.static ({ cls := "HoldMapsLaw", name := "get", desc := "(LHoldMaps;II[J)I" } : MethodName)) ∈ tbl := tbl_mem (i := 678) (by decide +kernel) rfl
theorem wd_679 : (Cond.codeWith ({ cls := "HoldMapsLaw", name := "get", desc := "(LHoldMaps;II[J)I" } : MethodName) method_7_code 5 (some FieldType.int) [(0, 10, 13, 13)]) ∈ tbl := tbl_mem (i := 679) (by decide +kernel) rfl
theorem wd_680 : (Cond.methodLink "HoldMapsLaw" 28 ({ cls := "HoldMaps", name := "get", desc := "(II)I" } : MethodName)) ∈ tbl := tbl_mem (i := 680) (by decide +kernel) rfl
theorem wd_681 : (Cond.instanceMethod ({ cls := "HoldMaps", name := "get", desc := "(II)I" } : MethodName)) ∈ tbl := tbl_mem (i := 681) (by decide +kernel) rfl
theorem wd_682 : (Cond.selects "HoldMaps" ({ cls := "HoldMaps", name := "get", desc := "(II)I" } : MethodName) ({ cls := "HoldMaps", name := "get", desc := "(II)I" } : MethodName)) ∈ tbl := tbl_mem (i := 682) (by decide +kernel) rfl
theorem wd_683 : (Cond.code ({ cls := "HoldMaps", name := "get", desc := "(II)I" } : MethodName) prog_1_method_6_code 6 (some FieldType.int)) ∈ tbl := tbl_mem (i := 683) (by decide +kernel) rfl
theorem wd_684 : (Cond.stringRef "HoldMaps" 135 "no such map or key") ∈ lw_tbl := lw_mem (i := 684) (by decide +kernel)
theorem wd_685 : (Cond.methodLink "HoldMaps" 137 ({ cls := "HoldMaps$Table", name := "valueAt", desc := "(I)I" } : MethodName)) ∈ tbl := tbl_mem (i := 685) (by decide +kernel) rfl
theorem wd_686 : (Cond.instanceMethod ({ cls := "HoldMaps$Table", name := "valueAt", desc := "(I)I" } : MethodName)) ∈ tbl := tbl_mem (i := 686) (by decide +kernel) rfl
theorem wd_687 : (Cond.sameMethod "HoldMaps$Table" "HoldMaps$Table" "valueAt" "(I)I") ∈ tbl := tbl_mem (i := 687) (by decide +kernel) rfl
theorem wd_688 : (Cond.selects "HoldMaps$IdentityMap" ({ cls := "HoldMaps$Table", name := "valueAt", desc := "(I)I" } : MethodName) ({ cls := "HoldMaps$Table", name := "valueAt", desc := "(I)I" } : MethodName)) ∈ tbl := tbl_mem (i := 688) (by decide +kernel) rfl
theorem wd_689 : (Cond.selects "HoldMaps$LatestMap" ({ cls := "HoldMaps$Table", name := "valueAt", desc := "(I)I" } : MethodName) ({ cls := "HoldMaps$Table", name := "valueAt", desc := "(I)I" } : MethodName)) ∈ tbl := tbl_mem (i := 689) (by decide +kernel) rfl
theorem wd_690 : (Cond.selects "HoldMaps$PlacesMap" ({ cls := "HoldMaps$Table", name := "valueAt", desc := "(I)I" } : MethodName) ({ cls := "HoldMaps$Table", name := "valueAt", desc := "(I)I" } : MethodName)) ∈ tbl := tbl_mem (i := 690) (by decide +kernel) rfl
theorem wd_691 : (Cond.selects "HoldMaps$SoftMap" ({ cls := "HoldMaps$Table", name := "valueAt", desc := "(I)I" } : MethodName) ({ cls := "HoldMaps$Table", name := "valueAt", desc := "(I)I" } : MethodName)) ∈ tbl := tbl_mem (i := 691) (by decide +kernel) rfl
theorem wd_692 : (Cond.selects "HoldMaps$WeakMap" ({ cls := "HoldMaps$Table", name := "valueAt", desc := "(I)I" } : MethodName) ({ cls := "HoldMaps$Table", name := "valueAt", desc := "(I)I" } : MethodName)) ∈ tbl := tbl_mem (i := 692) (by decide +kernel) rfl
theorem wd_693 : (Cond.code ({ cls := "HoldMaps$Table", name := "valueAt", desc := "(I)I" } : MethodName) prog_9_method_7_code 3 (some FieldType.int)) ∈ tbl := tbl_mem (i := 693) (by decide +kernel) rfl
theorem wd_694 : (Cond.methodLink "HoldMapsLaw" 79 ({ cls := "HoldMapsLaw", name := "remove", desc := "(LHoldMaps;II[J)I" } : MethodName)) ∈ tbl := tbl_mem (i := 694) (by decide +kernel) rfl
theorem wd_695 : (Cond.static ({ cls := "HoldMapsLaw", name := "remove", desc := "(LHoldMaps;II[J)I" } : MethodName)) ∈ tbl := tbl_mem (i := 695) (by decide +kernel) rfl
theorem wd_696 : (Cond.codeWith ({ cls := "HoldMapsLaw", name := "remove", desc := "(LHoldMaps;II[J)I" } : MethodName) method_8_code 5 (some FieldType.int) [(0, 10, 13, 13)]) ∈ tbl := tbl_mem (i := 696) (by decide +kernel) rfl
theorem wd_697 : (Cond.methodLink "HoldMapsLaw" 32 ({ cls := "HoldMaps", name := "remove", desc := "(II)I" } : MethodName)) ∈ tbl := tbl_mem (i := 697) (by decide +kernel) rfl
theorem wd_698 : (Cond.instanceMethod ({ cls := "HoldMaps", name := "remove", desc := "(II)I" } : MethodName)) ∈ tbl := tbl_mem (i := 698) (by decide +kernel) rfl
theorem wd_699 : (Cond.selects "HoldMaps" ({ cls := "HoldMaps", name := "remove", desc := "(II)I" } : MethodName) ({ cls := "HoldMaps", name := "remove", desc := "(II)I" } : MethodName)) ∈ tbl := tbl_mem (i := 699) (by decide +kernel) rfl
theorem wd_700 : (Cond.code ({ cls := "HoldMaps", name := "remove", desc := "(II)I" } : MethodName) prog_1_method_7_code 6 (some FieldType.int)) ∈ tbl := tbl_mem (i := 700) (by decide +kernel) rfl
theorem wd_701 : (Cond.methodLink "HoldMaps" 140 ({ cls := "HoldMaps$Table", name := "dropAt", desc := "(I)V" } : MethodName)) ∈ tbl := tbl_mem (i := 701) (by decide +kernel) rfl
theorem wd_702 : (Cond.declares ({ cls := "HoldMaps$Table", name := "dropAt", desc := "(I)V" } : MethodName)) ∈ tbl := tbl_mem (i := 702) (by decide +kernel) rfl
theorem wd_703 : (Cond.sameMethod "HoldMaps$Table" "HoldMaps$Table" "dropAt" "(I)V") ∈ tbl := tbl_mem (i := 703) (by decide +kernel) rfl
theorem wd_704 : (Cond.selects "HoldMaps$IdentityMap" ({ cls := "HoldMaps$Table", name := "dropAt", desc := "(I)V" } : MethodName) ({ cls := "HoldMaps$IdentityMap", name := "dropAt", desc := "(I)V" } : MethodName)) ∈ tbl := tbl_mem (i := 704) (by decide +kernel) rfl
theorem wd_705 : (Cond.instanceMethod ({ cls := "HoldMaps$IdentityMap", name := "dropAt", desc := "(I)V" } : MethodName)) ∈ tbl := tbl_mem (i := 705) (by decide +kernel) rfl
theorem wd_706 : (Cond.code ({ cls := "HoldMaps$IdentityMap", name := "dropAt", desc := "(I)V" } : MethodName) prog_4_method_5_code 3 none) ∈ tbl := tbl_mem (i := 706) (by decide +kernel) rfl
theorem wd_707 : (Cond.methodLink "HoldMaps$IdentityMap" 33 ({ cls := "HoldMaps$IdentityMap", name := "closeUp", desc := "(I)V" } : MethodName)) ∈ tbl := tbl_mem (i := 707) (by decide +kernel) rfl
theorem wd_708 : (Cond.privateMethod ({ cls := "HoldMaps$IdentityMap", name := "closeUp", desc := "(I)V" } : MethodName)) ∈ tbl := tbl_mem (i := 708) (by decide +kernel) rfl
theorem wd_709 : (Cond.instanceMethod ({ cls := "HoldMaps$IdentityMap", name := "closeUp", desc := "(I)V" } : MethodName)) ∈ tbl := tbl_mem (i := 709) (by decide +kernel) rfl
theorem wd_710 : (Cond.code ({ cls := "HoldMaps$IdentityMap", name := "closeUp", desc := "(I)V" } : MethodName) prog_4_method_10_code 6 none) ∈ tbl := tbl_mem (i := 710) (by decide +kernel) rfl
theorem wd_711 : (Cond.methodLink "HoldMaps$IdentityMap" 40 ({ cls := "HoldMaps$IdentityMap", name := "liesBehind", desc := "(III)Z" } : MethodName)) ∈ tbl := tbl_mem (i := 711) (by decide +kernel) rfl
theorem wd_712 : (Cond.static ({ cls := "HoldMaps$IdentityMap", name := "liesBehind", desc := "(III)Z" } : MethodName)) ∈ tbl := tbl_mem (i := 712) (by decide +kernel) rfl
theorem wd_713 : (Cond.code ({ cls := "HoldMaps$IdentityMap", name := "liesBehind", desc := "(III)Z" } : MethodName) prog_4_method_11_code 4 (some FieldType.boolean)) ∈ tbl := tbl_mem (i := 713) (by decide +kernel) rfl
theorem wd_714 : (Cond.methodLink "HoldMaps$IdentityMap" 44 ({ cls := "java/lang/Math", name := "floorMod", desc := "(II)I" } : MethodName)) ∈ tbl := tbl_mem (i := 714) (by decide +kernel) rfl
theorem wd_715 : (Cond.static ({ cls := "java/lang/Math", name := "floorMod", desc := "(II)I" } : MethodName)) ∈ tbl := tbl_mem (i := 715) (by decide +kernel) rfl
theorem wd_716 : (Cond.code ({ cls := "java/lang/Math", name := "floorMod", desc := "(II)I" } : MethodName) prog_20_method_50_code 3 (some FieldType.int)) ∈ tbl := tbl_mem (i := 716) (by decide +kernel) rfl
theorem wd_717 : (Cond.selects "HoldMaps$LatestMap" ({ cls := "HoldMaps$Table", name := "dropAt", desc := "(I)V" } : MethodName) ({ cls := "HoldMaps$Row", name := "dropAt", desc := "(I)V" } : MethodName)) ∈ tbl := tbl_mem (i := 717) (by decide +kernel) rfl
theorem wd_718 : (Cond.selects "HoldMaps$PlacesMap" ({ cls := "HoldMaps$Table", name := "dropAt", desc := "(I)V" } : MethodName) ({ cls := "HoldMaps$Row", name := "dropAt", desc := "(I)V" } : MethodName)) ∈ tbl := tbl_mem (i := 718) (by decide +kernel) rfl
theorem wd_719 : (Cond.selects "HoldMaps$SoftMap" ({ cls := "HoldMaps$Table", name := "dropAt", desc := "(I)V" } : MethodName) ({ cls := "HoldMaps$Row", name := "dropAt", desc := "(I)V" } : MethodName)) ∈ tbl := tbl_mem (i := 719) (by decide +kernel) rfl
theorem wd_720 : (Cond.selects "HoldMaps$WeakMap" ({ cls := "HoldMaps$Table", name := "dropAt", desc := "(I)V" } : MethodName) ({ cls := "HoldMaps$Row", name := "dropAt", desc := "(I)V" } : MethodName)) ∈ tbl := tbl_mem (i := 720) (by decide +kernel) rfl
theorem wd_721 : (Cond.methodLink "HoldMapsLaw" 86 ({ cls := "HoldMapsLaw", name := "entry", desc := "(LHoldMaps;III[J)I" } : MethodName)) ∈ tbl := tbl_mem (i := 721) (by decide +kernel) rfl
theorem wd_722 : (Cond.static ({ cls := "HoldMapsLaw", name := "entry", desc := "(LHoldMaps;III[J)I" } : MethodName)) ∈ tbl := tbl_mem (i := 722) (by decide +kernel) rfl
theorem wd_723 : (Cond.codeWith ({ cls := "HoldMapsLaw", name := "entry", desc := "(LHoldMaps;III[J)I" } : MethodName) method_9_code 6 (some FieldType.int) [(0, 12, 15, 38)]) ∈ tbl := tbl_mem (i := 723) (by decide +kernel) rfl
theorem wd_724 : (Cond.classLink "HoldMapsLaw" 38 "java/util/NoSuchElementException") ∈ tbl := tbl_mem (i := 724) (by decide +kernel) rfl
theorem wd_725 : (Cond.methodLink "HoldMapsLaw" 35 ({ cls := "HoldMaps", name := "entry", desc := "(III)I" } : MethodName)) ∈ tbl := tbl_mem (i := 725) (by decide +kernel) rfl
theorem wd_726 : (Cond.instanceMethod ({ cls := "HoldMaps", name := "entry", desc := "(III)I" } : MethodName)) ∈ tbl := tbl_mem (i := 726) (by decide +kernel) rfl
theorem wd_727 : (Cond.selects "HoldMaps" ({ cls := "HoldMaps", name := "entry", desc := "(III)I" } : MethodName) ({ cls := "HoldMaps", name := "entry", desc := "(III)I" } : MethodName)) ∈ tbl := tbl_mem (i := 727) (by decide +kernel) rfl
theorem wd_728 : (Cond.code ({ cls := "HoldMaps", name := "entry", desc := "(III)I" } : MethodName) prog_1_method_9_code 5 (some FieldType.int)) ∈ tbl := tbl_mem (i := 728) (by decide +kernel) rfl
theorem wd_729 : (Cond.classLink "HoldMaps" 149 "java/util/NoSuchElementException") ∈ tbl := tbl_mem (i := 729) (by decide +kernel) rfl
theorem wd_730 : (Cond.instantiable "java/util/NoSuchElementException" 6) ∈ tbl := tbl_mem (i := 730) (by decide +kernel) rfl
theorem wd_731 : (Cond.castable "java/util/NoSuchElementException" "java/util/NoSuchElementException") ∈ tbl := tbl_mem (i := 731) (by decide +kernel) rfl
theorem wd_732 : (Cond.selects "java/util/NoSuchElementException" ({ cls := "java/lang/Throwable", name := "fillInStackTrace", desc := "(I)Ljava/lang/Throwable;" } : MethodName) ({ cls := "java/lang/Throwable", name := "fillInStackTrace", desc := "(I)Ljava/lang/Throwable;" } : MethodName)) ∈ tbl := tbl_mem (i := 732) (by decide +kernel) rfl
theorem wd_733 : (Cond.lays "java/util/NoSuchElementException" "java/lang/Throwable" "cause" "Ljava/lang/Throwable;") ∈ tbl := tbl_mem (i := 733) (by decide +kernel) rfl
theorem wd_734 : (Cond.lays "java/util/NoSuchElementException" "java/lang/Throwable" "stackTrace" "[Ljava/lang/StackTraceElement;") ∈ tbl := tbl_mem (i := 734) (by decide +kernel) rfl
theorem wd_735 : (Cond.lays "java/util/NoSuchElementException" "java/lang/Throwable" "suppressedExceptions" "Ljava/util/List;") ∈ tbl := tbl_mem (i := 735) (by decide +kernel) rfl
theorem wd_736 : (Cond.lays "java/util/NoSuchElementException" "java/lang/Throwable" "detailMessage" "Ljava/lang/String;") ∈ tbl := tbl_mem (i := 736) (by decide +kernel) rfl
theorem wd_737 : (Cond.lays "java/util/NoSuchElementException" "java/lang/Throwable" "backtrace" "Ljava/lang/Object;") ∈ tbl := tbl_mem (i := 737) (by decide +kernel) rfl
theorem wd_738 : (Cond.stringRef "HoldMaps" 151 "no such map or part of an entry") ∈ lw_tbl := lw_mem (i := 738) (by decide +kernel)
theorem wd_739 : (Cond.methodLink "HoldMaps" 153 ({ cls := "java/util/NoSuchElementException", name := "<init>", desc := "(Ljava/lang/String;)V" } : MethodName)) ∈ tbl := tbl_mem (i := 739) (by decide +kernel) rfl
theorem wd_740 : (Cond.instanceMethod ({ cls := "java/util/NoSuchElementException", name := "<init>", desc := "(Ljava/lang/String;)V" } : MethodName)) ∈ tbl := tbl_mem (i := 740) (by decide +kernel) rfl
theorem wd_741 : (Cond.code ({ cls := "java/util/NoSuchElementException", name := "<init>", desc := "(Ljava/lang/String;)V" } : MethodName) prog_31_method_4_code 2 none) ∈ tbl := tbl_mem (i := 741) (by decide +kernel) rfl
theorem wd_742 : (Cond.methodLink "java/util/NoSuchElementException" 13 ({ cls := "java/lang/RuntimeException", name := "<init>", desc := "(Ljava/lang/String;)V" } : MethodName)) ∈ tbl := tbl_mem (i := 742) (by decide +kernel) rfl
theorem wd_743 : (Cond.lays "java/util/NoSuchElementException" "java/lang/Throwable" "depth" "I") ∈ tbl := tbl_mem (i := 743) (by decide +kernel) rfl
theorem wd_744 : (Cond.superclass "java/util/NoSuchElementException" "java/lang/RuntimeException") ∈ tbl := tbl_mem (i := 744) (by decide +kernel) rfl
theorem wd_745 : (Cond.methodLink "HoldMaps" 154 ({ cls := "HoldMaps$Table", name := "keyAt", desc := "(I)I" } : MethodName)) ∈ tbl := tbl_mem (i := 745) (by decide +kernel) rfl
theorem wd_746 : (Cond.instanceMethod ({ cls := "HoldMaps$Table", name := "keyAt", desc := "(I)I" } : MethodName)) ∈ tbl := tbl_mem (i := 746) (by decide +kernel) rfl
theorem wd_747 : (Cond.sameMethod "HoldMaps$Table" "HoldMaps$Table" "keyAt" "(I)I") ∈ tbl := tbl_mem (i := 747) (by decide +kernel) rfl
theorem wd_748 : (Cond.selects "HoldMaps$IdentityMap" ({ cls := "HoldMaps$Table", name := "keyAt", desc := "(I)I" } : MethodName) ({ cls := "HoldMaps$Table", name := "keyAt", desc := "(I)I" } : MethodName)) ∈ tbl := tbl_mem (i := 748) (by decide +kernel) rfl
theorem wd_749 : (Cond.selects "HoldMaps$LatestMap" ({ cls := "HoldMaps$Table", name := "keyAt", desc := "(I)I" } : MethodName) ({ cls := "HoldMaps$Table", name := "keyAt", desc := "(I)I" } : MethodName)) ∈ tbl := tbl_mem (i := 749) (by decide +kernel) rfl
theorem wd_750 : (Cond.selects "HoldMaps$PlacesMap" ({ cls := "HoldMaps$Table", name := "keyAt", desc := "(I)I" } : MethodName) ({ cls := "HoldMaps$Table", name := "keyAt", desc := "(I)I" } : MethodName)) ∈ tbl := tbl_mem (i := 750) (by decide +kernel) rfl
theorem wd_751 : (Cond.selects "HoldMaps$SoftMap" ({ cls := "HoldMaps$Table", name := "keyAt", desc := "(I)I" } : MethodName) ({ cls := "HoldMaps$Table", name := "keyAt", desc := "(I)I" } : MethodName)) ∈ tbl := tbl_mem (i := 751) (by decide +kernel) rfl
theorem wd_752 : (Cond.selects "HoldMaps$WeakMap" ({ cls := "HoldMaps$Table", name := "keyAt", desc := "(I)I" } : MethodName) ({ cls := "HoldMaps$Table", name := "keyAt", desc := "(I)I" } : MethodName)) ∈ tbl := tbl_mem (i := 752) (by decide +kernel) rfl
theorem wd_753 : (Cond.code ({ cls := "HoldMaps$Table", name := "keyAt", desc := "(I)I" } : MethodName) prog_9_method_6_code 3 (some FieldType.int)) ∈ tbl := tbl_mem (i := 753) (by decide +kernel) rfl
theorem wd_754 : (Cond.stringRef "HoldMaps" 157 "no such entry") ∈ lw_tbl := lw_mem (i := 754) (by decide +kernel)
theorem wd_755 : (Cond.methodLink "HoldMapsLaw" 89 ({ cls := "HoldMapsLaw", name := "walk", desc := "(LHoldMaps;I)I" } : MethodName)) ∈ tbl := tbl_mem (i := 755) (by decide +kernel) rfl
theorem wd_756 : (Cond.static ({ cls := "HoldMapsLaw", name := "walk", desc := "(LHoldMaps;I)I" } : MethodName)) ∈ tbl := tbl_mem (i := 756) (by decide +kernel) rfl
theorem wd_757 : (Cond.codeWith ({ cls := "HoldMapsLaw", name := "walk", desc := "(LHoldMaps;I)I" } : MethodName) method_10_code 3 (some FieldType.int) [(0, 5, 8, 13)]) ∈ tbl := tbl_mem (i := 757) (by decide +kernel) rfl
theorem wd_758 : (Cond.methodLink "HoldMapsLaw" 40 ({ cls := "HoldMaps", name := "walk", desc := "(I)V" } : MethodName)) ∈ tbl := tbl_mem (i := 758) (by decide +kernel) rfl
theorem wd_759 : (Cond.instanceMethod ({ cls := "HoldMaps", name := "walk", desc := "(I)V" } : MethodName)) ∈ tbl := tbl_mem (i := 759) (by decide +kernel) rfl
theorem wd_760 : (Cond.selects "HoldMaps" ({ cls := "HoldMaps", name := "walk", desc := "(I)V" } : MethodName) ({ cls := "HoldMaps", name := "walk", desc := "(I)V" } : MethodName)) ∈ tbl := tbl_mem (i := 760) (by decide +kernel) rfl
theorem wd_761 : (Cond.code ({ cls := "HoldMaps", name := "walk", desc := "(I)V" } : MethodName) prog_1_method_10_code 3 none) ∈ tbl := tbl_mem (i := 761) (by decide +kernel) rfl
theorem wd_762 : (Cond.stringRef "HoldMaps" 159 "no such map") ∈ lw_tbl := lw_mem (i := 762) (by decide +kernel)
theorem wd_763 : (Cond.methodLink "HoldMapsLaw" 93 ({ cls := "HoldMapsLaw", name := "step", desc := "(LHoldMaps;I[J)I" } : MethodName)) ∈ tbl := tbl_mem (i := 763) (by decide +kernel) rfl
theorem wd_764 : (Cond.static ({ cls := "HoldMapsLaw", name := "step", desc := "(LHoldMaps;I[J)I" } : MethodName)) ∈ tbl := tbl_mem (i := 764) (by decide +kernel) rfl
theorem wd_765 : (Cond.codeWith ({ cls := "HoldMapsLaw", name := "step", desc := "(LHoldMaps;I[J)I" } : MethodName) method_11_code 4 (some FieldType.int) [(0, 9, 12, 13), (0, 9, 15, 15), (0, 9, 18, 38)]) ∈ tbl := tbl_mem (i := 765) (by decide +kernel) rfl
theorem wd_766 : (Cond.methodLink "HoldMapsLaw" 44 ({ cls := "HoldMaps", name := "step", desc := "(I)I" } : MethodName)) ∈ tbl := tbl_mem (i := 766) (by decide +kernel) rfl
theorem wd_767 : (Cond.instanceMethod ({ cls := "HoldMaps", name := "step", desc := "(I)I" } : MethodName)) ∈ tbl := tbl_mem (i := 767) (by decide +kernel) rfl
theorem wd_768 : (Cond.selects "HoldMaps" ({ cls := "HoldMaps", name := "step", desc := "(I)I" } : MethodName) ({ cls := "HoldMaps", name := "step", desc := "(I)I" } : MethodName)) ∈ tbl := tbl_mem (i := 768) (by decide +kernel) rfl
theorem wd_769 : (Cond.code ({ cls := "HoldMaps", name := "step", desc := "(I)I" } : MethodName) prog_1_method_11_code 4 (some FieldType.int)) ∈ tbl := tbl_mem (i := 769) (by decide +kernel) rfl
theorem wd_770 : (Cond.stringRef "HoldMaps" 170 "no such map, or no walk of it") ∈ lw_tbl := lw_mem (i := 770) (by decide +kernel)
theorem wd_771 : (Cond.stringRef "HoldMaps" 172 "the map was changed since the walk began") ∈ lw_tbl := lw_mem (i := 771) (by decide +kernel)
theorem wd_772 : (Cond.stringRef "HoldMaps" 174 "the walk is at its end") ∈ lw_tbl := lw_mem (i := 772) (by decide +kernel)
theorem wd_773 : (Cond.methodLink "HoldMapsLaw" 96 ({ cls := "HoldMapsLaw", name := "collect", desc := "(LHoldMaps;I[J)I" } : MethodName)) ∈ tbl := tbl_mem (i := 773) (by decide +kernel) rfl
theorem wd_774 : (Cond.static ({ cls := "HoldMapsLaw", name := "collect", desc := "(LHoldMaps;I[J)I" } : MethodName)) ∈ tbl := tbl_mem (i := 774) (by decide +kernel) rfl
theorem wd_775 : (Cond.codeWith ({ cls := "HoldMapsLaw", name := "collect", desc := "(LHoldMaps;I[J)I" } : MethodName) method_12_code 4 (some FieldType.int) [(0, 9, 12, 13)]) ∈ tbl := tbl_mem (i := 775) (by decide +kernel) rfl
theorem wd_776 : (Cond.methodLink "HoldMapsLaw" 47 ({ cls := "HoldMaps", name := "collect", desc := "(I)I" } : MethodName)) ∈ tbl := tbl_mem (i := 776) (by decide +kernel) rfl
theorem wd_777 : (Cond.instanceMethod ({ cls := "HoldMaps", name := "collect", desc := "(I)I" } : MethodName)) ∈ tbl := tbl_mem (i := 777) (by decide +kernel) rfl
theorem wd_778 : (Cond.selects "HoldMaps" ({ cls := "HoldMaps", name := "collect", desc := "(I)I" } : MethodName) ({ cls := "HoldMaps", name := "collect", desc := "(I)I" } : MethodName)) ∈ tbl := tbl_mem (i := 778) (by decide +kernel) rfl
theorem wd_779 : (Cond.code ({ cls := "HoldMaps", name := "collect", desc := "(I)I" } : MethodName) prog_1_method_12_code 2 (some FieldType.int)) ∈ tbl := tbl_mem (i := 779) (by decide +kernel) rfl
theorem wd_780 : (Cond.stringRef "HoldMaps" 176 "the pressure is not 0 .. 3") ∈ lw_tbl := lw_mem (i := 780) (by decide +kernel)
theorem wd_781 : (Cond.methodLink "HoldMaps" 178 ({ cls := "HoldMaps$Heap", name := "holdRootsOnly", desc := "()V" } : MethodName)) ∈ tbl := tbl_mem (i := 781) (by decide +kernel) rfl
theorem wd_782 : (Cond.instanceMethod ({ cls := "HoldMaps$Heap", name := "holdRootsOnly", desc := "()V" } : MethodName)) ∈ tbl := tbl_mem (i := 782) (by decide +kernel) rfl
theorem wd_783 : (Cond.selects "HoldMaps$Heap" ({ cls := "HoldMaps$Heap", name := "holdRootsOnly", desc := "()V" } : MethodName) ({ cls := "HoldMaps$Heap", name := "holdRootsOnly", desc := "()V" } : MethodName)) ∈ tbl := tbl_mem (i := 783) (by decide +kernel) rfl
theorem wd_784 : (Cond.code ({ cls := "HoldMaps$Heap", name := "holdRootsOnly", desc := "()V" } : MethodName) prog_3_method_6_code 2 none) ∈ tbl := tbl_mem (i := 784) (by decide +kernel) rfl
theorem wd_785 : (Cond.methodLink "HoldMaps$Heap" 36 ({ cls := "HoldMaps$Heap", name := "hold", desc := "(I)V" } : MethodName)) ∈ tbl := tbl_mem (i := 785) (by decide +kernel) rfl
theorem wd_786 : (Cond.instanceMethod ({ cls := "HoldMaps$Heap", name := "hold", desc := "(I)V" } : MethodName)) ∈ tbl := tbl_mem (i := 786) (by decide +kernel) rfl
theorem wd_787 : (Cond.selects "HoldMaps$Heap" ({ cls := "HoldMaps$Heap", name := "hold", desc := "(I)V" } : MethodName) ({ cls := "HoldMaps$Heap", name := "hold", desc := "(I)V" } : MethodName)) ∈ tbl := tbl_mem (i := 787) (by decide +kernel) rfl
theorem wd_788 : (Cond.code ({ cls := "HoldMaps$Heap", name := "hold", desc := "(I)V" } : MethodName) prog_3_method_7_code 4 none) ∈ tbl := tbl_mem (i := 788) (by decide +kernel) rfl
theorem wd_789 : (Cond.methodLink "HoldMaps$Heap" 40 ({ cls := "HoldMaps$Heap", name := "mark", desc := "(I)V" } : MethodName)) ∈ tbl := tbl_mem (i := 789) (by decide +kernel) rfl
theorem wd_790 : (Cond.privateMethod ({ cls := "HoldMaps$Heap", name := "mark", desc := "(I)V" } : MethodName)) ∈ tbl := tbl_mem (i := 790) (by decide +kernel) rfl
theorem wd_791 : (Cond.instanceMethod ({ cls := "HoldMaps$Heap", name := "mark", desc := "(I)V" } : MethodName)) ∈ tbl := tbl_mem (i := 791) (by decide +kernel) rfl
theorem wd_792 : (Cond.code ({ cls := "HoldMaps$Heap", name := "mark", desc := "(I)V" } : MethodName) prog_3_method_9_code 2 none) ∈ tbl := tbl_mem (i := 792) (by decide +kernel) rfl
theorem wd_793 : (Cond.methodLink "HoldMaps$Heap" 21 ({ cls := "HoldMaps$Heap", name := "has", desc := "(I)Z" } : MethodName)) ∈ tbl := tbl_mem (i := 793) (by decide +kernel) rfl
theorem wd_794 : (Cond.methodLink "HoldMaps$Heap" 43 ({ cls := "HoldMaps$Heap", name := "markWhatItRefersTo", desc := "(I)V" } : MethodName)) ∈ tbl := tbl_mem (i := 794) (by decide +kernel) rfl
theorem wd_795 : (Cond.privateMethod ({ cls := "HoldMaps$Heap", name := "markWhatItRefersTo", desc := "(I)V" } : MethodName)) ∈ tbl := tbl_mem (i := 795) (by decide +kernel) rfl
theorem wd_796 : (Cond.instanceMethod ({ cls := "HoldMaps$Heap", name := "markWhatItRefersTo", desc := "(I)V" } : MethodName)) ∈ tbl := tbl_mem (i := 796) (by decide +kernel) rfl
theorem wd_797 : (Cond.code ({ cls := "HoldMaps$Heap", name := "markWhatItRefersTo", desc := "(I)V" } : MethodName) prog_3_method_8_code 3 none) ∈ tbl := tbl_mem (i := 797) (by decide +kernel) rfl
theorem wd_798 : (Cond.methodLink "HoldMaps" 181 ({ cls := "HoldMaps", name := "holdWhatMapsHold", desc := "()V" } : MethodName)) ∈ tbl := tbl_mem (i := 798) (by decide +kernel) rfl
theorem wd_799 : (Cond.privateMethod ({ cls := "HoldMaps", name := "holdWhatMapsHold", desc := "()V" } : MethodName)) ∈ tbl := tbl_mem (i := 799) (by decide +kernel) rfl
theorem wd_800 : (Cond.instanceMethod ({ cls := "HoldMaps", name := "holdWhatMapsHold", desc := "()V" } : MethodName)) ∈ tbl := tbl_mem (i := 800) (by decide +kernel) rfl
theorem wd_801 : (Cond.code ({ cls := "HoldMaps", name := "holdWhatMapsHold", desc := "()V" } : MethodName) prog_1_method_17_code 1 none) ∈ tbl := tbl_mem (i := 801) (by decide +kernel) rfl
theorem wd_802 : (Cond.methodLink "HoldMaps" 208 ({ cls := "HoldMaps", name := "holdKeys", desc := "(LHoldMaps$Table;)V" } : MethodName)) ∈ tbl := tbl_mem (i := 802) (by decide +kernel) rfl
theorem wd_803 : (Cond.privateMethod ({ cls := "HoldMaps", name := "holdKeys", desc := "(LHoldMaps$Table;)V" } : MethodName)) ∈ tbl := tbl_mem (i := 803) (by decide +kernel) rfl
theorem wd_804 : (Cond.instanceMethod ({ cls := "HoldMaps", name := "holdKeys", desc := "(LHoldMaps$Table;)V" } : MethodName)) ∈ tbl := tbl_mem (i := 804) (by decide +kernel) rfl
theorem wd_805 : (Cond.code ({ cls := "HoldMaps", name := "holdKeys", desc := "(LHoldMaps$Table;)V" } : MethodName) prog_1_method_18_code 3 none) ∈ tbl := tbl_mem (i := 805) (by decide +kernel) rfl
theorem wd_806 : (Cond.methodLink "HoldMaps" 215 ({ cls := "HoldMaps$Heap", name := "hold", desc := "(I)V" } : MethodName)) ∈ tbl := tbl_mem (i := 806) (by decide +kernel) rfl
theorem wd_807 : (Cond.methodLink "HoldMaps" 212 ({ cls := "HoldMaps", name := "holdValues", desc := "(LHoldMaps$Table;)V" } : MethodName)) ∈ tbl := tbl_mem (i := 807) (by decide +kernel) rfl
theorem wd_808 : (Cond.privateMethod ({ cls := "HoldMaps", name := "holdValues", desc := "(LHoldMaps$Table;)V" } : MethodName)) ∈ tbl := tbl_mem (i := 808) (by decide +kernel) rfl
theorem wd_809 : (Cond.instanceMethod ({ cls := "HoldMaps", name := "holdValues", desc := "(LHoldMaps$Table;)V" } : MethodName)) ∈ tbl := tbl_mem (i := 809) (by decide +kernel) rfl
theorem wd_810 : (Cond.code ({ cls := "HoldMaps", name := "holdValues", desc := "(LHoldMaps$Table;)V" } : MethodName) prog_1_method_19_code 3 none) ∈ tbl := tbl_mem (i := 810) (by decide +kernel) rfl
theorem wd_811 : (Cond.methodLink "HoldMaps" 184 ({ cls := "HoldMaps", name := "dropSoftEntries", desc := "(I)V" } : MethodName)) ∈ tbl := tbl_mem (i := 811) (by decide +kernel) rfl
theorem wd_812 : (Cond.privateMethod ({ cls := "HoldMaps", name := "dropSoftEntries", desc := "(I)V" } : MethodName)) ∈ tbl := tbl_mem (i := 812) (by decide +kernel) rfl
theorem wd_813 : (Cond.instanceMethod ({ cls := "HoldMaps", name := "dropSoftEntries", desc := "(I)V" } : MethodName)) ∈ tbl := tbl_mem (i := 813) (by decide +kernel) rfl
theorem wd_814 : (Cond.code ({ cls := "HoldMaps", name := "dropSoftEntries", desc := "(I)V" } : MethodName) prog_1_method_20_code 7 none) ∈ tbl := tbl_mem (i := 814) (by decide +kernel) rfl
theorem wd_815 : (Cond.methodLink "HoldMaps" 218 ({ cls := "HoldMaps$SoftMap", name := "length", desc := "()I" } : MethodName)) ∈ tbl := tbl_mem (i := 815) (by decide +kernel) rfl
theorem wd_816 : (Cond.sameMethod "HoldMaps$SoftMap" "HoldMaps$Row" "length" "()I") ∈ tbl := tbl_mem (i := 816) (by decide +kernel) rfl
theorem wd_817 : (Cond.declares ({ cls := "HoldMaps$Row", name := "length", desc := "()I" } : MethodName)) ∈ tbl := tbl_mem (i := 817) (by decide +kernel) rfl
theorem wd_818 : (Cond.selects "HoldMaps$SoftMap" ({ cls := "HoldMaps$SoftMap", name := "length", desc := "()I" } : MethodName) ({ cls := "HoldMaps$Row", name := "length", desc := "()I" } : MethodName)) ∈ tbl := tbl_mem (i := 818) (by decide +kernel) rfl
theorem wd_819 : (Cond.methodLink "HoldMaps" 219 ({ cls := "HoldMaps$SoftMap", name := "usedFirstAfter", desc := "(I)I" } : MethodName)) ∈ tbl := tbl_mem (i := 819) (by decide +kernel) rfl
theorem wd_820 : (Cond.instanceMethod ({ cls := "HoldMaps$SoftMap", name := "usedFirstAfter", desc := "(I)I" } : MethodName)) ∈ tbl := tbl_mem (i := 820) (by decide +kernel) rfl
theorem wd_821 : (Cond.selects "HoldMaps$SoftMap" ({ cls := "HoldMaps$SoftMap", name := "usedFirstAfter", desc := "(I)I" } : MethodName) ({ cls := "HoldMaps$SoftMap", name := "usedFirstAfter", desc := "(I)I" } : MethodName)) ∈ tbl := tbl_mem (i := 821) (by decide +kernel) rfl
theorem wd_822 : (Cond.code ({ cls := "HoldMaps$SoftMap", name := "usedFirstAfter", desc := "(I)I" } : MethodName) prog_8_method_5_code 5 (some FieldType.int)) ∈ tbl := tbl_mem (i := 822) (by decide +kernel) rfl
theorem wd_823 : (Cond.methodLink "HoldMaps$SoftMap" 32 ({ cls := "java/util/ArrayList", name := "size", desc := "()I" } : MethodName)) ∈ tbl := tbl_mem (i := 823) (by decide +kernel) rfl
theorem wd_824 : (Cond.methodLink "HoldMaps$SoftMap" 38 ({ cls := "java/util/ArrayList", name := "get", desc := "(I)Ljava/lang/Object;" } : MethodName)) ∈ tbl := tbl_mem (i := 824) (by decide +kernel) rfl
theorem wd_825 : (Cond.classLink "HoldMaps$SoftMap" 16 "HoldMaps$Entry") ∈ tbl := tbl_mem (i := 825) (by decide +kernel) rfl
theorem wd_826 : (Cond.methodLink "HoldMaps" 222 ({ cls := "HoldMaps$SoftMap", name := "entryAt", desc := "(I)LHoldMaps$Entry;" } : MethodName)) ∈ tbl := tbl_mem (i := 826) (by decide +kernel) rfl
theorem wd_827 : (Cond.methodLink "HoldMaps" 225 ({ cls := "HoldMaps$Heap", name := "isHeld", desc := "(I)Z" } : MethodName)) ∈ tbl := tbl_mem (i := 827) (by decide +kernel) rfl
theorem wd_828 : (Cond.instanceMethod ({ cls := "HoldMaps$Heap", name := "isHeld", desc := "(I)Z" } : MethodName)) ∈ tbl := tbl_mem (i := 828) (by decide +kernel) rfl
theorem wd_829 : (Cond.selects "HoldMaps$Heap" ({ cls := "HoldMaps$Heap", name := "isHeld", desc := "(I)Z" } : MethodName) ({ cls := "HoldMaps$Heap", name := "isHeld", desc := "(I)Z" } : MethodName)) ∈ tbl := tbl_mem (i := 829) (by decide +kernel) rfl
theorem wd_830 : (Cond.code ({ cls := "HoldMaps$Heap", name := "isHeld", desc := "(I)Z" } : MethodName) prog_3_method_5_code 2 (some FieldType.boolean)) ∈ tbl := tbl_mem (i := 830) (by decide +kernel) rfl
theorem wd_831 : (Cond.methodLink "HoldMaps" 228 ({ cls := "HoldMaps$SoftMap", name := "dropAt", desc := "(I)V" } : MethodName)) ∈ tbl := tbl_mem (i := 831) (by decide +kernel) rfl
theorem wd_832 : (Cond.sameMethod "HoldMaps$SoftMap" "HoldMaps$Row" "dropAt" "(I)V") ∈ tbl := tbl_mem (i := 832) (by decide +kernel) rfl
theorem wd_833 : (Cond.selects "HoldMaps$SoftMap" ({ cls := "HoldMaps$SoftMap", name := "dropAt", desc := "(I)V" } : MethodName) ({ cls := "HoldMaps$Row", name := "dropAt", desc := "(I)V" } : MethodName)) ∈ tbl := tbl_mem (i := 833) (by decide +kernel) rfl
theorem wd_834 : (Cond.methodLink "HoldMaps" 187 ({ cls := "HoldMaps", name := "dropWeakEntries", desc := "()V" } : MethodName)) ∈ tbl := tbl_mem (i := 834) (by decide +kernel) rfl
theorem wd_835 : (Cond.privateMethod ({ cls := "HoldMaps", name := "dropWeakEntries", desc := "()V" } : MethodName)) ∈ tbl := tbl_mem (i := 835) (by decide +kernel) rfl
theorem wd_836 : (Cond.instanceMethod ({ cls := "HoldMaps", name := "dropWeakEntries", desc := "()V" } : MethodName)) ∈ tbl := tbl_mem (i := 836) (by decide +kernel) rfl
theorem wd_837 : (Cond.code ({ cls := "HoldMaps", name := "dropWeakEntries", desc := "()V" } : MethodName) prog_1_method_21_code 2 none) ∈ tbl := tbl_mem (i := 837) (by decide +kernel) rfl
theorem wd_838 : (Cond.methodLink "HoldMaps" 229 ({ cls := "HoldMaps$WeakMap", name := "length", desc := "()I" } : MethodName)) ∈ tbl := tbl_mem (i := 838) (by decide +kernel) rfl
theorem wd_839 : (Cond.sameMethod "HoldMaps$WeakMap" "HoldMaps$Row" "length" "()I") ∈ tbl := tbl_mem (i := 839) (by decide +kernel) rfl
theorem wd_840 : (Cond.selects "HoldMaps$WeakMap" ({ cls := "HoldMaps$WeakMap", name := "length", desc := "()I" } : MethodName) ({ cls := "HoldMaps$Row", name := "length", desc := "()I" } : MethodName)) ∈ tbl := tbl_mem (i := 840) (by decide +kernel) rfl
theorem wd_841 : (Cond.methodLink "HoldMaps" 230 ({ cls := "HoldMaps$WeakMap", name := "keyAt", desc := "(I)I" } : MethodName)) ∈ tbl := tbl_mem (i := 841) (by decide +kernel) rfl
theorem wd_842 : (Cond.sameMethod "HoldMaps$WeakMap" "HoldMaps$Table" "keyAt" "(I)I") ∈ tbl := tbl_mem (i := 842) (by decide +kernel) rfl
theorem wd_843 : (Cond.declares ({ cls := "HoldMaps$Table", name := "keyAt", desc := "(I)I" } : MethodName)) ∈ tbl := tbl_mem (i := 843) (by decide +kernel) rfl
theorem wd_844 : (Cond.selects "HoldMaps$WeakMap" ({ cls := "HoldMaps$WeakMap", name := "keyAt", desc := "(I)I" } : MethodName) ({ cls := "HoldMaps$Table", name := "keyAt", desc := "(I)I" } : MethodName)) ∈ tbl := tbl_mem (i := 844) (by decide +kernel) rfl
theorem wd_845 : (Cond.methodLink "HoldMaps" 231 ({ cls := "HoldMaps$WeakMap", name := "dropAt", desc := "(I)V" } : MethodName)) ∈ tbl := tbl_mem (i := 845) (by decide +kernel) rfl
theorem wd_846 : (Cond.sameMethod "HoldMaps$WeakMap" "HoldMaps$Row" "dropAt" "(I)V") ∈ tbl := tbl_mem (i := 846) (by decide +kernel) rfl
theorem wd_847 : (Cond.selects "HoldMaps$WeakMap" ({ cls := "HoldMaps$WeakMap", name := "dropAt", desc := "(I)V" } : MethodName) ({ cls := "HoldMaps$Row", name := "dropAt", desc := "(I)V" } : MethodName)) ∈ tbl := tbl_mem (i := 847) (by decide +kernel) rfl
theorem wd_848 : (Cond.methodLink "HoldMaps" 190 ({ cls := "HoldMaps$Heap", name := "sweep", desc := "()I" } : MethodName)) ∈ tbl := tbl_mem (i := 848) (by decide +kernel) rfl
theorem wd_849 : (Cond.instanceMethod ({ cls := "HoldMaps$Heap", name := "sweep", desc := "()I" } : MethodName)) ∈ tbl := tbl_mem (i := 849) (by decide +kernel) rfl
theorem wd_850 : (Cond.selects "HoldMaps$Heap" ({ cls := "HoldMaps$Heap", name := "sweep", desc := "()I" } : MethodName) ({ cls := "HoldMaps$Heap", name := "sweep", desc := "()I" } : MethodName)) ∈ tbl := tbl_mem (i := 850) (by decide +kernel) rfl
theorem wd_851 : (Cond.code ({ cls := "HoldMaps$Heap", name := "sweep", desc := "()I" } : MethodName) prog_3_method_10_code 3 (some FieldType.int)) ∈ tbl := tbl_mem (i := 851) (by decide +kernel) rfl
theorem wd_852 : (Cond.classLink "HoldMapsLaw" 51 "HoldMapsModel") ∈ tbl := tbl_mem (i := 852) (by decide +kernel) rfl
theorem wd_853 : (Cond.instantiable "HoldMapsModel" 18) ∈ tbl := tbl_mem (i := 853) (by decide +kernel) rfl
theorem wd_854 : (Cond.methodLink "HoldMapsLaw" 53 ({ cls := "HoldMapsModel", name := "<init>", desc := "()V" } : MethodName)) ∈ tbl := tbl_mem (i := 854) (by decide +kernel) rfl
theorem wd_855 : (Cond.instanceMethod ({ cls := "HoldMapsModel", name := "<init>", desc := "()V" } : MethodName)) ∈ tbl := tbl_mem (i := 855) (by decide +kernel) rfl
theorem wd_856 : (Cond.code ({ cls := "HoldMapsModel", name := "<init>", desc := "()V" } : MethodName) prog_13_method_1_code 2 none) ∈ tbl := tbl_mem (i := 856) (by decide +kernel) rfl
theorem wd_857 : (Cond.methodLink "HoldMapsModel" 1 ({ cls := "java/lang/Object", name := "<init>", desc := "()V" } : MethodName)) ∈ tbl := tbl_mem (i := 857) (by decide +kernel) rfl
theorem wd_858 : (Cond.fieldLink "HoldMapsModel" 57 "HoldMapsModel" "refusal" "I") ∈ tbl := tbl_mem (i := 858) (by decide +kernel) rfl
theorem wd_859 : (Cond.fieldLink "HoldMapsModel" 7 "HoldMapsModel" "values" "[I") ∈ tbl := tbl_mem (i := 859) (by decide +kernel) rfl
theorem wd_860 : (Cond.fieldLink "HoldMapsModel" 13 "HoldMapsModel" "first" "[I") ∈ tbl := tbl_mem (i := 860) (by decide +kernel) rfl
theorem wd_861 : (Cond.fieldLink "HoldMapsModel" 16 "HoldMapsModel" "second" "[I") ∈ tbl := tbl_mem (i := 861) (by decide +kernel) rfl
theorem wd_862 : (Cond.fieldLink "HoldMapsModel" 19 "HoldMapsModel" "there" "[Z") ∈ tbl := tbl_mem (i := 862) (by decide +kernel) rfl
theorem wd_863 : (Cond.fieldLink "HoldMapsModel" 23 "HoldMapsModel" "roots" "[Z") ∈ tbl := tbl_mem (i := 863) (by decide +kernel) rfl
theorem wd_864 : (Cond.fieldLink "HoldMapsModel" 26 "HoldMapsModel" "held" "[Z") ∈ tbl := tbl_mem (i := 864) (by decide +kernel) rfl
theorem wd_865 : (Cond.fieldLink "HoldMapsModel" 147 "HoldMapsModel" "collected" "I") ∈ tbl := tbl_mem (i := 865) (by decide +kernel) rfl
theorem wd_866 : (Cond.fieldLink "HoldMapsModel" 29 "HoldMapsModel" "keys" "[I") ∈ tbl := tbl_mem (i := 866) (by decide +kernel) rfl
theorem wd_867 : (Cond.fieldLink "HoldMapsModel" 32 "HoldMapsModel" "what" "[I") ∈ tbl := tbl_mem (i := 867) (by decide +kernel) rfl
theorem wd_868 : (Cond.fieldLink "HoldMapsModel" 35 "HoldMapsModel" "uses" "[I") ∈ tbl := tbl_mem (i := 868) (by decide +kernel) rfl
theorem wd_869 : (Cond.fieldLink "HoldMapsModel" 38 "HoldMapsModel" "sizes" "[I") ∈ tbl := tbl_mem (i := 869) (by decide +kernel) rfl
theorem wd_870 : (Cond.fieldLink "HoldMapsModel" 41 "HoldMapsModel" "buckets" "I") ∈ tbl := tbl_mem (i := 870) (by decide +kernel) rfl
theorem wd_871 : (Cond.fieldLink "HoldMapsModel" 45 "HoldMapsModel" "old" "[I") ∈ tbl := tbl_mem (i := 871) (by decide +kernel) rfl
theorem wd_872 : (Cond.fieldLink "HoldMapsModel" 93 "HoldMapsModel" "time" "I") ∈ tbl := tbl_mem (i := 872) (by decide +kernel) rfl
theorem wd_873 : (Cond.fieldLink "HoldMapsModel" 48 "HoldMapsModel" "walks" "[Z") ∈ tbl := tbl_mem (i := 873) (by decide +kernel) rfl
theorem wd_874 : (Cond.fieldLink "HoldMapsModel" 51 "HoldMapsModel" "broken" "[Z") ∈ tbl := tbl_mem (i := 874) (by decide +kernel) rfl
theorem wd_875 : (Cond.fieldLink "HoldMapsModel" 54 "HoldMapsModel" "at" "[I") ∈ tbl := tbl_mem (i := 875) (by decide +kernel) rfl
theorem wd_876 : (Cond.lays "HoldMapsModel" "HoldMapsModel" "refusal" "I") ∈ tbl := tbl_mem (i := 876) (by decide +kernel) rfl
theorem wd_877 : (Cond.soleField "HoldMapsModel" "refusal") ∈ tbl := tbl_mem (i := 877) (by decide +kernel) rfl
theorem wd_878 : (Cond.lays "HoldMapsModel" "HoldMapsModel" "values" "[I") ∈ tbl := tbl_mem (i := 878) (by decide +kernel) rfl
theorem wd_879 : (Cond.soleField "HoldMapsModel" "values") ∈ tbl := tbl_mem (i := 879) (by decide +kernel) rfl
theorem wd_880 : (Cond.lays "HoldMapsModel" "HoldMapsModel" "first" "[I") ∈ tbl := tbl_mem (i := 880) (by decide +kernel) rfl
theorem wd_881 : (Cond.soleField "HoldMapsModel" "first") ∈ tbl := tbl_mem (i := 881) (by decide +kernel) rfl
theorem wd_882 : (Cond.lays "HoldMapsModel" "HoldMapsModel" "second" "[I") ∈ tbl := tbl_mem (i := 882) (by decide +kernel) rfl
theorem wd_883 : (Cond.soleField "HoldMapsModel" "second") ∈ tbl := tbl_mem (i := 883) (by decide +kernel) rfl
theorem wd_884 : (Cond.lays "HoldMapsModel" "HoldMapsModel" "there" "[Z") ∈ tbl := tbl_mem (i := 884) (by decide +kernel) rfl
theorem wd_885 : (Cond.soleField "HoldMapsModel" "there") ∈ tbl := tbl_mem (i := 885) (by decide +kernel) rfl
theorem wd_886 : (Cond.lays "HoldMapsModel" "HoldMapsModel" "roots" "[Z") ∈ tbl := tbl_mem (i := 886) (by decide +kernel) rfl
theorem wd_887 : (Cond.soleField "HoldMapsModel" "roots") ∈ tbl := tbl_mem (i := 887) (by decide +kernel) rfl
theorem wd_888 : (Cond.lays "HoldMapsModel" "HoldMapsModel" "held" "[Z") ∈ tbl := tbl_mem (i := 888) (by decide +kernel) rfl
theorem wd_889 : (Cond.soleField "HoldMapsModel" "held") ∈ tbl := tbl_mem (i := 889) (by decide +kernel) rfl
theorem wd_890 : (Cond.lays "HoldMapsModel" "HoldMapsModel" "collected" "I") ∈ tbl := tbl_mem (i := 890) (by decide +kernel) rfl
theorem wd_891 : (Cond.soleField "HoldMapsModel" "collected") ∈ tbl := tbl_mem (i := 891) (by decide +kernel) rfl
theorem wd_892 : (Cond.lays "HoldMapsModel" "HoldMapsModel" "keys" "[I") ∈ tbl := tbl_mem (i := 892) (by decide +kernel) rfl
theorem wd_893 : (Cond.soleField "HoldMapsModel" "keys") ∈ tbl := tbl_mem (i := 893) (by decide +kernel) rfl
theorem wd_894 : (Cond.lays "HoldMapsModel" "HoldMapsModel" "what" "[I") ∈ tbl := tbl_mem (i := 894) (by decide +kernel) rfl
theorem wd_895 : (Cond.soleField "HoldMapsModel" "what") ∈ tbl := tbl_mem (i := 895) (by decide +kernel) rfl
theorem wd_896 : (Cond.lays "HoldMapsModel" "HoldMapsModel" "uses" "[I") ∈ tbl := tbl_mem (i := 896) (by decide +kernel) rfl
theorem wd_897 : (Cond.soleField "HoldMapsModel" "uses") ∈ tbl := tbl_mem (i := 897) (by decide +kernel) rfl
theorem wd_898 : (Cond.lays "HoldMapsModel" "HoldMapsModel" "sizes" "[I") ∈ tbl := tbl_mem (i := 898) (by decide +kernel) rfl
theorem wd_899 : (Cond.soleField "HoldMapsModel" "sizes") ∈ tbl := tbl_mem (i := 899) (by decide +kernel) rfl
theorem wd_900 : (Cond.lays "HoldMapsModel" "HoldMapsModel" "buckets" "I") ∈ tbl := tbl_mem (i := 900) (by decide +kernel) rfl
theorem wd_901 : (Cond.soleField "HoldMapsModel" "buckets") ∈ tbl := tbl_mem (i := 901) (by decide +kernel) rfl
theorem wd_902 : (Cond.lays "HoldMapsModel" "HoldMapsModel" "old" "[I") ∈ tbl := tbl_mem (i := 902) (by decide +kernel) rfl
theorem wd_903 : (Cond.soleField "HoldMapsModel" "old") ∈ tbl := tbl_mem (i := 903) (by decide +kernel) rfl
theorem wd_904 : (Cond.lays "HoldMapsModel" "HoldMapsModel" "time" "I") ∈ tbl := tbl_mem (i := 904) (by decide +kernel) rfl
theorem wd_905 : (Cond.soleField "HoldMapsModel" "time") ∈ tbl := tbl_mem (i := 905) (by decide +kernel) rfl
theorem wd_906 : (Cond.lays "HoldMapsModel" "HoldMapsModel" "walks" "[Z") ∈ tbl := tbl_mem (i := 906) (by decide +kernel) rfl
theorem wd_907 : (Cond.soleField "HoldMapsModel" "walks") ∈ tbl := tbl_mem (i := 907) (by decide +kernel) rfl
theorem wd_908 : (Cond.lays "HoldMapsModel" "HoldMapsModel" "broken" "[Z") ∈ tbl := tbl_mem (i := 908) (by decide +kernel) rfl
theorem wd_909 : (Cond.soleField "HoldMapsModel" "broken") ∈ tbl := tbl_mem (i := 909) (by decide +kernel) rfl
theorem wd_910 : (Cond.lays "HoldMapsModel" "HoldMapsModel" "at" "[I") ∈ tbl := tbl_mem (i := 910) (by decide +kernel) rfl
theorem wd_911 : (Cond.soleField "HoldMapsModel" "at") ∈ tbl := tbl_mem (i := 911) (by decide +kernel) rfl
theorem wd_912 : (Cond.superclass "HoldMapsModel" "java/lang/Object") ∈ tbl := tbl_mem (i := 912) (by decide +kernel) rfl
theorem wd_913 : (Cond.arrayClass FieldType.boolean) ∈ tbl := tbl_mem (i := 913) (by decide +kernel) rfl
theorem wd_914 : (Cond.methodLink "HoldMapsLaw" 60 ({ cls := "HoldMapsModel", name := "thrown", desc := "()I" } : MethodName)) ∈ tbl := tbl_mem (i := 914) (by decide +kernel) rfl
theorem wd_915 : (Cond.instanceMethod ({ cls := "HoldMapsModel", name := "thrown", desc := "()I" } : MethodName)) ∈ tbl := tbl_mem (i := 915) (by decide +kernel) rfl
theorem wd_916 : (Cond.selects "HoldMapsModel" ({ cls := "HoldMapsModel", name := "thrown", desc := "()I" } : MethodName) ({ cls := "HoldMapsModel", name := "thrown", desc := "()I" } : MethodName)) ∈ tbl := tbl_mem (i := 916) (by decide +kernel) rfl
theorem wd_917 : (Cond.code ({ cls := "HoldMapsModel", name := "thrown", desc := "()I" } : MethodName) prog_13_method_2_code 1 (some FieldType.int)) ∈ tbl := tbl_mem (i := 917) (by decide +kernel) rfl
theorem wd_918 : (Cond.methodLink "HoldMapsLaw" 59 ({ cls := "HoldMapsModel", name := "make", desc := "(I)I" } : MethodName)) ∈ tbl := tbl_mem (i := 918) (by decide +kernel) rfl
theorem wd_919 : (Cond.instanceMethod ({ cls := "HoldMapsModel", name := "make", desc := "(I)I" } : MethodName)) ∈ tbl := tbl_mem (i := 919) (by decide +kernel) rfl
theorem wd_920 : (Cond.selects "HoldMapsModel" ({ cls := "HoldMapsModel", name := "make", desc := "(I)I" } : MethodName) ({ cls := "HoldMapsModel", name := "make", desc := "(I)I" } : MethodName)) ∈ tbl := tbl_mem (i := 920) (by decide +kernel) rfl
theorem wd_921 : (Cond.code ({ cls := "HoldMapsModel", name := "make", desc := "(I)I" } : MethodName) prog_13_method_5_code 3 (some FieldType.int)) ∈ tbl := tbl_mem (i := 921) (by decide +kernel) rfl
theorem wd_922 : (Cond.methodLink "HoldMapsModel" 60 ({ cls := "HoldMapsModel", name := "refuse", desc := "(I)I" } : MethodName)) ∈ tbl := tbl_mem (i := 922) (by decide +kernel) rfl
theorem wd_923 : (Cond.privateMethod ({ cls := "HoldMapsModel", name := "refuse", desc := "(I)I" } : MethodName)) ∈ tbl := tbl_mem (i := 923) (by decide +kernel) rfl
theorem wd_924 : (Cond.instanceMethod ({ cls := "HoldMapsModel", name := "refuse", desc := "(I)I" } : MethodName)) ∈ tbl := tbl_mem (i := 924) (by decide +kernel) rfl
theorem wd_925 : (Cond.code ({ cls := "HoldMapsModel", name := "refuse", desc := "(I)I" } : MethodName) prog_13_method_3_code 2 (some FieldType.int)) ∈ tbl := tbl_mem (i := 925) (by decide +kernel) rfl
theorem wd_926 : (Cond.methodLink "HoldMapsLaw" 67 ({ cls := "HoldMapsModel", name := "refer", desc := "(III)I" } : MethodName)) ∈ tbl := tbl_mem (i := 926) (by decide +kernel) rfl
theorem wd_927 : (Cond.instanceMethod ({ cls := "HoldMapsModel", name := "refer", desc := "(III)I" } : MethodName)) ∈ tbl := tbl_mem (i := 927) (by decide +kernel) rfl
theorem wd_928 : (Cond.selects "HoldMapsModel" ({ cls := "HoldMapsModel", name := "refer", desc := "(III)I" } : MethodName) ({ cls := "HoldMapsModel", name := "refer", desc := "(III)I" } : MethodName)) ∈ tbl := tbl_mem (i := 928) (by decide +kernel) rfl
theorem wd_929 : (Cond.code ({ cls := "HoldMapsModel", name := "refer", desc := "(III)I" } : MethodName) prog_13_method_6_code 5 (some FieldType.int)) ∈ tbl := tbl_mem (i := 929) (by decide +kernel) rfl
theorem wd_930 : (Cond.methodLink "HoldMapsModel" 64 ({ cls := "HoldMapsModel", name := "isObject", desc := "(I)Z" } : MethodName)) ∈ tbl := tbl_mem (i := 930) (by decide +kernel) rfl
theorem wd_931 : (Cond.privateMethod ({ cls := "HoldMapsModel", name := "isObject", desc := "(I)Z" } : MethodName)) ∈ tbl := tbl_mem (i := 931) (by decide +kernel) rfl
theorem wd_932 : (Cond.instanceMethod ({ cls := "HoldMapsModel", name := "isObject", desc := "(I)Z" } : MethodName)) ∈ tbl := tbl_mem (i := 932) (by decide +kernel) rfl
theorem wd_933 : (Cond.code ({ cls := "HoldMapsModel", name := "isObject", desc := "(I)Z" } : MethodName) prog_13_method_4_code 2 (some FieldType.boolean)) ∈ tbl := tbl_mem (i := 933) (by decide +kernel) rfl
theorem wd_934 : (Cond.methodLink "HoldMapsLaw" 71 ({ cls := "HoldMapsModel", name := "root", desc := "(IZ)Z" } : MethodName)) ∈ tbl := tbl_mem (i := 934) (by decide +kernel) rfl
theorem wd_935 : (Cond.instanceMethod ({ cls := "HoldMapsModel", name := "root", desc := "(IZ)Z" } : MethodName)) ∈ tbl := tbl_mem (i := 935) (by decide +kernel) rfl
theorem wd_936 : (Cond.selects "HoldMapsModel" ({ cls := "HoldMapsModel", name := "root", desc := "(IZ)Z" } : MethodName) ({ cls := "HoldMapsModel", name := "root", desc := "(IZ)Z" } : MethodName)) ∈ tbl := tbl_mem (i := 936) (by decide +kernel) rfl
theorem wd_937 : (Cond.code ({ cls := "HoldMapsModel", name := "root", desc := "(IZ)Z" } : MethodName) prog_13_method_7_code 4 (some FieldType.boolean)) ∈ tbl := tbl_mem (i := 937) (by decide +kernel) rfl
theorem wd_938 : (Cond.methodLink "HoldMapsLaw" 74 ({ cls := "HoldMapsModel", name := "put", desc := "(III)I" } : MethodName)) ∈ tbl := tbl_mem (i := 938) (by decide +kernel) rfl
theorem wd_939 : (Cond.instanceMethod ({ cls := "HoldMapsModel", name := "put", desc := "(III)I" } : MethodName)) ∈ tbl := tbl_mem (i := 939) (by decide +kernel) rfl
theorem wd_940 : (Cond.selects "HoldMapsModel" ({ cls := "HoldMapsModel", name := "put", desc := "(III)I" } : MethodName) ({ cls := "HoldMapsModel", name := "put", desc := "(III)I" } : MethodName)) ∈ tbl := tbl_mem (i := 940) (by decide +kernel) rfl
theorem wd_941 : (Cond.code ({ cls := "HoldMapsModel", name := "put", desc := "(III)I" } : MethodName) prog_13_method_26_code 6 (some FieldType.int)) ∈ tbl := tbl_mem (i := 941) (by decide +kernel) rfl
theorem wd_942 : (Cond.methodLink "HoldMapsModel" 112 ({ cls := "HoldMapsModel", name := "isMap", desc := "(I)Z" } : MethodName)) ∈ tbl := tbl_mem (i := 942) (by decide +kernel) rfl
theorem wd_943 : (Cond.privateMethod ({ cls := "HoldMapsModel", name := "isMap", desc := "(I)Z" } : MethodName)) ∈ tbl := tbl_mem (i := 943) (by decide +kernel) rfl
theorem wd_944 : (Cond.instanceMethod ({ cls := "HoldMapsModel", name := "isMap", desc := "(I)Z" } : MethodName)) ∈ tbl := tbl_mem (i := 944) (by decide +kernel) rfl
theorem wd_945 : (Cond.code ({ cls := "HoldMapsModel", name := "isMap", desc := "(I)Z" } : MethodName) prog_13_method_21_code 2 (some FieldType.boolean)) ∈ tbl := tbl_mem (i := 945) (by decide +kernel) rfl
theorem wd_946 : (Cond.methodLink "HoldMapsModel" 115 ({ cls := "HoldMapsModel", name := "isKey", desc := "(II)Z" } : MethodName)) ∈ tbl := tbl_mem (i := 946) (by decide +kernel) rfl
theorem wd_947 : (Cond.privateMethod ({ cls := "HoldMapsModel", name := "isKey", desc := "(II)Z" } : MethodName)) ∈ tbl := tbl_mem (i := 947) (by decide +kernel) rfl
theorem wd_948 : (Cond.instanceMethod ({ cls := "HoldMapsModel", name := "isKey", desc := "(II)Z" } : MethodName)) ∈ tbl := tbl_mem (i := 948) (by decide +kernel) rfl
theorem wd_949 : (Cond.code ({ cls := "HoldMapsModel", name := "isKey", desc := "(II)Z" } : MethodName) prog_13_method_22_code 3 (some FieldType.boolean)) ∈ tbl := tbl_mem (i := 949) (by decide +kernel) rfl
theorem wd_950 : (Cond.methodLink "HoldMapsModel" 119 ({ cls := "HoldMapsModel", name := "find", desc := "(II)I" } : MethodName)) ∈ tbl := tbl_mem (i := 950) (by decide +kernel) rfl
theorem wd_951 : (Cond.privateMethod ({ cls := "HoldMapsModel", name := "find", desc := "(II)I" } : MethodName)) ∈ tbl := tbl_mem (i := 951) (by decide +kernel) rfl
theorem wd_952 : (Cond.instanceMethod ({ cls := "HoldMapsModel", name := "find", desc := "(II)I" } : MethodName)) ∈ tbl := tbl_mem (i := 952) (by decide +kernel) rfl
theorem wd_953 : (Cond.code ({ cls := "HoldMapsModel", name := "find", desc := "(II)I" } : MethodName) prog_13_method_11_code 5 (some FieldType.int)) ∈ tbl := tbl_mem (i := 953) (by decide +kernel) rfl
theorem wd_954 : (Cond.methodLink "HoldMapsModel" 68 ({ cls := "HoldMapsModel", name := "end", desc := "(I)I" } : MethodName)) ∈ tbl := tbl_mem (i := 954) (by decide +kernel) rfl
theorem wd_955 : (Cond.privateMethod ({ cls := "HoldMapsModel", name := "end", desc := "(I)I" } : MethodName)) ∈ tbl := tbl_mem (i := 955) (by decide +kernel) rfl
theorem wd_956 : (Cond.instanceMethod ({ cls := "HoldMapsModel", name := "end", desc := "(I)I" } : MethodName)) ∈ tbl := tbl_mem (i := 956) (by decide +kernel) rfl
theorem wd_957 : (Cond.code ({ cls := "HoldMapsModel", name := "end", desc := "(I)I" } : MethodName) prog_13_method_9_code 2 (some FieldType.int)) ∈ tbl := tbl_mem (i := 957) (by decide +kernel) rfl
theorem wd_958 : (Cond.methodLink "HoldMapsModel" 71 ({ cls := "HoldMapsModel", name := "isSame", desc := "(III)Z" } : MethodName)) ∈ tbl := tbl_mem (i := 958) (by decide +kernel) rfl
theorem wd_959 : (Cond.privateMethod ({ cls := "HoldMapsModel", name := "isSame", desc := "(III)Z" } : MethodName)) ∈ tbl := tbl_mem (i := 959) (by decide +kernel) rfl
theorem wd_960 : (Cond.instanceMethod ({ cls := "HoldMapsModel", name := "isSame", desc := "(III)Z" } : MethodName)) ∈ tbl := tbl_mem (i := 960) (by decide +kernel) rfl
theorem wd_961 : (Cond.code ({ cls := "HoldMapsModel", name := "isSame", desc := "(III)Z" } : MethodName) prog_13_method_10_code 4 (some FieldType.boolean)) ∈ tbl := tbl_mem (i := 961) (by decide +kernel) rfl
theorem wd_962 : (Cond.methodLink "HoldMapsModel" 123 ({ cls := "HoldMapsModel", name := "comes", desc := "(III)V" } : MethodName)) ∈ tbl := tbl_mem (i := 962) (by decide +kernel) rfl
theorem wd_963 : (Cond.privateMethod ({ cls := "HoldMapsModel", name := "comes", desc := "(III)V" } : MethodName)) ∈ tbl := tbl_mem (i := 963) (by decide +kernel) rfl
theorem wd_964 : (Cond.instanceMethod ({ cls := "HoldMapsModel", name := "comes", desc := "(III)V" } : MethodName)) ∈ tbl := tbl_mem (i := 964) (by decide +kernel) rfl
theorem wd_965 : (Cond.code ({ cls := "HoldMapsModel", name := "comes", desc := "(III)V" } : MethodName) prog_13_method_24_code 4 none) ∈ tbl := tbl_mem (i := 965) (by decide +kernel) rfl
theorem wd_966 : (Cond.methodLink "HoldMapsModel" 99 ({ cls := "HoldMapsModel", name := "change", desc := "(I)V" } : MethodName)) ∈ tbl := tbl_mem (i := 966) (by decide +kernel) rfl
theorem wd_967 : (Cond.privateMethod ({ cls := "HoldMapsModel", name := "change", desc := "(I)V" } : MethodName)) ∈ tbl := tbl_mem (i := 967) (by decide +kernel) rfl
theorem wd_968 : (Cond.instanceMethod ({ cls := "HoldMapsModel", name := "change", desc := "(I)V" } : MethodName)) ∈ tbl := tbl_mem (i := 968) (by decide +kernel) rfl
theorem wd_969 : (Cond.code ({ cls := "HoldMapsModel", name := "change", desc := "(I)V" } : MethodName) prog_13_method_8_code 2 none) ∈ tbl := tbl_mem (i := 969) (by decide +kernel) rfl
theorem wd_970 : (Cond.methodLink "HoldMapsModel" 86 ({ cls := "HoldMapsModel", name := "putWeak", desc := "(II)V" } : MethodName)) ∈ tbl := tbl_mem (i := 970) (by decide +kernel) rfl
theorem wd_971 : (Cond.privateMethod ({ cls := "HoldMapsModel", name := "putWeak", desc := "(II)V" } : MethodName)) ∈ tbl := tbl_mem (i := 971) (by decide +kernel) rfl
theorem wd_972 : (Cond.instanceMethod ({ cls := "HoldMapsModel", name := "putWeak", desc := "(II)V" } : MethodName)) ∈ tbl := tbl_mem (i := 972) (by decide +kernel) rfl
theorem wd_973 : (Cond.code ({ cls := "HoldMapsModel", name := "putWeak", desc := "(II)V" } : MethodName) prog_13_method_16_code 5 none) ∈ tbl := tbl_mem (i := 973) (by decide +kernel) rfl
theorem wd_974 : (Cond.methodLink "HoldMapsModel" 79 ({ cls := "HoldMapsModel", name := "bucketOf", desc := "(I)I" } : MethodName)) ∈ tbl := tbl_mem (i := 974) (by decide +kernel) rfl
theorem wd_975 : (Cond.privateMethod ({ cls := "HoldMapsModel", name := "bucketOf", desc := "(I)I" } : MethodName)) ∈ tbl := tbl_mem (i := 975) (by decide +kernel) rfl
theorem wd_976 : (Cond.instanceMethod ({ cls := "HoldMapsModel", name := "bucketOf", desc := "(I)I" } : MethodName)) ∈ tbl := tbl_mem (i := 976) (by decide +kernel) rfl
theorem wd_977 : (Cond.code ({ cls := "HoldMapsModel", name := "bucketOf", desc := "(I)I" } : MethodName) prog_13_method_15_code 2 (some FieldType.int)) ∈ tbl := tbl_mem (i := 977) (by decide +kernel) rfl
theorem wd_978 : (Cond.methodLink "HoldMapsModel" 82 ({ cls := "HoldMapsModel", name := "open", desc := "(IIII)V" } : MethodName)) ∈ tbl := tbl_mem (i := 978) (by decide +kernel) rfl
theorem wd_979 : (Cond.privateMethod ({ cls := "HoldMapsModel", name := "open", desc := "(IIII)V" } : MethodName)) ∈ tbl := tbl_mem (i := 979) (by decide +kernel) rfl
theorem wd_980 : (Cond.instanceMethod ({ cls := "HoldMapsModel", name := "open", desc := "(IIII)V" } : MethodName)) ∈ tbl := tbl_mem (i := 980) (by decide +kernel) rfl
theorem wd_981 : (Cond.code ({ cls := "HoldMapsModel", name := "open", desc := "(IIII)V" } : MethodName) prog_13_method_13_code 6 none) ∈ tbl := tbl_mem (i := 981) (by decide +kernel) rfl
theorem wd_982 : (Cond.methodLink "HoldMapsModel" 75 ({ cls := "HoldMapsModel", name := "set", desc := "(III)V" } : MethodName)) ∈ tbl := tbl_mem (i := 982) (by decide +kernel) rfl
theorem wd_983 : (Cond.privateMethod ({ cls := "HoldMapsModel", name := "set", desc := "(III)V" } : MethodName)) ∈ tbl := tbl_mem (i := 983) (by decide +kernel) rfl
theorem wd_984 : (Cond.instanceMethod ({ cls := "HoldMapsModel", name := "set", desc := "(III)V" } : MethodName)) ∈ tbl := tbl_mem (i := 984) (by decide +kernel) rfl
theorem wd_985 : (Cond.code ({ cls := "HoldMapsModel", name := "set", desc := "(III)V" } : MethodName) prog_13_method_12_code 4 none) ∈ tbl := tbl_mem (i := 985) (by decide +kernel) rfl
theorem wd_986 : (Cond.methodLink "HoldMapsModel" 103 ({ cls := "HoldMapsModel", name := "doubleBuckets", desc := "()V" } : MethodName)) ∈ tbl := tbl_mem (i := 986) (by decide +kernel) rfl
theorem wd_987 : (Cond.privateMethod ({ cls := "HoldMapsModel", name := "doubleBuckets", desc := "()V" } : MethodName)) ∈ tbl := tbl_mem (i := 987) (by decide +kernel) rfl
theorem wd_988 : (Cond.instanceMethod ({ cls := "HoldMapsModel", name := "doubleBuckets", desc := "()V" } : MethodName)) ∈ tbl := tbl_mem (i := 988) (by decide +kernel) rfl
theorem wd_989 : (Cond.code ({ cls := "HoldMapsModel", name := "doubleBuckets", desc := "()V" } : MethodName) prog_13_method_17_code 3 none) ∈ tbl := tbl_mem (i := 989) (by decide +kernel) rfl
theorem wd_990 : (Cond.methodLink "HoldMapsModel" 106 ({ cls := "HoldMapsModel", name := "putIdentity", desc := "(II)V" } : MethodName)) ∈ tbl := tbl_mem (i := 990) (by decide +kernel) rfl
theorem wd_991 : (Cond.privateMethod ({ cls := "HoldMapsModel", name := "putIdentity", desc := "(II)V" } : MethodName)) ∈ tbl := tbl_mem (i := 991) (by decide +kernel) rfl
theorem wd_992 : (Cond.instanceMethod ({ cls := "HoldMapsModel", name := "putIdentity", desc := "(II)V" } : MethodName)) ∈ tbl := tbl_mem (i := 992) (by decide +kernel) rfl
theorem wd_993 : (Cond.code ({ cls := "HoldMapsModel", name := "putIdentity", desc := "(II)V" } : MethodName) prog_13_method_19_code 4 none) ∈ tbl := tbl_mem (i := 993) (by decide +kernel) rfl
theorem wd_994 : (Cond.methodLink "HoldMapsModel" 90 ({ cls := "HoldMapsModel", name := "slotOf", desc := "(I)I" } : MethodName)) ∈ tbl := tbl_mem (i := 994) (by decide +kernel) rfl
theorem wd_995 : (Cond.static ({ cls := "HoldMapsModel", name := "slotOf", desc := "(I)I" } : MethodName)) ∈ tbl := tbl_mem (i := 995) (by decide +kernel) rfl
theorem wd_996 : (Cond.code ({ cls := "HoldMapsModel", name := "slotOf", desc := "(I)I" } : MethodName) prog_13_method_18_code 1 (some FieldType.int)) ∈ tbl := tbl_mem (i := 996) (by decide +kernel) rfl
theorem wd_997 : (Cond.methodLink "HoldMapsModel" 96 ({ cls := "HoldMapsModel", name := "close", desc := "(II)V" } : MethodName)) ∈ tbl := tbl_mem (i := 997) (by decide +kernel) rfl
theorem wd_998 : (Cond.privateMethod ({ cls := "HoldMapsModel", name := "close", desc := "(II)V" } : MethodName)) ∈ tbl := tbl_mem (i := 998) (by decide +kernel) rfl
theorem wd_999 : (Cond.instanceMethod ({ cls := "HoldMapsModel", name := "close", desc := "(II)V" } : MethodName)) ∈ tbl := tbl_mem (i := 999) (by decide +kernel) rfl
theorem wd_1000 : (Cond.code ({ cls := "HoldMapsModel", name := "close", desc := "(II)V" } : MethodName) prog_13_method_14_code 4 none) ∈ tbl := tbl_mem (i := 1000) (by decide +kernel) rfl
theorem wd_1001 : (Cond.methodLink "HoldMapsModel" 126 ({ cls := "HoldMapsModel", name := "use", desc := "(II)V" } : MethodName)) ∈ tbl := tbl_mem (i := 1001) (by decide +kernel) rfl
theorem wd_1002 : (Cond.privateMethod ({ cls := "HoldMapsModel", name := "use", desc := "(II)V" } : MethodName)) ∈ tbl := tbl_mem (i := 1002) (by decide +kernel) rfl
theorem wd_1003 : (Cond.instanceMethod ({ cls := "HoldMapsModel", name := "use", desc := "(II)V" } : MethodName)) ∈ tbl := tbl_mem (i := 1003) (by decide +kernel) rfl
theorem wd_1004 : (Cond.code ({ cls := "HoldMapsModel", name := "use", desc := "(II)V" } : MethodName) prog_13_method_23_code 5 none) ∈ tbl := tbl_mem (i := 1004) (by decide +kernel) rfl
theorem wd_1005 : (Cond.methodLink "HoldMapsLaw" 78 ({ cls := "HoldMapsModel", name := "get", desc := "(II)I" } : MethodName)) ∈ tbl := tbl_mem (i := 1005) (by decide +kernel) rfl
theorem wd_1006 : (Cond.instanceMethod ({ cls := "HoldMapsModel", name := "get", desc := "(II)I" } : MethodName)) ∈ tbl := tbl_mem (i := 1006) (by decide +kernel) rfl
theorem wd_1007 : (Cond.selects "HoldMapsModel" ({ cls := "HoldMapsModel", name := "get", desc := "(II)I" } : MethodName) ({ cls := "HoldMapsModel", name := "get", desc := "(II)I" } : MethodName)) ∈ tbl := tbl_mem (i := 1007) (by decide +kernel) rfl
theorem wd_1008 : (Cond.code ({ cls := "HoldMapsModel", name := "get", desc := "(II)I" } : MethodName) prog_13_method_27_code 5 (some FieldType.int)) ∈ tbl := tbl_mem (i := 1008) (by decide +kernel) rfl
theorem wd_1009 : (Cond.methodLink "HoldMapsLaw" 81 ({ cls := "HoldMapsModel", name := "remove", desc := "(II)I" } : MethodName)) ∈ tbl := tbl_mem (i := 1009) (by decide +kernel) rfl
theorem wd_1010 : (Cond.instanceMethod ({ cls := "HoldMapsModel", name := "remove", desc := "(II)I" } : MethodName)) ∈ tbl := tbl_mem (i := 1010) (by decide +kernel) rfl
theorem wd_1011 : (Cond.selects "HoldMapsModel" ({ cls := "HoldMapsModel", name := "remove", desc := "(II)I" } : MethodName) ({ cls := "HoldMapsModel", name := "remove", desc := "(II)I" } : MethodName)) ∈ tbl := tbl_mem (i := 1011) (by decide +kernel) rfl
theorem wd_1012 : (Cond.code ({ cls := "HoldMapsModel", name := "remove", desc := "(II)I" } : MethodName) prog_13_method_28_code 5 (some FieldType.int)) ∈ tbl := tbl_mem (i := 1012) (by decide +kernel) rfl
theorem wd_1013 : (Cond.methodLink "HoldMapsModel" 129 ({ cls := "HoldMapsModel", name := "goes", desc := "(II)V" } : MethodName)) ∈ tbl := tbl_mem (i := 1013) (by decide +kernel) rfl
theorem wd_1014 : (Cond.privateMethod ({ cls := "HoldMapsModel", name := "goes", desc := "(II)V" } : MethodName)) ∈ tbl := tbl_mem (i := 1014) (by decide +kernel) rfl
theorem wd_1015 : (Cond.instanceMethod ({ cls := "HoldMapsModel", name := "goes", desc := "(II)V" } : MethodName)) ∈ tbl := tbl_mem (i := 1015) (by decide +kernel) rfl
theorem wd_1016 : (Cond.code ({ cls := "HoldMapsModel", name := "goes", desc := "(II)V" } : MethodName) prog_13_method_25_code 3 none) ∈ tbl := tbl_mem (i := 1016) (by decide +kernel) rfl
theorem wd_1017 : (Cond.methodLink "HoldMapsModel" 109 ({ cls := "HoldMapsModel", name := "takeIdentity", desc := "(I)V" } : MethodName)) ∈ tbl := tbl_mem (i := 1017) (by decide +kernel) rfl
theorem wd_1018 : (Cond.privateMethod ({ cls := "HoldMapsModel", name := "takeIdentity", desc := "(I)V" } : MethodName)) ∈ tbl := tbl_mem (i := 1018) (by decide +kernel) rfl
theorem wd_1019 : (Cond.instanceMethod ({ cls := "HoldMapsModel", name := "takeIdentity", desc := "(I)V" } : MethodName)) ∈ tbl := tbl_mem (i := 1019) (by decide +kernel) rfl
theorem wd_1020 : (Cond.code ({ cls := "HoldMapsModel", name := "takeIdentity", desc := "(I)V" } : MethodName) prog_13_method_20_code 7 none) ∈ tbl := tbl_mem (i := 1020) (by decide +kernel) rfl
theorem wd_1021 : (Cond.methodLink "HoldMapsLaw" 85 ({ cls := "HoldMapsModel", name := "size", desc := "(I)I" } : MethodName)) ∈ tbl := tbl_mem (i := 1021) (by decide +kernel) rfl
theorem wd_1022 : (Cond.instanceMethod ({ cls := "HoldMapsModel", name := "size", desc := "(I)I" } : MethodName)) ∈ tbl := tbl_mem (i := 1022) (by decide +kernel) rfl
theorem wd_1023 : (Cond.selects "HoldMapsModel" ({ cls := "HoldMapsModel", name := "size", desc := "(I)I" } : MethodName) ({ cls := "HoldMapsModel", name := "size", desc := "(I)I" } : MethodName)) ∈ tbl := tbl_mem (i := 1023) (by decide +kernel) rfl
theorem wd_1024 : (Cond.code ({ cls := "HoldMapsModel", name := "size", desc := "(I)I" } : MethodName) prog_13_method_29_code 2 (some FieldType.int)) ∈ tbl := tbl_mem (i := 1024) (by decide +kernel) rfl
theorem wd_1025 : (Cond.methodLink "HoldMapsLaw" 88 ({ cls := "HoldMapsModel", name := "entry", desc := "(III)I" } : MethodName)) ∈ tbl := tbl_mem (i := 1025) (by decide +kernel) rfl
theorem wd_1026 : (Cond.instanceMethod ({ cls := "HoldMapsModel", name := "entry", desc := "(III)I" } : MethodName)) ∈ tbl := tbl_mem (i := 1026) (by decide +kernel) rfl
theorem wd_1027 : (Cond.selects "HoldMapsModel" ({ cls := "HoldMapsModel", name := "entry", desc := "(III)I" } : MethodName) ({ cls := "HoldMapsModel", name := "entry", desc := "(III)I" } : MethodName)) ∈ tbl := tbl_mem (i := 1027) (by decide +kernel) rfl
theorem wd_1028 : (Cond.code ({ cls := "HoldMapsModel", name := "entry", desc := "(III)I" } : MethodName) prog_13_method_31_code 5 (some FieldType.int)) ∈ tbl := tbl_mem (i := 1028) (by decide +kernel) rfl
theorem wd_1029 : (Cond.methodLink "HoldMapsModel" 132 ({ cls := "HoldMapsModel", name := "placeOf", desc := "(II)I" } : MethodName)) ∈ tbl := tbl_mem (i := 1029) (by decide +kernel) rfl
theorem wd_1030 : (Cond.privateMethod ({ cls := "HoldMapsModel", name := "placeOf", desc := "(II)I" } : MethodName)) ∈ tbl := tbl_mem (i := 1030) (by decide +kernel) rfl
theorem wd_1031 : (Cond.instanceMethod ({ cls := "HoldMapsModel", name := "placeOf", desc := "(II)I" } : MethodName)) ∈ tbl := tbl_mem (i := 1031) (by decide +kernel) rfl
theorem wd_1032 : (Cond.code ({ cls := "HoldMapsModel", name := "placeOf", desc := "(II)I" } : MethodName) prog_13_method_30_code 5 (some FieldType.int)) ∈ tbl := tbl_mem (i := 1032) (by decide +kernel) rfl
theorem wd_1033 : (Cond.methodLink "HoldMapsLaw" 92 ({ cls := "HoldMapsModel", name := "walk", desc := "(I)V" } : MethodName)) ∈ tbl := tbl_mem (i := 1033) (by decide +kernel) rfl
theorem wd_1034 : (Cond.instanceMethod ({ cls := "HoldMapsModel", name := "walk", desc := "(I)V" } : MethodName)) ∈ tbl := tbl_mem (i := 1034) (by decide +kernel) rfl
theorem wd_1035 : (Cond.selects "HoldMapsModel" ({ cls := "HoldMapsModel", name := "walk", desc := "(I)V" } : MethodName) ({ cls := "HoldMapsModel", name := "walk", desc := "(I)V" } : MethodName)) ∈ tbl := tbl_mem (i := 1035) (by decide +kernel) rfl
theorem wd_1036 : (Cond.code ({ cls := "HoldMapsModel", name := "walk", desc := "(I)V" } : MethodName) prog_13_method_32_code 2 none) ∈ tbl := tbl_mem (i := 1036) (by decide +kernel) rfl
theorem wd_1037 : (Cond.methodLink "HoldMapsLaw" 95 ({ cls := "HoldMapsModel", name := "step", desc := "(I)I" } : MethodName)) ∈ tbl := tbl_mem (i := 1037) (by decide +kernel) rfl
theorem wd_1038 : (Cond.instanceMethod ({ cls := "HoldMapsModel", name := "step", desc := "(I)I" } : MethodName)) ∈ tbl := tbl_mem (i := 1038) (by decide +kernel) rfl
theorem wd_1039 : (Cond.selects "HoldMapsModel" ({ cls := "HoldMapsModel", name := "step", desc := "(I)I" } : MethodName) ({ cls := "HoldMapsModel", name := "step", desc := "(I)I" } : MethodName)) ∈ tbl := tbl_mem (i := 1039) (by decide +kernel) rfl
theorem wd_1040 : (Cond.code ({ cls := "HoldMapsModel", name := "step", desc := "(I)I" } : MethodName) prog_13_method_33_code 2 (some FieldType.int)) ∈ tbl := tbl_mem (i := 1040) (by decide +kernel) rfl
theorem wd_1041 : (Cond.methodLink "HoldMapsLaw" 98 ({ cls := "HoldMapsModel", name := "collect", desc := "(I)I" } : MethodName)) ∈ tbl := tbl_mem (i := 1041) (by decide +kernel) rfl
theorem wd_1042 : (Cond.instanceMethod ({ cls := "HoldMapsModel", name := "collect", desc := "(I)I" } : MethodName)) ∈ tbl := tbl_mem (i := 1042) (by decide +kernel) rfl
theorem wd_1043 : (Cond.selects "HoldMapsModel" ({ cls := "HoldMapsModel", name := "collect", desc := "(I)I" } : MethodName) ({ cls := "HoldMapsModel", name := "collect", desc := "(I)I" } : MethodName)) ∈ tbl := tbl_mem (i := 1043) (by decide +kernel) rfl
theorem wd_1044 : (Cond.code ({ cls := "HoldMapsModel", name := "collect", desc := "(I)I" } : MethodName) prog_13_method_38_code 4 (some FieldType.int)) ∈ tbl := tbl_mem (i := 1044) (by decide +kernel) rfl
theorem wd_1045 : (Cond.methodLink "HoldMapsModel" 141 ({ cls := "HoldMapsModel", name := "holdMaps", desc := "()V" } : MethodName)) ∈ tbl := tbl_mem (i := 1045) (by decide +kernel) rfl
theorem wd_1046 : (Cond.privateMethod ({ cls := "HoldMapsModel", name := "holdMaps", desc := "()V" } : MethodName)) ∈ tbl := tbl_mem (i := 1046) (by decide +kernel) rfl
theorem wd_1047 : (Cond.instanceMethod ({ cls := "HoldMapsModel", name := "holdMaps", desc := "()V" } : MethodName)) ∈ tbl := tbl_mem (i := 1047) (by decide +kernel) rfl
theorem wd_1048 : (Cond.code ({ cls := "HoldMapsModel", name := "holdMaps", desc := "()V" } : MethodName) prog_13_method_36_code 3 none) ∈ tbl := tbl_mem (i := 1048) (by decide +kernel) rfl
theorem wd_1049 : (Cond.methodLink "HoldMapsModel" 135 ({ cls := "HoldMapsModel", name := "hold", desc := "(I)V" } : MethodName)) ∈ tbl := tbl_mem (i := 1049) (by decide +kernel) rfl
theorem wd_1050 : (Cond.privateMethod ({ cls := "HoldMapsModel", name := "hold", desc := "(I)V" } : MethodName)) ∈ tbl := tbl_mem (i := 1050) (by decide +kernel) rfl
theorem wd_1051 : (Cond.instanceMethod ({ cls := "HoldMapsModel", name := "hold", desc := "(I)V" } : MethodName)) ∈ tbl := tbl_mem (i := 1051) (by decide +kernel) rfl
theorem wd_1052 : (Cond.code ({ cls := "HoldMapsModel", name := "hold", desc := "(I)V" } : MethodName) prog_13_method_34_code 2 none) ∈ tbl := tbl_mem (i := 1052) (by decide +kernel) rfl
theorem wd_1053 : (Cond.methodLink "HoldMapsModel" 138 ({ cls := "HoldMapsModel", name := "spread", desc := "()V" } : MethodName)) ∈ tbl := tbl_mem (i := 1053) (by decide +kernel) rfl
theorem wd_1054 : (Cond.privateMethod ({ cls := "HoldMapsModel", name := "spread", desc := "()V" } : MethodName)) ∈ tbl := tbl_mem (i := 1054) (by decide +kernel) rfl
theorem wd_1055 : (Cond.instanceMethod ({ cls := "HoldMapsModel", name := "spread", desc := "()V" } : MethodName)) ∈ tbl := tbl_mem (i := 1055) (by decide +kernel) rfl
theorem wd_1056 : (Cond.code ({ cls := "HoldMapsModel", name := "spread", desc := "()V" } : MethodName) prog_13_method_35_code 3 none) ∈ tbl := tbl_mem (i := 1056) (by decide +kernel) rfl
theorem wd_1057 : (Cond.methodLink "HoldMapsModel" 144 ({ cls := "HoldMapsModel", name := "soften", desc := "(I)V" } : MethodName)) ∈ tbl := tbl_mem (i := 1057) (by decide +kernel) rfl
theorem wd_1058 : (Cond.privateMethod ({ cls := "HoldMapsModel", name := "soften", desc := "(I)V" } : MethodName)) ∈ tbl := tbl_mem (i := 1058) (by decide +kernel) rfl
theorem wd_1059 : (Cond.instanceMethod ({ cls := "HoldMapsModel", name := "soften", desc := "(I)V" } : MethodName)) ∈ tbl := tbl_mem (i := 1059) (by decide +kernel) rfl
theorem wd_1060 : (Cond.code ({ cls := "HoldMapsModel", name := "soften", desc := "(I)V" } : MethodName) prog_13_method_37_code 6 none) ∈ tbl := tbl_mem (i := 1060) (by decide +kernel) rfl
theorem wd_1061 : (Cond.methodLink "HoldMapsLaw" 102 ({ cls := "HoldMapsModel", name := "value", desc := "(I)I" } : MethodName)) ∈ tbl := tbl_mem (i := 1061) (by decide +kernel) rfl
theorem wd_1062 : (Cond.instanceMethod ({ cls := "HoldMapsModel", name := "value", desc := "(I)I" } : MethodName)) ∈ tbl := tbl_mem (i := 1062) (by decide +kernel) rfl
theorem wd_1063 : (Cond.selects "HoldMapsModel" ({ cls := "HoldMapsModel", name := "value", desc := "(I)I" } : MethodName) ({ cls := "HoldMapsModel", name := "value", desc := "(I)I" } : MethodName)) ∈ tbl := tbl_mem (i := 1063) (by decide +kernel) rfl
theorem wd_1064 : (Cond.code ({ cls := "HoldMapsModel", name := "value", desc := "(I)I" } : MethodName) prog_13_method_39_code 2 (some FieldType.int)) ∈ tbl := tbl_mem (i := 1064) (by decide +kernel) rfl
theorem wd_1065 : (Cond.methodLink "HoldMapsLaw" 106 ({ cls := "HoldMapsModel", name := "count", desc := "(I)I" } : MethodName)) ∈ tbl := tbl_mem (i := 1065) (by decide +kernel) rfl
theorem wd_1066 : (Cond.instanceMethod ({ cls := "HoldMapsModel", name := "count", desc := "(I)I" } : MethodName)) ∈ tbl := tbl_mem (i := 1066) (by decide +kernel) rfl
theorem wd_1067 : (Cond.selects "HoldMapsModel" ({ cls := "HoldMapsModel", name := "count", desc := "(I)I" } : MethodName) ({ cls := "HoldMapsModel", name := "count", desc := "(I)I" } : MethodName)) ∈ tbl := tbl_mem (i := 1067) (by decide +kernel) rfl
theorem wd_1068 : (Cond.code ({ cls := "HoldMapsModel", name := "count", desc := "(I)I" } : MethodName) prog_13_method_40_code 4 (some FieldType.int)) ∈ tbl := tbl_mem (i := 1068) (by decide +kernel) rfl
theorem wd_1069 : (Cond.arrayClass FieldType.long) ∈ tbl := tbl_mem (i := 1069) (by decide +kernel) rfl
theorem wd_1070 : (Cond.sameMethod "java/lang/Throwable" "java/lang/Throwable" "fillInStackTrace" "(I)Ljava/lang/Throwable;") ∈ tbl := tbl_mem (i := 1070) (by decide +kernel) rfl
theorem wd_1071 : (Cond.castable "HoldMaps$Entry" "HoldMaps$Entry") ∈ tbl := tbl_mem (i := 1071) (by decide +kernel) rfl
theorem wd_1072 : (Cond.sameMethod "[Ljava/lang/Object;" "java/lang/Object" "getClass" "()Ljava/lang/Class;") ∈ tbl := tbl_mem (i := 1072) (by decide +kernel) rfl
theorem wd_1073 : (Cond.selects "[Ljava/lang/Object;" ({ cls := "java/lang/Object", name := "getClass", desc := "()Ljava/lang/Class;" } : MethodName) ({ cls := "java/lang/Object", name := "getClass", desc := "()Ljava/lang/Class;" } : MethodName)) ∈ tbl := tbl_mem (i := 1073) (by decide +kernel) rfl
theorem wd_1074 : (Cond.declares ({ cls := "java/lang/Object", name := "getClass", desc := "()Ljava/lang/Class;" } : MethodName)) ∈ tbl := tbl_mem (i := 1074) (by decide +kernel) rfl
theorem wd_1075 : (Cond.castable "HoldMaps" "java/lang/Object") ∈ tbl := tbl_mem (i := 1075) (by decide +kernel) rfl
theorem wd_1076 : (Cond.castable "HoldMaps$Heap" "java/lang/Object") ∈ tbl := tbl_mem (i := 1076) (by decide +kernel) rfl
theorem wd_1077 : (Cond.castable "HoldMaps$WeakMap" "java/lang/Object") ∈ tbl := tbl_mem (i := 1077) (by decide +kernel) rfl
theorem wd_1078 : (Cond.castable "HoldMaps$SoftMap" "java/lang/Object") ∈ tbl := tbl_mem (i := 1078) (by decide +kernel) rfl
theorem wd_1079 : (Cond.castable "HoldMaps$IdentityMap" "java/lang/Object") ∈ tbl := tbl_mem (i := 1079) (by decide +kernel) rfl
theorem wd_1080 : (Cond.castable "HoldMaps$PlacesMap" "java/lang/Object") ∈ tbl := tbl_mem (i := 1080) (by decide +kernel) rfl
theorem wd_1081 : (Cond.castable "HoldMaps$LatestMap" "java/lang/Object") ∈ tbl := tbl_mem (i := 1081) (by decide +kernel) rfl
theorem wd_1082 : (Cond.castable "HoldMapsModel" "java/lang/Object") ∈ tbl := tbl_mem (i := 1082) (by decide +kernel) rfl
theorem wd_1083 : (Cond.castable "HoldMaps$Thing" "java/lang/Object") ∈ tbl := tbl_mem (i := 1083) (by decide +kernel) rfl
theorem wd_1084 : (Cond.castable "HoldMaps$Entry" "java/lang/Object") ∈ tbl := tbl_mem (i := 1084) (by decide +kernel) rfl
theorem wd_1085 : (Cond.castable "java/lang/String" "java/lang/Object") ∈ tbl := tbl_mem (i := 1085) (by decide +kernel) rfl
theorem wd_1086 : (Cond.castable "HoldMaps$IdentityMap" "HoldMaps$Table") ∈ tbl := tbl_mem (i := 1086) (by decide +kernel) rfl
theorem wd_1087 : (Cond.castable "HoldMaps$LatestMap" "HoldMaps$Table") ∈ tbl := tbl_mem (i := 1087) (by decide +kernel) rfl
theorem wd_1088 : (Cond.castable "HoldMaps$PlacesMap" "HoldMaps$Table") ∈ tbl := tbl_mem (i := 1088) (by decide +kernel) rfl
theorem wd_1089 : (Cond.castable "HoldMaps$SoftMap" "HoldMaps$Table") ∈ tbl := tbl_mem (i := 1089) (by decide +kernel) rfl
theorem wd_1090 : (Cond.castable "HoldMaps$WeakMap" "HoldMaps$Table") ∈ tbl := tbl_mem (i := 1090) (by decide +kernel) rfl
