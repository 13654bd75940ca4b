section
-- ===== PART A: goes FIRST, ahead of the names: the tables' words, and 'selects' of the private methods out of them =====
/-- a private method of a class that the tables say can be made, by its rows of tables_1 -/
def lw_okq (q : MethodName × Nat) : Prop := (q.1.cls ≠ "java/lang/invoke/MethodHandle" ∧ q.1.cls ≠ "java/lang/invoke/VarHandle") ∧ Cond.instantiable q.1.cls q.2 ∈ tables_1 ∧ Cond.privateMethod q.1 ∈ tables_1 ∧ Cond.instanceMethod q.1 ∈ tables_1
theorem lw_p0 : lw_okq (⟨"java/lang/Throwable", "fillInStackTrace", "(I)Ljava/lang/Throwable;"⟩, 6) := ⟨⟨by decide +kernel, by decide +kernel⟩, List.mem_of_getElem? (i := 293) (by decide +kernel), List.mem_of_getElem? (i := 291) (by decide +kernel), List.mem_of_getElem? (i := 292) (by decide +kernel)⟩
theorem lw_p1 : lw_okq (⟨"HoldMaps", "isKeyOf", "(II)Z"⟩, 4) := ⟨⟨by decide +kernel, by decide +kernel⟩, List.mem_of_getElem? (i := 29) (by decide +kernel), List.mem_of_getElem? (i := 390) (by decide +kernel), List.mem_of_getElem? (i := 391) (by decide +kernel)⟩
theorem lw_p2 : lw_okq (⟨"HoldMaps$IdentityMap", "slotOf", "(I)I"⟩, 5) := ⟨⟨by decide +kernel, by decide +kernel⟩, List.mem_of_getElem? (i := 154) (by decide +kernel), List.mem_of_getElem? (i := 433) (by decide +kernel), List.mem_of_getElem? (i := 434) (by decide +kernel)⟩
theorem lw_p3 : lw_okq (⟨"java/util/ArrayList", "add", "(Ljava/lang/Object;[Ljava/lang/Object;I)V"⟩, 3) := ⟨⟨by decide +kernel, by decide +kernel⟩, List.mem_of_getElem? (i := 73) (by decide +kernel), List.mem_of_getElem? (i := 542) (by decide +kernel), List.mem_of_getElem? (i := 543) (by decide +kernel)⟩
theorem lw_p4 : lw_okq (⟨"java/util/ArrayList", "grow", "()[Ljava/lang/Object;"⟩, 3) := ⟨⟨by decide +kernel, by decide +kernel⟩, List.mem_of_getElem? (i := 73) (by decide +kernel), List.mem_of_getElem? (i := 546) (by decide +kernel), List.mem_of_getElem? (i := 547) (by decide +kernel)⟩
theorem lw_p5 : lw_okq (⟨"java/util/ArrayList", "grow", "(I)[Ljava/lang/Object;"⟩, 3) := ⟨⟨by decide +kernel, by decide +kernel⟩, List.mem_of_getElem? (i := 73) (by decide +kernel), List.mem_of_getElem? (i := 550) (by decide +kernel), List.mem_of_getElem? (i := 551) (by decide +kernel)⟩
theorem lw_p6 : lw_okq (⟨"java/util/ArrayList", "fastRemove", "([Ljava/lang/Object;I)V"⟩, 3) := ⟨⟨by decide +kernel, by decide +kernel⟩, List.mem_of_getElem? (i := 73) (by decide +kernel), List.mem_of_getElem? (i := 610) (by decide +kernel), List.mem_of_getElem? (i := 611) (by decide +kernel)⟩
theorem lw_p7 : lw_okq (⟨"java/util/ArrayList", "rangeCheckForAdd", "(I)V"⟩, 3) := ⟨⟨by decide +kernel, by decide +kernel⟩, List.mem_of_getElem? (i := 73) (by decide +kernel), List.mem_of_getElem? (i := 625) (by decide +kernel), List.mem_of_getElem? (i := 626) (by decide +kernel)⟩
theorem lw_p8 : lw_okq (⟨"HoldMaps$WeakMap", "addToBucket", "(LHoldMaps$Entry;)V"⟩, 6) := ⟨⟨by decide +kernel, by decide +kernel⟩, List.mem_of_getElem? (i := 61) (by decide +kernel), List.mem_of_getElem? (i := 638) (by decide +kernel), List.mem_of_getElem? (i := 639) (by decide +kernel)⟩
theorem lw_p9 : lw_okq (⟨"HoldMaps$WeakMap", "bucketOf", "(LHoldMaps$Entry;)I"⟩, 6) := ⟨⟨by decide +kernel, by decide +kernel⟩, List.mem_of_getElem? (i := 61) (by decide +kernel), List.mem_of_getElem? (i := 642) (by decide +kernel), List.mem_of_getElem? (i := 643) (by decide +kernel)⟩
theorem lw_p10 : lw_okq (⟨"HoldMaps$WeakMap", "doubleBuckets", "()V"⟩, 6) := ⟨⟨by decide +kernel, by decide +kernel⟩, List.mem_of_getElem? (i := 61) (by decide +kernel), List.mem_of_getElem? (i := 650) (by decide +kernel), List.mem_of_getElem? (i := 651) (by decide +kernel)⟩
theorem lw_p11 : lw_okq (⟨"HoldMaps$IdentityMap", "closeUp", "(I)V"⟩, 5) := ⟨⟨by decide +kernel, by decide +kernel⟩, List.mem_of_getElem? (i := 154) (by decide +kernel), List.mem_of_getElem? (i := 708) (by decide +kernel), List.mem_of_getElem? (i := 709) (by decide +kernel)⟩
theorem lw_p12 : lw_okq (⟨"HoldMaps$Heap", "mark", "(I)V"⟩, 4) := ⟨⟨by decide +kernel, by decide +kernel⟩, List.mem_of_getElem? (i := 37) (by decide +kernel), List.mem_of_getElem? (i := 790) (by decide +kernel), List.mem_of_getElem? (i := 791) (by decide +kernel)⟩
theorem lw_p13 : lw_okq (⟨"HoldMaps$Heap", "markWhatItRefersTo", "(I)V"⟩, 4) := ⟨⟨by decide +kernel, by decide +kernel⟩, List.mem_of_getElem? (i := 37) (by decide +kernel), List.mem_of_getElem? (i := 795) (by decide +kernel), List.mem_of_getElem? (i := 796) (by decide +kernel)⟩
theorem lw_p14 : lw_okq (⟨"HoldMaps", "holdWhatMapsHold", "()V"⟩, 4) := ⟨⟨by decide +kernel, by decide +kernel⟩, List.mem_of_getElem? (i := 29) (by decide +kernel), List.mem_of_getElem? (i := 799) (by decide +kernel), List.mem_of_getElem? (i := 800) (by decide +kernel)⟩
theorem lw_p15 : lw_okq (⟨"HoldMaps", "holdKeys", "(LHoldMaps$Table;)V"⟩, 4) := ⟨⟨by decide +kernel, by decide +kernel⟩, List.mem_of_getElem? (i := 29) (by decide +kernel), List.mem_of_getElem? (i := 803) (by decide +kernel), List.mem_of_getElem? (i := 804) (by decide +kernel)⟩
def lw_privs_1 : List (MethodName × Nat) := [(⟨"java/lang/Throwable", "fillInStackTrace", "(I)Ljava/lang/Throwable;"⟩, 6), (⟨"HoldMaps", "isKeyOf", "(II)Z"⟩, 4), (⟨"HoldMaps$IdentityMap", "slotOf", "(I)I"⟩, 5), (⟨"java/util/ArrayList", "add", "(Ljava/lang/Object;[Ljava/lang/Object;I)V"⟩, 3), (⟨"java/util/ArrayList", "grow", "()[Ljava/lang/Object;"⟩, 3), (⟨"java/util/ArrayList", "grow", "(I)[Ljava/lang/Object;"⟩, 3), (⟨"java/util/ArrayList", "fastRemove", "([Ljava/lang/Object;I)V"⟩, 3), (⟨"java/util/ArrayList", "rangeCheckForAdd", "(I)V"⟩, 3), (⟨"HoldMaps$WeakMap", "addToBucket", "(LHoldMaps$Entry;)V"⟩, 6), (⟨"HoldMaps$WeakMap", "bucketOf", "(LHoldMaps$Entry;)I"⟩, 6), (⟨"HoldMaps$WeakMap", "doubleBuckets", "()V"⟩, 6), (⟨"HoldMaps$IdentityMap", "closeUp", "(I)V"⟩, 5), (⟨"HoldMaps$Heap", "mark", "(I)V"⟩, 4), (⟨"HoldMaps$Heap", "markWhatItRefersTo", "(I)V"⟩, 4), (⟨"HoldMaps", "holdWhatMapsHold", "()V"⟩, 4), (⟨"HoldMaps", "holdKeys", "(LHoldMaps$Table;)V"⟩, 4)]
theorem lw_r1 : ∀ q ∈ lw_privs_1, lw_okq q := List.forall_mem_cons.mpr ⟨lw_p0, List.forall_mem_cons.mpr ⟨lw_p1, List.forall_mem_cons.mpr ⟨lw_p2, List.forall_mem_cons.mpr ⟨lw_p3, List.forall_mem_cons.mpr ⟨lw_p4, List.forall_mem_cons.mpr ⟨lw_p5, List.forall_mem_cons.mpr ⟨lw_p6, List.forall_mem_cons.mpr ⟨lw_p7, List.forall_mem_cons.mpr ⟨lw_p8, List.forall_mem_cons.mpr ⟨lw_p9, List.forall_mem_cons.mpr ⟨lw_p10, List.forall_mem_cons.mpr ⟨lw_p11, List.forall_mem_cons.mpr ⟨lw_p12, List.forall_mem_cons.mpr ⟨lw_p13, List.forall_mem_cons.mpr ⟨lw_p14, List.forall_mem_cons.mpr ⟨lw_p15, fun _ h => absurd h List.not_mem_nil⟩⟩⟩⟩⟩⟩⟩⟩⟩⟩⟩⟩⟩⟩⟩⟩
theorem lw_p16 : lw_okq (⟨"HoldMaps", "holdValues", "(LHoldMaps$Table;)V"⟩, 4) := ⟨⟨by decide +kernel, by decide +kernel⟩, List.mem_of_getElem? (i := 29) (by decide +kernel), List.mem_of_getElem? (i := 808) (by decide +kernel), List.mem_of_getElem? (i := 809) (by decide +kernel)⟩
theorem lw_p17 : lw_okq (⟨"HoldMaps", "dropSoftEntries", "(I)V"⟩, 4) := ⟨⟨by decide +kernel, by decide +kernel⟩, List.mem_of_getElem? (i := 29) (by decide +kernel), List.mem_of_getElem? (i := 812) (by decide +kernel), List.mem_of_getElem? (i := 813) (by decide +kernel)⟩
theorem lw_p18 : lw_okq (⟨"HoldMaps", "dropWeakEntries", "()V"⟩, 4) := ⟨⟨by decide +kernel, by decide +kernel⟩, List.mem_of_getElem? (i := 29) (by decide +kernel), List.mem_of_getElem? (i := 835) (by decide +kernel), List.mem_of_getElem? (i := 836) (by decide +kernel)⟩
theorem lw_p19 : lw_okq (⟨"HoldMapsModel", "refuse", "(I)I"⟩, 18) := ⟨⟨by decide +kernel, by decide +kernel⟩, List.mem_of_getElem? (i := 853) (by decide +kernel), List.mem_of_getElem? (i := 923) (by decide +kernel), List.mem_of_getElem? (i := 924) (by decide +kernel)⟩
theorem lw_p20 : lw_okq (⟨"HoldMapsModel", "isObject", "(I)Z"⟩, 18) := ⟨⟨by decide +kernel, by decide +kernel⟩, List.mem_of_getElem? (i := 853) (by decide +kernel), List.mem_of_getElem? (i := 931) (by decide +kernel), List.mem_of_getElem? (i := 932) (by decide +kernel)⟩
theorem lw_p21 : lw_okq (⟨"HoldMapsModel", "isMap", "(I)Z"⟩, 18) := ⟨⟨by decide +kernel, by decide +kernel⟩, List.mem_of_getElem? (i := 853) (by decide +kernel), List.mem_of_getElem? (i := 943) (by decide +kernel), List.mem_of_getElem? (i := 944) (by decide +kernel)⟩
theorem lw_p22 : lw_okq (⟨"HoldMapsModel", "isKey", "(II)Z"⟩, 18) := ⟨⟨by decide +kernel, by decide +kernel⟩, List.mem_of_getElem? (i := 853) (by decide +kernel), List.mem_of_getElem? (i := 947) (by decide +kernel), List.mem_of_getElem? (i := 948) (by decide +kernel)⟩
theorem lw_p23 : lw_okq (⟨"HoldMapsModel", "find", "(II)I"⟩, 18) := ⟨⟨by decide +kernel, by decide +kernel⟩, List.mem_of_getElem? (i := 853) (by decide +kernel), List.mem_of_getElem? (i := 951) (by decide +kernel), List.mem_of_getElem? (i := 952) (by decide +kernel)⟩
theorem lw_p24 : lw_okq (⟨"HoldMapsModel", "end", "(I)I"⟩, 18) := ⟨⟨by decide +kernel, by decide +kernel⟩, List.mem_of_getElem? (i := 853) (by decide +kernel), List.mem_of_getElem? (i := 955) (by decide +kernel), List.mem_of_getElem? (i := 956) (by decide +kernel)⟩
theorem lw_p25 : lw_okq (⟨"HoldMapsModel", "isSame", "(III)Z"⟩, 18) := ⟨⟨by decide +kernel, by decide +kernel⟩, List.mem_of_getElem? (i := 853) (by decide +kernel), List.mem_of_getElem? (i := 959) (by decide +kernel), List.mem_of_getElem? (i := 960) (by decide +kernel)⟩
theorem lw_p26 : lw_okq (⟨"HoldMapsModel", "comes", "(III)V"⟩, 18) := ⟨⟨by decide +kernel, by decide +kernel⟩, List.mem_of_getElem? (i := 853) (by decide +kernel), List.mem_of_getElem? (i := 963) (by decide +kernel), List.mem_of_getElem? (i := 964) (by decide +kernel)⟩
theorem lw_p27 : lw_okq (⟨"HoldMapsModel", "change", "(I)V"⟩, 18) := ⟨⟨by decide +kernel, by decide +kernel⟩, List.mem_of_getElem? (i := 853) (by decide +kernel), List.mem_of_getElem? (i := 967) (by decide +kernel), List.mem_of_getElem? (i := 968) (by decide +kernel)⟩
theorem lw_p28 : lw_okq (⟨"HoldMapsModel", "putWeak", "(II)V"⟩, 18) := ⟨⟨by decide +kernel, by decide +kernel⟩, List.mem_of_getElem? (i := 853) (by decide +kernel), List.mem_of_getElem? (i := 971) (by decide +kernel), List.mem_of_getElem? (i := 972) (by decide +kernel)⟩
theorem lw_p29 : lw_okq (⟨"HoldMapsModel", "bucketOf", "(I)I"⟩, 18) := ⟨⟨by decide +kernel, by decide +kernel⟩, List.mem_of_getElem? (i := 853) (by decide +kernel), List.mem_of_getElem? (i := 975) (by decide +kernel), List.mem_of_getElem? (i := 976) (by decide +kernel)⟩
theorem lw_p30 : lw_okq (⟨"HoldMapsModel", "open", "(IIII)V"⟩, 18) := ⟨⟨by decide +kernel, by decide +kernel⟩, List.mem_of_getElem? (i := 853) (by decide +kernel), List.mem_of_getElem? (i := 979) (by decide +kernel), List.mem_of_getElem? (i := 980) (by decide +kernel)⟩
theorem lw_p31 : lw_okq (⟨"HoldMapsModel", "set", "(III)V"⟩, 18) := ⟨⟨by decide +kernel, by decide +kernel⟩, List.mem_of_getElem? (i := 853) (by decide +kernel), List.mem_of_getElem? (i := 983) (by decide +kernel), List.mem_of_getElem? (i := 984) (by decide +kernel)⟩
def lw_privs_2 : List (MethodName × Nat) := [(⟨"HoldMaps", "holdValues", "(LHoldMaps$Table;)V"⟩, 4), (⟨"HoldMaps", "dropSoftEntries", "(I)V"⟩, 4), (⟨"HoldMaps", "dropWeakEntries", "()V"⟩, 4), (⟨"HoldMapsModel", "refuse", "(I)I"⟩, 18), (⟨"HoldMapsModel", "isObject", "(I)Z"⟩, 18), (⟨"HoldMapsModel", "isMap", "(I)Z"⟩, 18), (⟨"HoldMapsModel", "isKey", "(II)Z"⟩, 18), (⟨"HoldMapsModel", "find", "(II)I"⟩, 18), (⟨"HoldMapsModel", "end", "(I)I"⟩, 18), (⟨"HoldMapsModel", "isSame", "(III)Z"⟩, 18), (⟨"HoldMapsModel", "comes", "(III)V"⟩, 18), (⟨"HoldMapsModel", "change", "(I)V"⟩, 18), (⟨"HoldMapsModel", "putWeak", "(II)V"⟩, 18), (⟨"HoldMapsModel", "bucketOf", "(I)I"⟩, 18), (⟨"HoldMapsModel", "open", "(IIII)V"⟩, 18), (⟨"HoldMapsModel", "set", "(III)V"⟩, 18)]
theorem lw_r2 : ∀ q ∈ lw_privs_2, lw_okq q := List.forall_mem_cons.mpr ⟨lw_p16, List.forall_mem_cons.mpr ⟨lw_p17, List.forall_mem_cons.mpr ⟨lw_p18, List.forall_mem_cons.mpr ⟨lw_p19, List.forall_mem_cons.mpr ⟨lw_p20, List.forall_mem_cons.mpr ⟨lw_p21, List.forall_mem_cons.mpr ⟨lw_p22, List.forall_mem_cons.mpr ⟨lw_p23, List.forall_mem_cons.mpr ⟨lw_p24, List.forall_mem_cons.mpr ⟨lw_p25, List.forall_mem_cons.mpr ⟨lw_p26, List.forall_mem_cons.mpr ⟨lw_p27, List.forall_mem_cons.mpr ⟨lw_p28, List.forall_mem_cons.mpr ⟨lw_p29, List.forall_mem_cons.mpr ⟨lw_p30, List.forall_mem_cons.mpr ⟨lw_p31, fun _ h => absurd h List.not_mem_nil⟩⟩⟩⟩⟩⟩⟩⟩⟩⟩⟩⟩⟩⟩⟩⟩
theorem lw_p32 : lw_okq (⟨"HoldMapsModel", "doubleBuckets", "()V"⟩, 18) := ⟨⟨by decide +kernel, by decide +kernel⟩, List.mem_of_getElem? (i := 853) (by decide +kernel), List.mem_of_getElem? (i := 987) (by decide +kernel), List.mem_of_getElem? (i := 988) (by decide +kernel)⟩
theorem lw_p33 : lw_okq (⟨"HoldMapsModel", "putIdentity", "(II)V"⟩, 18) := ⟨⟨by decide +kernel, by decide +kernel⟩, List.mem_of_getElem? (i := 853) (by decide +kernel), List.mem_of_getElem? (i := 991) (by decide +kernel), List.mem_of_getElem? (i := 992) (by decide +kernel)⟩
theorem lw_p34 : lw_okq (⟨"HoldMapsModel", "close", "(II)V"⟩, 18) := ⟨⟨by decide +kernel, by decide +kernel⟩, List.mem_of_getElem? (i := 853) (by decide +kernel), List.mem_of_getElem? (i := 998) (by decide +kernel), List.mem_of_getElem? (i := 999) (by decide +kernel)⟩
theorem lw_p35 : lw_okq (⟨"HoldMapsModel", "use", "(II)V"⟩, 18) := ⟨⟨by decide +kernel, by decide +kernel⟩, List.mem_of_getElem? (i := 853) (by decide +kernel), List.mem_of_getElem? (i := 1002) (by decide +kernel), List.mem_of_getElem? (i := 1003) (by decide +kernel)⟩
theorem lw_p36 : lw_okq (⟨"HoldMapsModel", "goes", "(II)V"⟩, 18) := ⟨⟨by decide +kernel, by decide +kernel⟩, List.mem_of_getElem? (i := 853) (by decide +kernel), List.mem_of_getElem? (i := 1014) (by decide +kernel), List.mem_of_getElem? (i := 1015) (by decide +kernel)⟩
theorem lw_p37 : lw_okq (⟨"HoldMapsModel", "takeIdentity", "(I)V"⟩, 18) := ⟨⟨by decide +kernel, by decide +kernel⟩, List.mem_of_getElem? (i := 853) (by decide +kernel), List.mem_of_getElem? (i := 1018) (by decide +kernel), List.mem_of_getElem? (i := 1019) (by decide +kernel)⟩
theorem lw_p38 : lw_okq (⟨"HoldMapsModel", "placeOf", "(II)I"⟩, 18) := ⟨⟨by decide +kernel, by decide +kernel⟩, List.mem_of_getElem? (i := 853) (by decide +kernel), List.mem_of_getElem? (i := 1030) (by decide +kernel), List.mem_of_getElem? (i := 1031) (by decide +kernel)⟩
theorem lw_p39 : lw_okq (⟨"HoldMapsModel", "holdMaps", "()V"⟩, 18) := ⟨⟨by decide +kernel, by decide +kernel⟩, List.mem_of_getElem? (i := 853) (by decide +kernel), List.mem_of_getElem? (i := 1046) (by decide +kernel), List.mem_of_getElem? (i := 1047) (by decide +kernel)⟩
theorem lw_p40 : lw_okq (⟨"HoldMapsModel", "hold", "(I)V"⟩, 18) := ⟨⟨by decide +kernel, by decide +kernel⟩, List.mem_of_getElem? (i := 853) (by decide +kernel), List.mem_of_getElem? (i := 1050) (by decide +kernel), List.mem_of_getElem? (i := 1051) (by decide +kernel)⟩
theorem lw_p41 : lw_okq (⟨"HoldMapsModel", "spread", "()V"⟩, 18) := ⟨⟨by decide +kernel, by decide +kernel⟩, List.mem_of_getElem? (i := 853) (by decide +kernel), List.mem_of_getElem? (i := 1054) (by decide +kernel), List.mem_of_getElem? (i := 1055) (by decide +kernel)⟩
theorem lw_p42 : lw_okq (⟨"HoldMapsModel", "soften", "(I)V"⟩, 18) := ⟨⟨by decide +kernel, by decide +kernel⟩, List.mem_of_getElem? (i := 853) (by decide +kernel), List.mem_of_getElem? (i := 1058) (by decide +kernel), List.mem_of_getElem? (i := 1059) (by decide +kernel)⟩
def lw_privs_3 : List (MethodName × Nat) := [(⟨"HoldMapsModel", "doubleBuckets", "()V"⟩, 18), (⟨"HoldMapsModel", "putIdentity", "(II)V"⟩, 18), (⟨"HoldMapsModel", "close", "(II)V"⟩, 18), (⟨"HoldMapsModel", "use", "(II)V"⟩, 18), (⟨"HoldMapsModel", "goes", "(II)V"⟩, 18), (⟨"HoldMapsModel", "takeIdentity", "(I)V"⟩, 18), (⟨"HoldMapsModel", "placeOf", "(II)I"⟩, 18), (⟨"HoldMapsModel", "holdMaps", "()V"⟩, 18), (⟨"HoldMapsModel", "hold", "(I)V"⟩, 18), (⟨"HoldMapsModel", "spread", "()V"⟩, 18), (⟨"HoldMapsModel", "soften", "(I)V"⟩, 18)]
theorem lw_r3 : ∀ q ∈ lw_privs_3, lw_okq q := List.forall_mem_cons.mpr ⟨lw_p32, List.forall_mem_cons.mpr ⟨lw_p33, List.forall_mem_cons.mpr ⟨lw_p34, List.forall_mem_cons.mpr ⟨lw_p35, List.forall_mem_cons.mpr ⟨lw_p36, List.forall_mem_cons.mpr ⟨lw_p37, List.forall_mem_cons.mpr ⟨lw_p38, List.forall_mem_cons.mpr ⟨lw_p39, List.forall_mem_cons.mpr ⟨lw_p40, List.forall_mem_cons.mpr ⟨lw_p41, List.forall_mem_cons.mpr ⟨lw_p42, fun _ h => absurd h List.not_mem_nil⟩⟩⟩⟩⟩⟩⟩⟩⟩⟩⟩
def lw_privs : List (MethodName × Nat) := lw_privs_1 ++ (lw_privs_2 ++ (lw_privs_3))
def lw_tbl : List Cond := k2_sels lw_privs ++ tables_1
theorem lw_privs_ok : ∀ q ∈ lw_privs, lw_okq q := by
  show ∀ q ∈ lw_privs_1 ++ (lw_privs_2 ++ (lw_privs_3)), lw_okq q
  exact List.forall_mem_append.mpr ⟨lw_r1, List.forall_mem_append.mpr ⟨lw_r2, lw_r3⟩⟩
end
section
/-! Names, by my program (wip/tools/names.py) out of the statement: classes and their fields, methods, the words of the tables, what each instruction decodes to. -/
theorem lw_mem {i : Nat} {w : Cond} (h : tables_1[i]? = some w) : w ∈ lw_tbl := List.mem_append_right _ (List.mem_of_getElem? h)
/-- the words that stay true under warmer tables -/
def so_ok : Cond → Bool
  | .stringRef .. => false
  | .laysStatic .. => false
  | _ => true
def tbl : List Cond := lw_tbl.filter so_ok
theorem tbl_mem {i : Nat} {w : Cond} (h : tables_1[i]? = some w) (h2 : so_ok w = true) : w ∈ tbl := List.mem_filter.mpr ⟨lw_mem h, h2⟩
theorem tbl_sel {q : MethodName × Nat} (h : q ∈ lw_privs) : Cond.selects q.1.cls q.1 q.1 ∈ tbl := List.mem_filter.mpr ⟨List.mem_append_left _ (List.mem_map.mpr ⟨q, h, rfl⟩), rfl⟩
abbrev R_HM : String := "HoldMaps"
def F_HM : u_T := fun k => match k with
  | 0 => ("HoldMaps", "heap", "LHoldMaps$Heap;", true)
  | 1 => ("HoldMaps", "weak", "LHoldMaps$WeakMap;", true)
  | 2 => ("HoldMaps", "soft", "LHoldMaps$SoftMap;", true)
  | _ => ("HoldMaps", "tables", "[LHoldMaps$Table;", true)
def t_HM : Nat → FieldType := fun k => match k with
  | 0 => .object "HoldMaps$Heap"
  | 1 => .object "HoldMaps$WeakMap"
  | 2 => .object "HoldMaps$SoftMap"
  | _ => .array (.object "HoldMaps$Table")
theorem n_HM : ∀ a, a < 4 → ∀ b, b < 4 → a ≠ b → (F_HM a).2.1 ≠ (F_HM b).2.1 := by decide +kernel
theorem t_HM_ok : ∀ k, k < 4 → parseFieldDescriptor (F_HM k).2.2.1 = some (t_HM k) := by decide +kernel
theorem i_HM : ∀ w ∈ u_ws R_HM F_HM 4, w ∈ tbl := by decide +kernel
abbrev R_He : String := "HoldMaps$Heap"
def F_He : u_T := fun k => match k with
  | 0 => ("HoldMaps$Heap", "things", "[LHoldMaps$Thing;", true)
  | 1 => ("HoldMaps$Heap", "heldOnes", "[I", true)
  | 2 => ("HoldMaps$Heap", "heldCount", "I", false)
  | _ => ("HoldMaps$Heap", "collected", "I", false)
def t_He : Nat → FieldType := fun k => match k with
  | 0 => .array (.object "HoldMaps$Thing")
  | 1 => .array (.int)
  | 2 => .int
  | _ => .int
theorem n_He : ∀ a, a < 4 → ∀ b, b < 4 → a ≠ b → (F_He a).2.1 ≠ (F_He b).2.1 := by decide +kernel
theorem t_He_ok : ∀ k, k < 4 → parseFieldDescriptor (F_He k).2.2.1 = some (t_He k) := by decide +kernel
theorem i_He : ∀ w ∈ u_ws R_He F_He 4, w ∈ tbl := by decide +kernel
abbrev R_Th : String := "HoldMaps$Thing"
def F_Th : u_T := fun k => match k with
  | 0 => ("HoldMaps$Thing", "value", "I", true)
  | 1 => ("HoldMaps$Thing", "references", "[I", true)
  | 2 => ("HoldMaps$Thing", "isRoot", "Z", false)
  | _ => ("HoldMaps$Thing", "isHeld", "Z", false)
def t_Th : Nat → FieldType := fun k => match k with
  | 0 => .int
  | 1 => .array (.int)
  | 2 => .boolean
  | _ => .boolean
theorem n_Th : ∀ a, a < 4 → ∀ b, b < 4 → a ≠ b → (F_Th a).2.1 ≠ (F_Th b).2.1 := by decide +kernel
theorem t_Th_ok : ∀ k, k < 4 → parseFieldDescriptor (F_Th k).2.2.1 = some (t_Th k) := by decide +kernel
theorem i_Th : ∀ w ∈ u_ws R_Th F_Th 4, w ∈ tbl := by decide +kernel
abbrev R_En : String := "HoldMaps$Entry"
def F_En : u_T := fun k => match k with
  | 0 => ("HoldMaps$Entry", "key", "I", true)
  | 1 => ("HoldMaps$Entry", "mark", "I", true)
  | 2 => ("HoldMaps$Entry", "value", "I", false)
  | _ => ("HoldMaps$Entry", "use", "I", false)
def t_En : Nat → FieldType := fun k => match k with
  | 0 => .int
  | 1 => .int
  | 2 => .int
  | _ => .int
theorem n_En : ∀ a, a < 4 → ∀ b, b < 4 → a ≠ b → (F_En a).2.1 ≠ (F_En b).2.1 := by decide +kernel
theorem t_En_ok : ∀ k, k < 4 → parseFieldDescriptor (F_En k).2.2.1 = some (t_En k) := by decide +kernel
theorem i_En : ∀ w ∈ u_ws R_En F_En 4, w ∈ tbl := by decide +kernel
abbrev R_We : String := "HoldMaps$WeakMap"
def F_We : u_T := fun k => match k with
  | 0 => ("HoldMaps$Table", "hasWalk", "Z", false)
  | 1 => ("HoldMaps$Table", "isBroken", "Z", false)
  | 2 => ("HoldMaps$Table", "walked", "I", false)
  | 3 => ("HoldMaps$Row", "row", "Ljava/util/ArrayList;", true)
  | 4 => ("HoldMaps$WeakMap", "moving", "Ljava/util/ArrayList;", true)
  | _ => ("HoldMaps$WeakMap", "buckets", "I", false)
def t_We : Nat → FieldType := fun k => match k with
  | 0 => .boolean
  | 1 => .boolean
  | 2 => .int
  | 3 => .object "java/util/ArrayList"
  | 4 => .object "java/util/ArrayList"
  | _ => .int
theorem n_We : ∀ a, a < 6 → ∀ b, b < 6 → a ≠ b → (F_We a).2.1 ≠ (F_We b).2.1 := by decide +kernel
theorem t_We_ok : ∀ k, k < 6 → parseFieldDescriptor (F_We k).2.2.1 = some (t_We k) := by decide +kernel
theorem i_We : ∀ w ∈ u_ws R_We F_We 6, w ∈ tbl := by decide +kernel
abbrev R_So : String := "HoldMaps$SoftMap"
def F_So : u_T := fun k => match k with
  | 0 => ("HoldMaps$Table", "hasWalk", "Z", false)
  | 1 => ("HoldMaps$Table", "isBroken", "Z", false)
  | 2 => ("HoldMaps$Table", "walked", "I", false)
  | 3 => ("HoldMaps$Row", "row", "Ljava/util/ArrayList;", true)
  | _ => ("HoldMaps$SoftMap", "time", "I", false)
def t_So : Nat → FieldType := fun k => match k with
  | 0 => .boolean
  | 1 => .boolean
  | 2 => .int
  | 3 => .object "java/util/ArrayList"
  | _ => .int
theorem n_So : ∀ a, a < 5 → ∀ b, b < 5 → a ≠ b → (F_So a).2.1 ≠ (F_So b).2.1 := by decide +kernel
theorem t_So_ok : ∀ k, k < 5 → parseFieldDescriptor (F_So k).2.2.1 = some (t_So k) := by decide +kernel
theorem i_So : ∀ w ∈ u_ws R_So F_So 5, w ∈ tbl := by decide +kernel
abbrev R_Id : String := "HoldMaps$IdentityMap"
def F_Id : u_T := fun k => match k with
  | 0 => ("HoldMaps$Table", "hasWalk", "Z", false)
  | 1 => ("HoldMaps$Table", "isBroken", "Z", false)
  | 2 => ("HoldMaps$Table", "walked", "I", false)
  | 3 => ("HoldMaps$IdentityMap", "slots", "[LHoldMaps$Entry;", true)
  | _ => ("HoldMaps$IdentityMap", "entries", "I", false)
def t_Id : Nat → FieldType := fun k => match k with
  | 0 => .boolean
  | 1 => .boolean
  | 2 => .int
  | 3 => .array (.object "HoldMaps$Entry")
  | _ => .int
theorem n_Id : ∀ a, a < 5 → ∀ b, b < 5 → a ≠ b → (F_Id a).2.1 ≠ (F_Id b).2.1 := by decide +kernel
theorem t_Id_ok : ∀ k, k < 5 → parseFieldDescriptor (F_Id k).2.2.1 = some (t_Id k) := by decide +kernel
theorem i_Id : ∀ w ∈ u_ws R_Id F_Id 5, w ∈ tbl := by decide +kernel
abbrev R_Pl : String := "HoldMaps$PlacesMap"
def F_Pl : u_T := fun k => match k with
  | 0 => ("HoldMaps$Table", "hasWalk", "Z", false)
  | 1 => ("HoldMaps$Table", "isBroken", "Z", false)
  | 2 => ("HoldMaps$Table", "walked", "I", false)
  | _ => ("HoldMaps$Row", "row", "Ljava/util/ArrayList;", true)
def t_Pl : Nat → FieldType := fun k => match k with
  | 0 => .boolean
  | 1 => .boolean
  | 2 => .int
  | _ => .object "java/util/ArrayList"
theorem n_Pl : ∀ a, a < 4 → ∀ b, b < 4 → a ≠ b → (F_Pl a).2.1 ≠ (F_Pl b).2.1 := by decide +kernel
theorem t_Pl_ok : ∀ k, k < 4 → parseFieldDescriptor (F_Pl k).2.2.1 = some (t_Pl k) := by decide +kernel
theorem i_Pl : ∀ w ∈ u_ws R_Pl F_Pl 4, w ∈ tbl := by decide +kernel
abbrev R_La : String := "HoldMaps$LatestMap"
def F_La : u_T := fun k => match k with
  | 0 => ("HoldMaps$Table", "hasWalk", "Z", false)
  | 1 => ("HoldMaps$Table", "isBroken", "Z", false)
  | 2 => ("HoldMaps$Table", "walked", "I", false)
  | _ => ("HoldMaps$Row", "row", "Ljava/util/ArrayList;", true)
def t_La : Nat → FieldType := fun k => match k with
  | 0 => .boolean
  | 1 => .boolean
  | 2 => .int
  | _ => .object "java/util/ArrayList"
theorem n_La : ∀ a, a < 4 → ∀ b, b < 4 → a ≠ b → (F_La a).2.1 ≠ (F_La b).2.1 := by decide +kernel
theorem t_La_ok : ∀ k, k < 4 → parseFieldDescriptor (F_La k).2.2.1 = some (t_La k) := by decide +kernel
theorem i_La : ∀ w ∈ u_ws R_La F_La 4, w ∈ tbl := by decide +kernel
abbrev R_AL : String := "java/util/ArrayList"
def F_AL : u_T := fun k => match k with
  | 0 => ("java/util/AbstractList", "modCount", "I", false)
  | 1 => ("java/util/ArrayList", "elementData", "[Ljava/lang/Object;", false)
  | _ => ("java/util/ArrayList", "size", "I", false)
def t_AL : Nat → FieldType := fun k => match k with
  | 0 => .int
  | 1 => .array (.object "java/lang/Object")
  | _ => .int
theorem n_AL : ∀ a, a < 3 → ∀ b, b < 3 → a ≠ b → (F_AL a).2.1 ≠ (F_AL b).2.1 := by decide +kernel
theorem t_AL_ok : ∀ k, k < 3 → parseFieldDescriptor (F_AL k).2.2.1 = some (t_AL k) := by decide +kernel
theorem i_AL : ∀ w ∈ u_ws R_AL F_AL 3, w ∈ tbl := by decide +kernel
abbrev R_Mo : String := "HoldMapsModel"
def F_Mo : u_T := fun k => match k with
  | 0 => ("HoldMapsModel", "refusal", "I", false)
  | 1 => ("HoldMapsModel", "values", "[I", false)
  | 2 => ("HoldMapsModel", "first", "[I", false)
  | 3 => ("HoldMapsModel", "second", "[I", false)
  | 4 => ("HoldMapsModel", "there", "[Z", false)
  | 5 => ("HoldMapsModel", "roots", "[Z", false)
  | 6 => ("HoldMapsModel", "held", "[Z", false)
  | 7 => ("HoldMapsModel", "collected", "I", false)
  | 8 => ("HoldMapsModel", "keys", "[I", false)
  | 9 => ("HoldMapsModel", "what", "[I", false)
  | 10 => ("HoldMapsModel", "uses", "[I", false)
  | 11 => ("HoldMapsModel", "sizes", "[I", false)
  | 12 => ("HoldMapsModel", "buckets", "I", false)
  | 13 => ("HoldMapsModel", "old", "[I", false)
  | 14 => ("HoldMapsModel", "time", "I", false)
  | 15 => ("HoldMapsModel", "walks", "[Z", false)
  | 16 => ("HoldMapsModel", "broken", "[Z", false)
  | _ => ("HoldMapsModel", "at", "[I", false)
def t_Mo : Nat → FieldType := fun k => match k with
  | 0 => .int
  | 1 => .array (.int)
  | 2 => .array (.int)
  | 3 => .array (.int)
  | 4 => .array (.boolean)
  | 5 => .array (.boolean)
  | 6 => .array (.boolean)
  | 7 => .int
  | 8 => .array (.int)
  | 9 => .array (.int)
  | 10 => .array (.int)
  | 11 => .array (.int)
  | 12 => .int
  | 13 => .array (.int)
  | 14 => .int
  | 15 => .array (.boolean)
  | 16 => .array (.boolean)
  | _ => .array (.int)
theorem n_Mo : ∀ a, a < 18 → ∀ b, b < 18 → a ≠ b → (F_Mo a).2.1 ≠ (F_Mo b).2.1 := by decide +kernel
theorem t_Mo_ok : ∀ k, k < 18 → parseFieldDescriptor (F_Mo k).2.2.1 = some (t_Mo k) := by decide +kernel
theorem i_Mo : ∀ w ∈ u_ws R_Mo F_Mo 18, w ∈ tbl := by decide +kernel
/-- the classes whose objects the store holds: an object names its class by its place here -/
def vcl : List vw_C := [(R_HM, F_HM, 4), (R_He, F_He, 4), (R_Th, F_Th, 4), (R_En, F_En, 4), (R_We, F_We, 6), (R_So, F_So, 5), (R_Id, F_Id, 5), (R_Pl, F_Pl, 4), (R_La, F_La, 4), (R_AL, F_AL, 3), (R_Mo, F_Mo, 18)]
abbrev b_HM_init : ByteArray := prog_1_method_1_code
abbrev y_HM_init : MethodName := ⟨"HoldMaps", "<init>", "()V"⟩
abbrev b_Ob_init : ByteArray := object_method_1_code
abbrev y_Ob_init : MethodName := ⟨"java/lang/Object", "<init>", "()V"⟩
abbrev b_He_init : ByteArray := prog_3_method_1_code
abbrev y_He_init : MethodName := ⟨"HoldMaps$Heap", "<init>", "()V"⟩
abbrev b_We_init : ByteArray := prog_11_method_1_code
abbrev y_We_init : MethodName := ⟨"HoldMaps$WeakMap", "<init>", "()V"⟩
abbrev b_Ro_init : ByteArray := prog_7_method_1_code
abbrev y_Ro_init : MethodName := ⟨"HoldMaps$Row", "<init>", "()V"⟩
abbrev b_Ta_init : ByteArray := prog_9_method_1_code
abbrev y_Ta_init : MethodName := ⟨"HoldMaps$Table", "<init>", "()V"⟩
abbrev b_AL_init : ByteArray := prog_27_method_2_code
abbrev y_AL_init : MethodName := ⟨"java/util/ArrayList", "<init>", "()V"⟩
abbrev b_Ab_init : ByteArray := prog_26_method_1_code
abbrev y_Ab_init : MethodName := ⟨"java/util/AbstractList", "<init>", "()V"⟩
abbrev b_Ac_init : ByteArray := prog_25_method_1_code
abbrev y_Ac_init : MethodName := ⟨"java/util/AbstractCollection", "<init>", "()V"⟩
abbrev b_So_init : ByteArray := prog_8_method_1_code
abbrev y_So_init : MethodName := ⟨"HoldMaps$SoftMap", "<init>", "()V"⟩
abbrev b_Id_init : ByteArray := prog_4_method_1_code
abbrev y_Id_init : MethodName := ⟨"HoldMaps$IdentityMap", "<init>", "()V"⟩
abbrev b_Pl_init : ByteArray := prog_6_method_1_code
abbrev y_Pl_init : MethodName := ⟨"HoldMaps$PlacesMap", "<init>", "()V"⟩
abbrev b_La_init : ByteArray := prog_5_method_1_code
abbrev y_La_init : MethodName := ⟨"HoldMaps$LatestMap", "<init>", "()V"⟩
abbrev b_HM_size : ByteArray := prog_1_method_8_code
abbrev y_HM_size : MethodName := ⟨"HoldMaps", "size", "(I)I"⟩
abbrev b_HM_isMap : ByteArray := prog_1_method_15_code
abbrev y_HM_isMap : MethodName := ⟨"HoldMaps", "isMap", "(I)Z"⟩
abbrev b_Id_length : ByteArray := prog_4_method_2_code
abbrev y_Id_length : MethodName := ⟨"HoldMaps$IdentityMap", "length", "()I"⟩
abbrev b_Ro_length : ByteArray := prog_7_method_2_code
abbrev y_Ro_length : MethodName := ⟨"HoldMaps$Row", "length", "()I"⟩
abbrev b_AL_size : ByteArray := prog_27_method_8_code
abbrev y_AL_size : MethodName := ⟨"java/util/ArrayList", "size", "()I"⟩
abbrev b_HM_value : ByteArray := prog_1_method_13_code
abbrev y_HM_value : MethodName := ⟨"HoldMaps", "value", "(I)I"⟩
abbrev b_He_has : ByteArray := prog_3_method_2_code
abbrev y_He_has : MethodName := ⟨"HoldMaps$Heap", "has", "(I)Z"⟩
abbrev b_HM_count : ByteArray := prog_1_method_14_code
abbrev y_HM_count : MethodName := ⟨"HoldMaps", "count", "(I)I"⟩
abbrev b_He_living : ByteArray := prog_3_method_4_code
abbrev y_He_living : MethodName := ⟨"HoldMaps$Heap", "living", "()I"⟩
abbrev b_Lw_make : ByteArray := method_3_code
abbrev y_Lw_make : MethodName := ⟨"HoldMapsLaw", "make", "(LHoldMaps;I[J)I"⟩
abbrev b_HM_make : ByteArray := prog_1_method_2_code
abbrev y_HM_make : MethodName := ⟨"HoldMaps", "make", "(I)I"⟩
abbrev b_Tw_init : ByteArray := prog_24_method_1_code
abbrev y_Tw_init : MethodName := ⟨"java/lang/Throwable", "<init>", "()V"⟩
abbrev b_Tw_init2 : ByteArray := prog_24_method_2_code
abbrev y_Tw_init2 : MethodName := ⟨"java/lang/Throwable", "<init>", "(Ljava/lang/String;)V"⟩
abbrev b_Tw_fillInStackTrace : ByteArray := prog_24_method_18_code
abbrev y_Tw_fillInStackTrace : MethodName := ⟨"java/lang/Throwable", "fillInStackTrace", "()Ljava/lang/Throwable;"⟩
abbrev b_Ia_init : ByteArray := prog_17_method_2_code
abbrev y_Ia_init : MethodName := ⟨"java/lang/IllegalArgumentException", "<init>", "(Ljava/lang/String;)V"⟩
abbrev b_Re_init : ByteArray := prog_21_method_2_code
abbrev y_Re_init : MethodName := ⟨"java/lang/RuntimeException", "<init>", "(Ljava/lang/String;)V"⟩
abbrev b_Ex_init : ByteArray := prog_16_method_2_code
abbrev y_Ex_init : MethodName := ⟨"java/lang/Exception", "<init>", "(Ljava/lang/String;)V"⟩
abbrev b_He_lowestFree : ByteArray := prog_3_method_3_code
abbrev y_He_lowestFree : MethodName := ⟨"HoldMaps$Heap", "lowestFree", "()I"⟩
abbrev b_Is_init : ByteArray := prog_18_method_2_code
abbrev y_Is_init : MethodName := ⟨"java/lang/IllegalStateException", "<init>", "(Ljava/lang/String;)V"⟩
abbrev b_Th_init : ByteArray := prog_10_method_1_code
abbrev y_Th_init : MethodName := ⟨"HoldMaps$Thing", "<init>", "(I)V"⟩
abbrev b_Lw_refer : ByteArray := method_4_code
abbrev y_Lw_refer : MethodName := ⟨"HoldMapsLaw", "refer", "(LHoldMaps;III[J)I"⟩
abbrev b_HM_refer : ByteArray := prog_1_method_3_code
abbrev y_HM_refer : MethodName := ⟨"HoldMaps", "refer", "(III)I"⟩
abbrev b_Lw_root : ByteArray := method_5_code
abbrev y_Lw_root : MethodName := ⟨"HoldMapsLaw", "root", "(LHoldMaps;IZ[J)I"⟩
abbrev b_HM_root : ByteArray := prog_1_method_4_code
abbrev y_HM_root : MethodName := ⟨"HoldMaps", "root", "(IZ)Z"⟩
abbrev b_Lw_put : ByteArray := method_6_code
abbrev y_Lw_put : MethodName := ⟨"HoldMapsLaw", "put", "(LHoldMaps;III[J)I"⟩
abbrev b_HM_put : ByteArray := prog_1_method_5_code
abbrev y_HM_put : MethodName := ⟨"HoldMaps", "put", "(III)I"⟩
abbrev b_HM_isKeyOf : ByteArray := prog_1_method_16_code
abbrev y_HM_isKeyOf : MethodName := ⟨"HoldMaps", "isKeyOf", "(II)Z"⟩
abbrev b_Pl_takes : ByteArray := prog_6_method_4_code
abbrev y_Pl_takes : MethodName := ⟨"HoldMaps$PlacesMap", "takes", "(I)Z"⟩
abbrev b_Ta_takes : ByteArray := prog_9_method_11_code
abbrev y_Ta_takes : MethodName := ⟨"HoldMaps$Table", "takes", "(I)Z"⟩
abbrev b_Id_markOf : ByteArray := prog_4_method_6_code
abbrev y_Id_markOf : MethodName := ⟨"HoldMaps$IdentityMap", "markOf", "(II)I"⟩
abbrev b_Ta_markOf : ByteArray := prog_9_method_9_code
abbrev y_Ta_markOf : MethodName := ⟨"HoldMaps$Table", "markOf", "(II)I"⟩
abbrev b_Ta_find : ByteArray := prog_9_method_8_code
abbrev y_Ta_find : MethodName := ⟨"HoldMaps$Table", "find", "(I)I"⟩
abbrev b_Id_entryAt : ByteArray := prog_4_method_3_code
abbrev y_Id_entryAt : MethodName := ⟨"HoldMaps$IdentityMap", "entryAt", "(I)LHoldMaps$Entry;"⟩
abbrev b_Id_slotOf : ByteArray := prog_4_method_8_code
abbrev y_Id_slotOf : MethodName := ⟨"HoldMaps$IdentityMap", "slotOf", "(I)I"⟩
abbrev b_Ro_entryAt : ByteArray := prog_7_method_3_code
abbrev y_Ro_entryAt : MethodName := ⟨"HoldMaps$Row", "entryAt", "(I)LHoldMaps$Entry;"⟩
abbrev b_AL_get : ByteArray := prog_27_method_20_code
abbrev y_AL_get : MethodName := ⟨"java/util/ArrayList", "get", "(I)Ljava/lang/Object;"⟩
abbrev b_Os_checkIndex : ByteArray := prog_32_method_17_code
abbrev y_Os_checkIndex : MethodName := ⟨"java/util/Objects", "checkIndex", "(II)I"⟩
abbrev b_Pr_checkIndex : ByteArray := prog_36_method_11_code
abbrev y_Pr_checkIndex : MethodName := ⟨"jdk/internal/util/Preconditions", "checkIndex", "(IILjava/util/function/BiFunction;)I"⟩
abbrev b_AL_elementData : ByteArray := prog_27_method_18_code
abbrev y_AL_elementData : MethodName := ⟨"java/util/ArrayList", "elementData", "(I)Ljava/lang/Object;"⟩
abbrev b_Id_isFull : ByteArray := prog_4_method_7_code
abbrev y_Id_isFull : MethodName := ⟨"HoldMaps$IdentityMap", "isFull", "()Z"⟩
abbrev b_Ta_isFull : ByteArray := prog_9_method_12_code
abbrev y_Ta_isFull : MethodName := ⟨"HoldMaps$Table", "isFull", "()Z"⟩
abbrev b_So_tick : ByteArray := prog_8_method_3_code
abbrev y_So_tick : MethodName := ⟨"HoldMaps$SoftMap", "tick", "()V"⟩
abbrev b_Ta_tick : ByteArray := prog_9_method_13_code
abbrev y_Ta_tick : MethodName := ⟨"HoldMaps$Table", "tick", "()V"⟩
abbrev b_Pl_keyOf : ByteArray := prog_6_method_3_code
abbrev y_Pl_keyOf : MethodName := ⟨"HoldMaps$PlacesMap", "keyOf", "(II)I"⟩
abbrev b_Ta_keyOf : ByteArray := prog_9_method_10_code
abbrev y_Ta_keyOf : MethodName := ⟨"HoldMaps$Table", "keyOf", "(II)I"⟩
abbrev b_En_init : ByteArray := prog_2_method_1_code
abbrev y_En_init : MethodName := ⟨"HoldMaps$Entry", "<init>", "(III)V"⟩
abbrev b_Id_add : ByteArray := prog_4_method_4_code
abbrev y_Id_add : MethodName := ⟨"HoldMaps$IdentityMap", "add", "(LHoldMaps$Entry;)V"⟩
abbrev b_Id_firstSlot : ByteArray := prog_4_method_9_code
abbrev y_Id_firstSlot : MethodName := ⟨"HoldMaps$IdentityMap", "firstSlot", "(LHoldMaps$Entry;)I"⟩
abbrev b_La_add : ByteArray := prog_5_method_2_code
abbrev y_La_add : MethodName := ⟨"HoldMaps$LatestMap", "add", "(LHoldMaps$Entry;)V"⟩
abbrev b_Ro_append : ByteArray := prog_7_method_5_code
abbrev y_Ro_append : MethodName := ⟨"HoldMaps$Row", "append", "(LHoldMaps$Entry;)V"⟩
abbrev b_AL_add : ByteArray := prog_27_method_25_code
abbrev y_AL_add : MethodName := ⟨"java/util/ArrayList", "add", "(Ljava/lang/Object;)Z"⟩
abbrev b_AL_add2 : ByteArray := prog_27_method_24_code
abbrev y_AL_add2 : MethodName := ⟨"java/util/ArrayList", "add", "(Ljava/lang/Object;[Ljava/lang/Object;I)V"⟩
abbrev b_AL_add3 : ByteArray := prog_27_method_26_code
abbrev y_AL_add3 : MethodName := ⟨"java/util/ArrayList", "add", "(ILjava/lang/Object;)V"⟩
abbrev b_AL_grow : ByteArray := prog_27_method_7_code
abbrev y_AL_grow : MethodName := ⟨"java/util/ArrayList", "grow", "()[Ljava/lang/Object;"⟩
abbrev b_AL_grow2 : ByteArray := prog_27_method_6_code
abbrev y_AL_grow2 : MethodName := ⟨"java/util/ArrayList", "grow", "(I)[Ljava/lang/Object;"⟩
abbrev b_As_newLength : ByteArray := prog_35_method_27_code
abbrev y_As_newLength : MethodName := ⟨"jdk/internal/util/ArraysSupport", "newLength", "(III)I"⟩
abbrev b_Ma_max : ByteArray := prog_20_method_65_code
abbrev y_Ma_max : MethodName := ⟨"java/lang/Math", "max", "(II)I"⟩
abbrev b_As_hugeLength : ByteArray := prog_35_method_28_code
abbrev y_As_hugeLength : MethodName := ⟨"jdk/internal/util/ArraysSupport", "hugeLength", "(II)I"⟩
abbrev b_Ar_copyOf : ByteArray := prog_28_method_119_code
abbrev y_Ar_copyOf : MethodName := ⟨"java/util/Arrays", "copyOf", "([Ljava/lang/Object;I)[Ljava/lang/Object;"⟩
abbrev b_Ar_copyOf2 : ByteArray := prog_28_method_120_code
abbrev y_Ar_copyOf2 : MethodName := ⟨"java/util/Arrays", "copyOf", "([Ljava/lang/Object;ILjava/lang/Class;)[Ljava/lang/Object;"⟩
abbrev b_Ma_min : ByteArray := prog_20_method_69_code
abbrev y_Ma_min : MethodName := ⟨"java/lang/Math", "min", "(II)I"⟩
abbrev b_Ro_dropAt : ByteArray := prog_7_method_4_code
abbrev y_Ro_dropAt : MethodName := ⟨"HoldMaps$Row", "dropAt", "(I)V"⟩
abbrev b_AL_remove : ByteArray := prog_27_method_29_code
abbrev y_AL_remove : MethodName := ⟨"java/util/ArrayList", "remove", "(I)Ljava/lang/Object;"⟩
abbrev b_AL_fastRemove : ByteArray := prog_27_method_39_code
abbrev y_AL_fastRemove : MethodName := ⟨"java/util/ArrayList", "fastRemove", "([Ljava/lang/Object;I)V"⟩
abbrev b_Pl_add : ByteArray := prog_6_method_2_code
abbrev y_Pl_add : MethodName := ⟨"HoldMaps$PlacesMap", "add", "(LHoldMaps$Entry;)V"⟩
abbrev b_AL_rangeCheckForAdd : ByteArray := prog_27_method_45_code
abbrev y_AL_rangeCheckForAdd : MethodName := ⟨"java/util/ArrayList", "rangeCheckForAdd", "(I)V"⟩
abbrev b_So_add : ByteArray := prog_8_method_2_code
abbrev y_So_add : MethodName := ⟨"HoldMaps$SoftMap", "add", "(LHoldMaps$Entry;)V"⟩
abbrev b_We_add : ByteArray := prog_11_method_2_code
abbrev y_We_add : MethodName := ⟨"HoldMaps$WeakMap", "add", "(LHoldMaps$Entry;)V"⟩
abbrev b_We_addToBucket : ByteArray := prog_11_method_3_code
abbrev y_We_addToBucket : MethodName := ⟨"HoldMaps$WeakMap", "addToBucket", "(LHoldMaps$Entry;)V"⟩
abbrev b_We_bucketOf : ByteArray := prog_11_method_4_code
abbrev y_We_bucketOf : MethodName := ⟨"HoldMaps$WeakMap", "bucketOf", "(LHoldMaps$Entry;)I"⟩
abbrev b_We_doubleBuckets : ByteArray := prog_11_method_5_code
abbrev y_We_doubleBuckets : MethodName := ⟨"HoldMaps$WeakMap", "doubleBuckets", "()V"⟩
abbrev b_AL_clear : ByteArray := prog_27_method_40_code
abbrev y_AL_clear : MethodName := ⟨"java/util/ArrayList", "clear", "()V"⟩
abbrev b_La_use : ByteArray := prog_5_method_3_code
abbrev y_La_use : MethodName := ⟨"HoldMaps$LatestMap", "use", "(I)V"⟩
abbrev b_So_use : ByteArray := prog_8_method_4_code
abbrev y_So_use : MethodName := ⟨"HoldMaps$SoftMap", "use", "(I)V"⟩
abbrev b_Ta_use : ByteArray := prog_9_method_14_code
abbrev y_Ta_use : MethodName := ⟨"HoldMaps$Table", "use", "(I)V"⟩
abbrev b_Lw_get : ByteArray := method_7_code
abbrev y_Lw_get : MethodName := ⟨"HoldMapsLaw", "get", "(LHoldMaps;II[J)I"⟩
abbrev b_HM_get : ByteArray := prog_1_method_6_code
abbrev y_HM_get : MethodName := ⟨"HoldMaps", "get", "(II)I"⟩
abbrev b_Ta_valueAt : ByteArray := prog_9_method_7_code
abbrev y_Ta_valueAt : MethodName := ⟨"HoldMaps$Table", "valueAt", "(I)I"⟩
abbrev b_Lw_remove : ByteArray := method_8_code
abbrev y_Lw_remove : MethodName := ⟨"HoldMapsLaw", "remove", "(LHoldMaps;II[J)I"⟩
abbrev b_HM_remove : ByteArray := prog_1_method_7_code
abbrev y_HM_remove : MethodName := ⟨"HoldMaps", "remove", "(II)I"⟩
abbrev b_Id_dropAt : ByteArray := prog_4_method_5_code
abbrev y_Id_dropAt : MethodName := ⟨"HoldMaps$IdentityMap", "dropAt", "(I)V"⟩
abbrev b_Id_closeUp : ByteArray := prog_4_method_10_code
abbrev y_Id_closeUp : MethodName := ⟨"HoldMaps$IdentityMap", "closeUp", "(I)V"⟩
abbrev b_Id_liesBehind : ByteArray := prog_4_method_11_code
abbrev y_Id_liesBehind : MethodName := ⟨"HoldMaps$IdentityMap", "liesBehind", "(III)Z"⟩
abbrev b_Ma_floorMod : ByteArray := prog_20_method_50_code
abbrev y_Ma_floorMod : MethodName := ⟨"java/lang/Math", "floorMod", "(II)I"⟩
abbrev b_Lw_entry : ByteArray := method_9_code
abbrev y_Lw_entry : MethodName := ⟨"HoldMapsLaw", "entry", "(LHoldMaps;III[J)I"⟩
abbrev b_HM_entry : ByteArray := prog_1_method_9_code
abbrev y_HM_entry : MethodName := ⟨"HoldMaps", "entry", "(III)I"⟩
abbrev b_Ns_init : ByteArray := prog_31_method_4_code
abbrev y_Ns_init : MethodName := ⟨"java/util/NoSuchElementException", "<init>", "(Ljava/lang/String;)V"⟩
abbrev b_Ta_keyAt : ByteArray := prog_9_method_6_code
abbrev y_Ta_keyAt : MethodName := ⟨"HoldMaps$Table", "keyAt", "(I)I"⟩
abbrev b_Lw_walk : ByteArray := method_10_code
abbrev y_Lw_walk : MethodName := ⟨"HoldMapsLaw", "walk", "(LHoldMaps;I)I"⟩
abbrev b_HM_walk : ByteArray := prog_1_method_10_code
abbrev y_HM_walk : MethodName := ⟨"HoldMaps", "walk", "(I)V"⟩
abbrev b_Lw_step : ByteArray := method_11_code
abbrev y_Lw_step : MethodName := ⟨"HoldMapsLaw", "step", "(LHoldMaps;I[J)I"⟩
abbrev b_HM_step : ByteArray := prog_1_method_11_code
abbrev y_HM_step : MethodName := ⟨"HoldMaps", "step", "(I)I"⟩
abbrev b_Lw_collect : ByteArray := method_12_code
abbrev y_Lw_collect : MethodName := ⟨"HoldMapsLaw", "collect", "(LHoldMaps;I[J)I"⟩
abbrev b_HM_collect : ByteArray := prog_1_method_12_code
abbrev y_HM_collect : MethodName := ⟨"HoldMaps", "collect", "(I)I"⟩
abbrev b_He_holdRootsOnly : ByteArray := prog_3_method_6_code
abbrev y_He_holdRootsOnly : MethodName := ⟨"HoldMaps$Heap", "holdRootsOnly", "()V"⟩
abbrev b_He_hold : ByteArray := prog_3_method_7_code
abbrev y_He_hold : MethodName := ⟨"HoldMaps$Heap", "hold", "(I)V"⟩
abbrev b_He_mark : ByteArray := prog_3_method_9_code
abbrev y_He_mark : MethodName := ⟨"HoldMaps$Heap", "mark", "(I)V"⟩
abbrev b_He_markWhatItRefersTo : ByteArray := prog_3_method_8_code
abbrev y_He_markWhatItRefersTo : MethodName := ⟨"HoldMaps$Heap", "markWhatItRefersTo", "(I)V"⟩
abbrev b_HM_holdWhatMapsHold : ByteArray := prog_1_method_17_code
abbrev y_HM_holdWhatMapsHold : MethodName := ⟨"HoldMaps", "holdWhatMapsHold", "()V"⟩
abbrev b_HM_holdKeys : ByteArray := prog_1_method_18_code
abbrev y_HM_holdKeys : MethodName := ⟨"HoldMaps", "holdKeys", "(LHoldMaps$Table;)V"⟩
abbrev b_HM_holdValues : ByteArray := prog_1_method_19_code
abbrev y_HM_holdValues : MethodName := ⟨"HoldMaps", "holdValues", "(LHoldMaps$Table;)V"⟩
abbrev b_HM_dropSoftEntries : ByteArray := prog_1_method_20_code
abbrev y_HM_dropSoftEntries : MethodName := ⟨"HoldMaps", "dropSoftEntries", "(I)V"⟩
abbrev b_So_usedFirstAfter : ByteArray := prog_8_method_5_code
abbrev y_So_usedFirstAfter : MethodName := ⟨"HoldMaps$SoftMap", "usedFirstAfter", "(I)I"⟩
abbrev b_He_isHeld : ByteArray := prog_3_method_5_code
abbrev y_He_isHeld : MethodName := ⟨"HoldMaps$Heap", "isHeld", "(I)Z"⟩
abbrev b_HM_dropWeakEntries : ByteArray := prog_1_method_21_code
abbrev y_HM_dropWeakEntries : MethodName := ⟨"HoldMaps", "dropWeakEntries", "()V"⟩
abbrev b_He_sweep : ByteArray := prog_3_method_10_code
abbrev y_He_sweep : MethodName := ⟨"HoldMaps$Heap", "sweep", "()I"⟩
abbrev b_Mo_init : ByteArray := prog_13_method_1_code
abbrev y_Mo_init : MethodName := ⟨"HoldMapsModel", "<init>", "()V"⟩
abbrev b_Mo_thrown : ByteArray := prog_13_method_2_code
abbrev y_Mo_thrown : MethodName := ⟨"HoldMapsModel", "thrown", "()I"⟩
abbrev b_Mo_make : ByteArray := prog_13_method_5_code
abbrev y_Mo_make : MethodName := ⟨"HoldMapsModel", "make", "(I)I"⟩
abbrev b_Mo_refuse : ByteArray := prog_13_method_3_code
abbrev y_Mo_refuse : MethodName := ⟨"HoldMapsModel", "refuse", "(I)I"⟩
abbrev b_Mo_refer : ByteArray := prog_13_method_6_code
abbrev y_Mo_refer : MethodName := ⟨"HoldMapsModel", "refer", "(III)I"⟩
abbrev b_Mo_isObject : ByteArray := prog_13_method_4_code
abbrev y_Mo_isObject : MethodName := ⟨"HoldMapsModel", "isObject", "(I)Z"⟩
abbrev b_Mo_root : ByteArray := prog_13_method_7_code
abbrev y_Mo_root : MethodName := ⟨"HoldMapsModel", "root", "(IZ)Z"⟩
abbrev b_Mo_put : ByteArray := prog_13_method_26_code
abbrev y_Mo_put : MethodName := ⟨"HoldMapsModel", "put", "(III)I"⟩
abbrev b_Mo_isMap : ByteArray := prog_13_method_21_code
abbrev y_Mo_isMap : MethodName := ⟨"HoldMapsModel", "isMap", "(I)Z"⟩
abbrev b_Mo_isKey : ByteArray := prog_13_method_22_code
abbrev y_Mo_isKey : MethodName := ⟨"HoldMapsModel", "isKey", "(II)Z"⟩
abbrev b_Mo_find : ByteArray := prog_13_method_11_code
abbrev y_Mo_find : MethodName := ⟨"HoldMapsModel", "find", "(II)I"⟩
abbrev b_Mo_endd : ByteArray := prog_13_method_9_code
abbrev y_Mo_endd : MethodName := ⟨"HoldMapsModel", "end", "(I)I"⟩
abbrev b_Mo_isSame : ByteArray := prog_13_method_10_code
abbrev y_Mo_isSame : MethodName := ⟨"HoldMapsModel", "isSame", "(III)Z"⟩
abbrev b_Mo_comes : ByteArray := prog_13_method_24_code
abbrev y_Mo_comes : MethodName := ⟨"HoldMapsModel", "comes", "(III)V"⟩
abbrev b_Mo_change : ByteArray := prog_13_method_8_code
abbrev y_Mo_change : MethodName := ⟨"HoldMapsModel", "change", "(I)V"⟩
abbrev b_Mo_putWeak : ByteArray := prog_13_method_16_code
abbrev y_Mo_putWeak : MethodName := ⟨"HoldMapsModel", "putWeak", "(II)V"⟩
abbrev b_Mo_bucketOf : ByteArray := prog_13_method_15_code
abbrev y_Mo_bucketOf : MethodName := ⟨"HoldMapsModel", "bucketOf", "(I)I"⟩
abbrev b_Mo_openn : ByteArray := prog_13_method_13_code
abbrev y_Mo_openn : MethodName := ⟨"HoldMapsModel", "open", "(IIII)V"⟩
abbrev b_Mo_set : ByteArray := prog_13_method_12_code
abbrev y_Mo_set : MethodName := ⟨"HoldMapsModel", "set", "(III)V"⟩
abbrev b_Mo_doubleBuckets : ByteArray := prog_13_method_17_code
abbrev y_Mo_doubleBuckets : MethodName := ⟨"HoldMapsModel", "doubleBuckets", "()V"⟩
abbrev b_Mo_putIdentity : ByteArray := prog_13_method_19_code
abbrev y_Mo_putIdentity : MethodName := ⟨"HoldMapsModel", "putIdentity", "(II)V"⟩
abbrev b_Mo_slotOf : ByteArray := prog_13_method_18_code
abbrev y_Mo_slotOf : MethodName := ⟨"HoldMapsModel", "slotOf", "(I)I"⟩
abbrev b_Mo_close : ByteArray := prog_13_method_14_code
abbrev y_Mo_close : MethodName := ⟨"HoldMapsModel", "close", "(II)V"⟩
abbrev b_Mo_use : ByteArray := prog_13_method_23_code
abbrev y_Mo_use : MethodName := ⟨"HoldMapsModel", "use", "(II)V"⟩
abbrev b_Mo_get : ByteArray := prog_13_method_27_code
abbrev y_Mo_get : MethodName := ⟨"HoldMapsModel", "get", "(II)I"⟩
abbrev b_Mo_remove : ByteArray := prog_13_method_28_code
abbrev y_Mo_remove : MethodName := ⟨"HoldMapsModel", "remove", "(II)I"⟩
abbrev b_Mo_goes : ByteArray := prog_13_method_25_code
abbrev y_Mo_goes : MethodName := ⟨"HoldMapsModel", "goes", "(II)V"⟩
abbrev b_Mo_takeIdentity : ByteArray := prog_13_method_20_code
abbrev y_Mo_takeIdentity : MethodName := ⟨"HoldMapsModel", "takeIdentity", "(I)V"⟩
abbrev b_Mo_size : ByteArray := prog_13_method_29_code
abbrev y_Mo_size : MethodName := ⟨"HoldMapsModel", "size", "(I)I"⟩
abbrev b_Mo_entry : ByteArray := prog_13_method_31_code
abbrev y_Mo_entry : MethodName := ⟨"HoldMapsModel", "entry", "(III)I"⟩
abbrev b_Mo_placeOf : ByteArray := prog_13_method_30_code
abbrev y_Mo_placeOf : MethodName := ⟨"HoldMapsModel", "placeOf", "(II)I"⟩
abbrev b_Mo_walk : ByteArray := prog_13_method_32_code
abbrev y_Mo_walk : MethodName := ⟨"HoldMapsModel", "walk", "(I)V"⟩
abbrev b_Mo_step : ByteArray := prog_13_method_33_code
abbrev y_Mo_step : MethodName := ⟨"HoldMapsModel", "step", "(I)I"⟩
abbrev b_Mo_collect : ByteArray := prog_13_method_38_code
abbrev y_Mo_collect : MethodName := ⟨"HoldMapsModel", "collect", "(I)I"⟩
abbrev b_Mo_holdMaps : ByteArray := prog_13_method_36_code
abbrev y_Mo_holdMaps : MethodName := ⟨"HoldMapsModel", "holdMaps", "()V"⟩
abbrev b_Mo_hold : ByteArray := prog_13_method_34_code
abbrev y_Mo_hold : MethodName := ⟨"HoldMapsModel", "hold", "(I)V"⟩
abbrev b_Mo_spread : ByteArray := prog_13_method_35_code
abbrev y_Mo_spread : MethodName := ⟨"HoldMapsModel", "spread", "()V"⟩
abbrev b_Mo_soften : ByteArray := prog_13_method_37_code
abbrev y_Mo_soften : MethodName := ⟨"HoldMapsModel", "soften", "(I)V"⟩
abbrev b_Mo_value : ByteArray := prog_13_method_39_code
abbrev y_Mo_value : MethodName := ⟨"HoldMapsModel", "value", "(I)I"⟩
abbrev b_Mo_count : ByteArray := prog_13_method_40_code
abbrev y_Mo_count : MethodName := ⟨"HoldMapsModel", "count", "(I)I"⟩
-- the words
theorem wd_0 : (Cond.initialized "HoldMapsLaw") ∈ tbl := tbl_mem (i := 0) (by decide +kernel) rfl
theorem wd_1 : (Cond.initialized "HoldMaps") ∈ tbl := tbl_mem (i := 1) (by decide +kernel) rfl
theorem wd_2 : (Cond.initialized "HoldMaps$Heap") ∈ tbl := tbl_mem (i := 2) (by decide +kernel) rfl
theorem wd_3 : (Cond.initialized "HoldMaps$Table") ∈ tbl := tbl_mem (i := 3) (by decide +kernel) rfl
theorem wd_4 : (Cond.initialized "HoldMaps$Row") ∈ tbl := tbl_mem (i := 4) (by decide +kernel) rfl
theorem wd_5 : (Cond.initialized "HoldMaps$WeakMap") ∈ tbl := tbl_mem (i := 5) (by decide +kernel) rfl
theorem wd_6 : (Cond.initialized "java/util/AbstractCollection") ∈ tbl := tbl_mem (i := 6) (by decide +kernel) rfl
theorem wd_7 : (Cond.initialized "java/util/AbstractList") ∈ tbl := tbl_mem (i := 7) (by decide +kernel) rfl
theorem wd_8 : (Cond.initialized "java/util/ArrayList") ∈ tbl := tbl_mem (i := 8) (by decide +kernel) rfl
theorem wd_9 : (Cond.initialized "HoldMaps$SoftMap") ∈ tbl := tbl_mem (i := 9) (by decide +kernel) rfl
theorem wd_10 : (Cond.initialized "HoldMaps$IdentityMap") ∈ tbl := tbl_mem (i := 10) (by decide +kernel) rfl
theorem wd_11 : (Cond.initialized "HoldMaps$PlacesMap") ∈ tbl := tbl_mem (i := 11) (by decide +kernel) rfl
theorem wd_12 : (Cond.initialized "HoldMaps$LatestMap") ∈ tbl := tbl_mem (i := 12) (by decide +kernel) rfl
theorem wd_13 : (Cond.initialized "HoldMapsModel") ∈ tbl := tbl_mem (i := 13) (by decide +kernel) rfl
theorem wd_14 : (Cond.initialized "java/lang/Throwable") ∈ tbl := tbl_mem (i := 14) (by decide +kernel) rfl
theorem wd_15 : (Cond.initialized "java/lang/Exception") ∈ tbl := tbl_mem (i := 15) (by decide +kernel) rfl
theorem wd_16 : (Cond.initialized "java/lang/RuntimeException") ∈ tbl := tbl_mem (i := 16) (by decide +kernel) rfl
theorem wd_17 : (Cond.initialized "java/lang/IllegalArgumentException") ∈ tbl := tbl_mem (i := 17) (by decide +kernel) rfl
theorem wd_18 : (Cond.initialized "java/lang/IllegalStateException") ∈ tbl := tbl_mem (i := 18) (by decide +kernel) rfl
theorem wd_19 : (Cond.initialized "HoldMaps$Thing") ∈ tbl := tbl_mem (i := 19) (by decide +kernel) rfl
theorem wd_20 : (Cond.initialized "java/util/Objects") ∈ tbl := tbl_mem (i := 20) (by decide +kernel) rfl
theorem wd_21 : (Cond.initialized "jdk/internal/util/Preconditions") ∈ tbl := tbl_mem (i := 21) (by decide +kernel) rfl
theorem wd_22 : (Cond.initialized "HoldMaps$Entry") ∈ tbl := tbl_mem (i := 22) (by decide +kernel) rfl
theorem wd_23 : (Cond.initialized "jdk/internal/util/ArraysSupport") ∈ tbl := tbl_mem (i := 23) (by decide +kernel) rfl
theorem wd_24 : (Cond.initialized "java/lang/Math") ∈ tbl := tbl_mem (i := 24) (by decide +kernel) rfl
theorem wd_25 : (Cond.initialized "java/util/Arrays") ∈ tbl := tbl_mem (i := 25) (by decide +kernel) rfl
theorem wd_26 : (Cond.initialized "java/lang/System") ∈ tbl := tbl_mem (i := 26) (by decide +kernel) rfl
theorem wd_27 : (Cond.initialized "java/util/NoSuchElementException") ∈ tbl := tbl_mem (i := 27) (by decide +kernel) rfl
theorem wd_28 : (Cond.classLink "HoldMapsLaw" 8 "HoldMaps") ∈ tbl := tbl_mem (i := 28) (by decide +kernel) rfl
theorem wd_29 : (Cond.instantiable "HoldMaps" 4) ∈ tbl := tbl_mem (i := 29) (by decide +kernel) rfl
theorem wd_30 : (Cond.methodLink "HoldMapsLaw" 50 ({ cls := "HoldMaps", name := "<init>", desc := "()V" } : MethodName)) ∈ tbl := tbl_mem (i := 30) (by decide +kernel) rfl
theorem wd_31 : (Cond.instanceMethod ({ cls := "HoldMaps", name := "<init>", desc := "()V" } : MethodName)) ∈ tbl := tbl_mem (i := 31) (by decide +kernel) rfl
theorem wd_32 : (Cond.code ({ cls := "HoldMaps", name := "<init>", desc := "()V" } : MethodName) prog_1_method_1_code 1 none) ∈ tbl := tbl_mem (i := 32) (by decide +kernel) rfl
theorem wd_33 : (Cond.methodLink "HoldMaps" 1 ({ cls := "java/lang/Object", name := "<init>", desc := "()V" } : MethodName)) ∈ tbl := tbl_mem (i := 33) (by decide +kernel) rfl
theorem wd_34 : (Cond.instanceMethod ({ cls := "java/lang/Object", name := "<init>", desc := "()V" } : MethodName)) ∈ tbl := tbl_mem (i := 34) (by decide +kernel) rfl
theorem wd_35 : (Cond.code ({ cls := "java/lang/Object", name := "<init>", desc := "()V" } : MethodName) object_method_1_code 1 none) ∈ tbl := tbl_mem (i := 35) (by decide +kernel) rfl
theorem wd_36 : (Cond.classLink "HoldMaps" 7 "HoldMaps$Heap") ∈ tbl := tbl_mem (i := 36) (by decide +kernel) rfl
theorem wd_37 : (Cond.instantiable "HoldMaps$Heap" 4) ∈ tbl := tbl_mem (i := 37) (by decide +kernel) rfl
theorem wd_38 : (Cond.methodLinkNest "HoldMaps" 9 ({ cls := "HoldMaps$Heap", name := "<init>", desc := "()V" } : MethodName) "HoldMaps") ∈ tbl := tbl_mem (i := 38) (by decide +kernel) rfl
theorem wd_39 : (Cond.instanceMethod ({ cls := "HoldMaps$Heap", name := "<init>", desc := "()V" } : MethodName)) ∈ tbl := tbl_mem (i := 39) (by decide +kernel) rfl
theorem wd_40 : (Cond.code ({ cls := "HoldMaps$Heap", name := "<init>", desc := "()V" } : MethodName) prog_3_method_1_code 1 none) ∈ tbl := tbl_mem (i := 40) (by decide +kernel) rfl
theorem wd_41 : (Cond.methodLink "HoldMaps$Heap" 3 ({ cls := "java/lang/Object", name := "<init>", desc := "()V" } : MethodName)) ∈ tbl := tbl_mem (i := 41) (by decide +kernel) rfl
theorem wd_42 : (Cond.classLink "HoldMaps$Heap" 9 "HoldMaps$Thing") ∈ tbl := tbl_mem (i := 42) (by decide +kernel) rfl
theorem wd_43 : (Cond.arrayOver (FieldType.object "HoldMaps$Thing")) ∈ tbl := tbl_mem (i := 43) (by decide +kernel) rfl
theorem wd_44 : (Cond.fieldLink "HoldMaps$Heap" 11 "HoldMaps$Heap" "things" "[LHoldMaps$Thing;") ∈ tbl := tbl_mem (i := 44) (by decide +kernel) rfl
theorem wd_45 : (Cond.fieldLink "HoldMaps" 61 "HoldMaps$Heap" "things" "[LHoldMaps$Thing;") ∈ tbl := tbl_mem (i := 45) (by decide +kernel) rfl
theorem wd_46 : (Cond.fieldLink "HoldMaps$Heap" 17 "HoldMaps$Heap" "heldOnes" "[I") ∈ tbl := tbl_mem (i := 46) (by decide +kernel) rfl
theorem wd_47 : (Cond.fieldLink "HoldMaps$Heap" 29 "HoldMaps$Heap" "heldCount" "I") ∈ tbl := tbl_mem (i := 47) (by decide +kernel) rfl
theorem wd_48 : (Cond.fieldLink "HoldMaps$Heap" 49 "HoldMaps$Heap" "collected" "I") ∈ tbl := tbl_mem (i := 48) (by decide +kernel) rfl
theorem wd_49 : (Cond.fieldLink "HoldMaps" 196 "HoldMaps$Heap" "collected" "I") ∈ tbl := tbl_mem (i := 49) (by decide +kernel) rfl
theorem wd_50 : (Cond.laysFinal "HoldMaps$Heap" "HoldMaps$Heap" "things" "[LHoldMaps$Thing;") ∈ tbl := tbl_mem (i := 50) (by decide +kernel) rfl
theorem wd_51 : (Cond.soleField "HoldMaps$Heap" "things") ∈ tbl := tbl_mem (i := 51) (by decide +kernel) rfl
theorem wd_52 : (Cond.laysFinal "HoldMaps$Heap" "HoldMaps$Heap" "heldOnes" "[I") ∈ tbl := tbl_mem (i := 52) (by decide +kernel) rfl
theorem wd_53 : (Cond.soleField "HoldMaps$Heap" "heldOnes") ∈ tbl := tbl_mem (i := 53) (by decide +kernel) rfl
theorem wd_54 : (Cond.lays "HoldMaps$Heap" "HoldMaps$Heap" "heldCount" "I") ∈ tbl := tbl_mem (i := 54) (by decide +kernel) rfl
theorem wd_55 : (Cond.soleField "HoldMaps$Heap" "heldCount") ∈ tbl := tbl_mem (i := 55) (by decide +kernel) rfl
theorem wd_56 : (Cond.lays "HoldMaps$Heap" "HoldMaps$Heap" "collected" "I") ∈ tbl := tbl_mem (i := 56) (by decide +kernel) rfl
theorem wd_57 : (Cond.soleField "HoldMaps$Heap" "collected") ∈ tbl := tbl_mem (i := 57) (by decide +kernel) rfl
theorem wd_58 : (Cond.superclass "HoldMaps$Heap" "java/lang/Object") ∈ tbl := tbl_mem (i := 58) (by decide +kernel) rfl
theorem wd_59 : (Cond.arrayClass FieldType.int) ∈ tbl := tbl_mem (i := 59) (by decide +kernel) rfl
theorem wd_60 : (Cond.classLink "HoldMaps" 16 "HoldMaps$WeakMap") ∈ tbl := tbl_mem (i := 60) (by decide +kernel) rfl
theorem wd_61 : (Cond.instantiable "HoldMaps$WeakMap" 6) ∈ tbl := tbl_mem (i := 61) (by decide +kernel) rfl
theorem wd_62 : (Cond.methodLinkNest "HoldMaps" 18 ({ cls := "HoldMaps$WeakMap", name := "<init>", desc := "()V" } : MethodName) "HoldMaps") ∈ tbl := tbl_mem (i := 62) (by decide +kernel) rfl
theorem wd_63 : (Cond.instanceMethod ({ cls := "HoldMaps$WeakMap", name := "<init>", desc := "()V" } : MethodName)) ∈ tbl := tbl_mem (i := 63) (by decide +kernel) rfl
theorem wd_64 : (Cond.code ({ cls := "HoldMaps$WeakMap", name := "<init>", desc := "()V" } : MethodName) prog_11_method_1_code 1 none) ∈ tbl := tbl_mem (i := 64) (by decide +kernel) rfl
theorem wd_65 : (Cond.methodLinkNest "HoldMaps$WeakMap" 3 ({ cls := "HoldMaps$Row", name := "<init>", desc := "()V" } : MethodName) "HoldMaps") ∈ tbl := tbl_mem (i := 65) (by decide +kernel) rfl
theorem wd_66 : (Cond.instanceMethod ({ cls := "HoldMaps$Row", name := "<init>", desc := "()V" } : MethodName)) ∈ tbl := tbl_mem (i := 66) (by decide +kernel) rfl
theorem wd_67 : (Cond.code ({ cls := "HoldMaps$Row", name := "<init>", desc := "()V" } : MethodName) prog_7_method_1_code 1 none) ∈ tbl := tbl_mem (i := 67) (by decide +kernel) rfl
theorem wd_68 : (Cond.methodLinkNest "HoldMaps$Row" 1 ({ cls := "HoldMaps$Table", name := "<init>", desc := "()V" } : MethodName) "HoldMaps") ∈ tbl := tbl_mem (i := 68) (by decide +kernel) rfl
theorem wd_69 : (Cond.instanceMethod ({ cls := "HoldMaps$Table", name := "<init>", desc := "()V" } : MethodName)) ∈ tbl := tbl_mem (i := 69) (by decide +kernel) rfl
theorem wd_70 : (Cond.code ({ cls := "HoldMaps$Table", name := "<init>", desc := "()V" } : MethodName) prog_9_method_1_code 1 none) ∈ tbl := tbl_mem (i := 70) (by decide +kernel) rfl
theorem wd_71 : (Cond.methodLink "HoldMaps$Table" 3 ({ cls := "java/lang/Object", name := "<init>", desc := "()V" } : MethodName)) ∈ tbl := tbl_mem (i := 71) (by decide +kernel) rfl
theorem wd_72 : (Cond.classLink "HoldMaps$Row" 7 "java/util/ArrayList") ∈ tbl := tbl_mem (i := 72) (by decide +kernel) rfl
theorem wd_73 : (Cond.instantiable "java/util/ArrayList" 3) ∈ tbl := tbl_mem (i := 73) (by decide +kernel) rfl
theorem wd_74 : (Cond.methodLink "HoldMaps$Row" 9 ({ cls := "java/util/ArrayList", name := "<init>", desc := "()V" } : MethodName)) ∈ tbl := tbl_mem (i := 74) (by decide +kernel) rfl
theorem wd_75 : (Cond.instanceMethod ({ cls := "java/util/ArrayList", name := "<init>", desc := "()V" } : MethodName)) ∈ tbl := tbl_mem (i := 75) (by decide +kernel) rfl
theorem wd_76 : (Cond.code ({ cls := "java/util/ArrayList", name := "<init>", desc := "()V" } : MethodName) prog_27_method_2_code 1 none) ∈ tbl := tbl_mem (i := 76) (by decide +kernel) rfl
theorem wd_77 : (Cond.methodLink "java/util/ArrayList" 1 ({ cls := "java/util/AbstractList", name := "<init>", desc := "()V" } : MethodName)) ∈ tbl := tbl_mem (i := 77) (by decide +kernel) rfl
theorem wd_78 : (Cond.instanceMethod ({ cls := "java/util/AbstractList", name := "<init>", desc := "()V" } : MethodName)) ∈ tbl := tbl_mem (i := 78) (by decide +kernel) rfl
theorem wd_79 : (Cond.code ({ cls := "java/util/AbstractList", name := "<init>", desc := "()V" } : MethodName) prog_26_method_1_code 1 none) ∈ tbl := tbl_mem (i := 79) (by decide +kernel) rfl
theorem wd_80 : (Cond.methodLink "java/util/AbstractList" 1 ({ cls := "java/util/AbstractCollection", name := "<init>", desc := "()V" } : MethodName)) ∈ tbl := tbl_mem (i := 80) (by decide +kernel) rfl
theorem wd_81 : (Cond.instanceMethod ({ cls := "java/util/AbstractCollection", name := "<init>", desc := "()V" } : MethodName)) ∈ tbl := tbl_mem (i := 81) (by decide +kernel) rfl
theorem wd_82 : (Cond.code ({ cls := "java/util/AbstractCollection", name := "<init>", desc := "()V" } : MethodName) prog_25_method_1_code 1 none) ∈ tbl := tbl_mem (i := 82) (by decide +kernel) rfl
theorem wd_83 : (Cond.methodLink "java/util/AbstractCollection" 1 ({ cls := "java/lang/Object", name := "<init>", desc := "()V" } : MethodName)) ∈ tbl := tbl_mem (i := 83) (by decide +kernel) rfl
theorem wd_84 : (Cond.fieldLink "java/util/ArrayList" 39 "java/util/ArrayList" "DEFAULTCAPACITY_EMPTY_ELEMENTDATA" "[Ljava/lang/Object;") ∈ tbl := tbl_mem (i := 84) (by decide +kernel) rfl
theorem wd_85 : (Cond.laysStatic "java/util/ArrayList" "DEFAULTCAPACITY_EMPTY_ELEMENTDATA" "[Ljava/lang/Object;") ∈ lw_tbl := lw_mem (i := 85) (by decide +kernel)
theorem wd_86 : (Cond.fieldLink "java/util/ArrayList" 9 "java/util/ArrayList" "elementData" "[Ljava/lang/Object;") ∈ tbl := tbl_mem (i := 86) (by decide +kernel) rfl
theorem wd_87 : (Cond.fieldLink "java/util/ArrayList" 48 "java/util/ArrayList" "size" "I") ∈ tbl := tbl_mem (i := 87) (by decide +kernel) rfl
theorem wd_88 : (Cond.fieldLink "java/util/AbstractList" 7 "java/util/AbstractList" "modCount" "I") ∈ tbl := tbl_mem (i := 88) (by decide +kernel) rfl
theorem wd_89 : (Cond.fieldLink "java/util/ArrayList" 63 "java/util/ArrayList" "modCount" "I") ∈ tbl := tbl_mem (i := 89) (by decide +kernel) rfl
theorem wd_90 : (Cond.sameField "java/util/ArrayList" "java/util/AbstractList" "modCount" "I") ∈ tbl := tbl_mem (i := 90) (by decide +kernel) rfl
theorem wd_91 : (Cond.lays "java/util/ArrayList" "java/util/ArrayList" "elementData" "[Ljava/lang/Object;") ∈ tbl := tbl_mem (i := 91) (by decide +kernel) rfl
theorem wd_92 : (Cond.soleField "java/util/ArrayList" "elementData") ∈ tbl := tbl_mem (i := 92) (by decide +kernel) rfl
theorem wd_93 : (Cond.lays "java/util/ArrayList" "java/util/ArrayList" "size" "I") ∈ tbl := tbl_mem (i := 93) (by decide +kernel) rfl
theorem wd_94 : (Cond.soleField "java/util/ArrayList" "size") ∈ tbl := tbl_mem (i := 94) (by decide +kernel) rfl
theorem wd_95 : (Cond.lays "java/util/ArrayList" "java/util/AbstractList" "modCount" "I") ∈ tbl := tbl_mem (i := 95) (by decide +kernel) rfl
theorem wd_96 : (Cond.soleField "java/util/AbstractList" "modCount") ∈ tbl := tbl_mem (i := 96) (by decide +kernel) rfl
theorem wd_97 : (Cond.superclass "java/util/ArrayList" "java/util/AbstractList") ∈ tbl := tbl_mem (i := 97) (by decide +kernel) rfl
theorem wd_98 : (Cond.classLink "HoldMaps$WeakMap" 9 "java/util/ArrayList") ∈ tbl := tbl_mem (i := 98) (by decide +kernel) rfl
theorem wd_99 : (Cond.methodLink "HoldMaps$WeakMap" 11 ({ cls := "java/util/ArrayList", name := "<init>", desc := "()V" } : MethodName)) ∈ tbl := tbl_mem (i := 99) (by decide +kernel) rfl
theorem wd_100 : (Cond.fieldLink "HoldMaps$WeakMap" 12 "HoldMaps$WeakMap" "moving" "Ljava/util/ArrayList;") ∈ tbl := tbl_mem (i := 100) (by decide +kernel) rfl
theorem wd_101 : (Cond.fieldLink "HoldMaps$WeakMap" 18 "HoldMaps$WeakMap" "buckets" "I") ∈ tbl := tbl_mem (i := 101) (by decide +kernel) rfl
theorem wd_102 : (Cond.fieldLink "HoldMaps" 199 "HoldMaps$WeakMap" "buckets" "I") ∈ tbl := tbl_mem (i := 102) (by decide +kernel) rfl
theorem wd_103 : (Cond.fieldLink "HoldMaps$Row" 10 "HoldMaps$Row" "row" "Ljava/util/ArrayList;") ∈ tbl := tbl_mem (i := 103) (by decide +kernel) rfl
theorem wd_104 : (Cond.fieldLink "HoldMaps$PlacesMap" 9 "HoldMaps$PlacesMap" "row" "Ljava/util/ArrayList;") ∈ tbl := tbl_mem (i := 104) (by decide +kernel) rfl
theorem wd_105 : (Cond.sameField "HoldMaps$PlacesMap" "HoldMaps$Row" "row" "Ljava/util/ArrayList;") ∈ tbl := tbl_mem (i := 105) (by decide +kernel) rfl
theorem wd_106 : (Cond.fieldLink "HoldMaps$LatestMap" 15 "HoldMaps$LatestMap" "row" "Ljava/util/ArrayList;") ∈ tbl := tbl_mem (i := 106) (by decide +kernel) rfl
theorem wd_107 : (Cond.sameField "HoldMaps$LatestMap" "HoldMaps$Row" "row" "Ljava/util/ArrayList;") ∈ tbl := tbl_mem (i := 107) (by decide +kernel) rfl
theorem wd_108 : (Cond.fieldLink "HoldMaps$WeakMap" 30 "HoldMaps$WeakMap" "row" "Ljava/util/ArrayList;") ∈ tbl := tbl_mem (i := 108) (by decide +kernel) rfl
theorem wd_109 : (Cond.sameField "HoldMaps$WeakMap" "HoldMaps$Row" "row" "Ljava/util/ArrayList;") ∈ tbl := tbl_mem (i := 109) (by decide +kernel) rfl
theorem wd_110 : (Cond.fieldLink "HoldMaps$SoftMap" 28 "HoldMaps$SoftMap" "row" "Ljava/util/ArrayList;") ∈ tbl := tbl_mem (i := 110) (by decide +kernel) rfl
theorem wd_111 : (Cond.sameField "HoldMaps$SoftMap" "HoldMaps$Row" "row" "Ljava/util/ArrayList;") ∈ tbl := tbl_mem (i := 111) (by decide +kernel) rfl
theorem wd_112 : (Cond.fieldLink "HoldMaps" 161 "HoldMaps$Table" "hasWalk" "Z") ∈ tbl := tbl_mem (i := 112) (by decide +kernel) rfl
theorem wd_113 : (Cond.fieldLink "HoldMaps$WeakMap" 26 "HoldMaps$WeakMap" "isBroken" "Z") ∈ tbl := tbl_mem (i := 113) (by decide +kernel) rfl
theorem wd_114 : (Cond.sameField "HoldMaps$WeakMap" "HoldMaps$Table" "isBroken" "Z") ∈ tbl := tbl_mem (i := 114) (by decide +kernel) rfl
theorem wd_115 : (Cond.fieldLink "HoldMaps$PlacesMap" 35 "HoldMaps$PlacesMap" "isBroken" "Z") ∈ tbl := tbl_mem (i := 115) (by decide +kernel) rfl
theorem wd_116 : (Cond.sameField "HoldMaps$PlacesMap" "HoldMaps$Table" "isBroken" "Z") ∈ tbl := tbl_mem (i := 116) (by decide +kernel) rfl
theorem wd_117 : (Cond.fieldLink "HoldMaps$Row" 29 "HoldMaps$Row" "isBroken" "Z") ∈ tbl := tbl_mem (i := 117) (by decide +kernel) rfl
theorem wd_118 : (Cond.sameField "HoldMaps$Row" "HoldMaps$Table" "isBroken" "Z") ∈ tbl := tbl_mem (i := 118) (by decide +kernel) rfl
theorem wd_119 : (Cond.fieldLink "HoldMaps$IdentityMap" 29 "HoldMaps$IdentityMap" "isBroken" "Z") ∈ tbl := tbl_mem (i := 119) (by decide +kernel) rfl
theorem wd_120 : (Cond.sameField "HoldMaps$IdentityMap" "HoldMaps$Table" "isBroken" "Z") ∈ tbl := tbl_mem (i := 120) (by decide +kernel) rfl
theorem wd_121 : (Cond.fieldLink "HoldMaps" 164 "HoldMaps$Table" "isBroken" "Z") ∈ tbl := tbl_mem (i := 121) (by decide +kernel) rfl
theorem wd_122 : (Cond.fieldLink "HoldMaps" 167 "HoldMaps$Table" "walked" "I") ∈ tbl := tbl_mem (i := 122) (by decide +kernel) rfl
theorem wd_123 : (Cond.laysFinal "HoldMaps$WeakMap" "HoldMaps$WeakMap" "moving" "Ljava/util/ArrayList;") ∈ tbl := tbl_mem (i := 123) (by decide +kernel) rfl
theorem wd_124 : (Cond.soleField "HoldMaps$WeakMap" "moving") ∈ tbl := tbl_mem (i := 124) (by decide +kernel) rfl
theorem wd_125 : (Cond.lays "HoldMaps$WeakMap" "HoldMaps$WeakMap" "buckets" "I") ∈ tbl := tbl_mem (i := 125) (by decide +kernel) rfl
theorem wd_126 : (Cond.soleField "HoldMaps$WeakMap" "buckets") ∈ tbl := tbl_mem (i := 126) (by decide +kernel) rfl
theorem wd_127 : (Cond.laysFinal "HoldMaps$WeakMap" "HoldMaps$Row" "row" "Ljava/util/ArrayList;") ∈ tbl := tbl_mem (i := 127) (by decide +kernel) rfl
theorem wd_128 : (Cond.soleField "HoldMaps$Row" "row") ∈ tbl := tbl_mem (i := 128) (by decide +kernel) rfl
theorem wd_129 : (Cond.lays "HoldMaps$WeakMap" "HoldMaps$Table" "hasWalk" "Z") ∈ tbl := tbl_mem (i := 129) (by decide +kernel) rfl
theorem wd_130 : (Cond.soleField "HoldMaps$Table" "hasWalk") ∈ tbl := tbl_mem (i := 130) (by decide +kernel) rfl
theorem wd_131 : (Cond.lays "HoldMaps$WeakMap" "HoldMaps$Table" "isBroken" "Z") ∈ tbl := tbl_mem (i := 131) (by decide +kernel) rfl
theorem wd_132 : (Cond.soleField "HoldMaps$Table" "isBroken") ∈ tbl := tbl_mem (i := 132) (by decide +kernel) rfl
theorem wd_133 : (Cond.lays "HoldMaps$WeakMap" "HoldMaps$Table" "walked" "I") ∈ tbl := tbl_mem (i := 133) (by decide +kernel) rfl
theorem wd_134 : (Cond.soleField "HoldMaps$Table" "walked") ∈ tbl := tbl_mem (i := 134) (by decide +kernel) rfl
theorem wd_135 : (Cond.superclass "HoldMaps$WeakMap" "HoldMaps$Row") ∈ tbl := tbl_mem (i := 135) (by decide +kernel) rfl
theorem wd_136 : (Cond.classLink "HoldMaps" 23 "HoldMaps$SoftMap") ∈ tbl := tbl_mem (i := 136) (by decide +kernel) rfl
theorem wd_137 : (Cond.instantiable "HoldMaps$SoftMap" 5) ∈ tbl := tbl_mem (i := 137) (by decide +kernel) rfl
theorem wd_138 : (Cond.methodLinkNest "HoldMaps" 25 ({ cls := "HoldMaps$SoftMap", name := "<init>", desc := "()V" } : MethodName) "HoldMaps") ∈ tbl := tbl_mem (i := 138) (by decide +kernel) rfl
theorem wd_139 : (Cond.instanceMethod ({ cls := "HoldMaps$SoftMap", name := "<init>", desc := "()V" } : MethodName)) ∈ tbl := tbl_mem (i := 139) (by decide +kernel) rfl
theorem wd_140 : (Cond.code ({ cls := "HoldMaps$SoftMap", name := "<init>", desc := "()V" } : MethodName) prog_8_method_1_code 1 none) ∈ tbl := tbl_mem (i := 140) (by decide +kernel) rfl
theorem wd_141 : (Cond.methodLinkNest "HoldMaps$SoftMap" 3 ({ cls := "HoldMaps$Row", name := "<init>", desc := "()V" } : MethodName) "HoldMaps") ∈ tbl := tbl_mem (i := 141) (by decide +kernel) rfl
theorem wd_142 : (Cond.fieldLink "HoldMaps$SoftMap" 9 "HoldMaps$SoftMap" "time" "I") ∈ tbl := tbl_mem (i := 142) (by decide +kernel) rfl
theorem wd_143 : (Cond.fieldLink "HoldMaps" 202 "HoldMaps$SoftMap" "time" "I") ∈ tbl := tbl_mem (i := 143) (by decide +kernel) rfl
theorem wd_144 : (Cond.lays "HoldMaps$SoftMap" "HoldMaps$SoftMap" "time" "I") ∈ tbl := tbl_mem (i := 144) (by decide +kernel) rfl
theorem wd_145 : (Cond.soleField "HoldMaps$SoftMap" "time") ∈ tbl := tbl_mem (i := 145) (by decide +kernel) rfl
theorem wd_146 : (Cond.laysFinal "HoldMaps$SoftMap" "HoldMaps$Row" "row" "Ljava/util/ArrayList;") ∈ tbl := tbl_mem (i := 146) (by decide +kernel) rfl
theorem wd_147 : (Cond.lays "HoldMaps$SoftMap" "HoldMaps$Table" "hasWalk" "Z") ∈ tbl := tbl_mem (i := 147) (by decide +kernel) rfl
theorem wd_148 : (Cond.lays "HoldMaps$SoftMap" "HoldMaps$Table" "isBroken" "Z") ∈ tbl := tbl_mem (i := 148) (by decide +kernel) rfl
theorem wd_149 : (Cond.lays "HoldMaps$SoftMap" "HoldMaps$Table" "walked" "I") ∈ tbl := tbl_mem (i := 149) (by decide +kernel) rfl
theorem wd_150 : (Cond.superclass "HoldMaps$SoftMap" "HoldMaps$Row") ∈ tbl := tbl_mem (i := 150) (by decide +kernel) rfl
theorem wd_151 : (Cond.classLink "HoldMaps" 30 "HoldMaps$Table") ∈ tbl := tbl_mem (i := 151) (by decide +kernel) rfl
theorem wd_152 : (Cond.arrayOver (FieldType.object "HoldMaps$Table")) ∈ tbl := tbl_mem (i := 152) (by decide +kernel) rfl
theorem wd_153 : (Cond.classLink "HoldMaps" 36 "HoldMaps$IdentityMap") ∈ tbl := tbl_mem (i := 153) (by decide +kernel) rfl
theorem wd_154 : (Cond.instantiable "HoldMaps$IdentityMap" 5) ∈ tbl := tbl_mem (i := 154) (by decide +kernel) rfl
theorem wd_155 : (Cond.methodLinkNest "HoldMaps" 38 ({ cls := "HoldMaps$IdentityMap", name := "<init>", desc := "()V" } : MethodName) "HoldMaps") ∈ tbl := tbl_mem (i := 155) (by decide +kernel) rfl
theorem wd_156 : (Cond.instanceMethod ({ cls := "HoldMaps$IdentityMap", name := "<init>", desc := "()V" } : MethodName)) ∈ tbl := tbl_mem (i := 156) (by decide +kernel) rfl
theorem wd_157 : (Cond.code ({ cls := "HoldMaps$IdentityMap", name := "<init>", desc := "()V" } : MethodName) prog_4_method_1_code 1 none) ∈ tbl := tbl_mem (i := 157) (by decide +kernel) rfl
theorem wd_158 : (Cond.methodLinkNest "HoldMaps$IdentityMap" 3 ({ cls := "HoldMaps$Table", name := "<init>", desc := "()V" } : MethodName) "HoldMaps") ∈ tbl := tbl_mem (i := 158) (by decide +kernel) rfl
theorem wd_159 : (Cond.classLink "HoldMaps$IdentityMap" 9 "HoldMaps$Entry") ∈ tbl := tbl_mem (i := 159) (by decide +kernel) rfl
theorem wd_160 : (Cond.arrayOver (FieldType.object "HoldMaps$Entry")) ∈ tbl := tbl_mem (i := 160) (by decide +kernel) rfl
theorem wd_161 : (Cond.fieldLink "HoldMaps$IdentityMap" 11 "HoldMaps$IdentityMap" "slots" "[LHoldMaps$Entry;") ∈ tbl := tbl_mem (i := 161) (by decide +kernel) rfl
theorem wd_162 : (Cond.fieldLink "HoldMaps$IdentityMap" 17 "HoldMaps$IdentityMap" "entries" "I") ∈ tbl := tbl_mem (i := 162) (by decide +kernel) rfl
theorem wd_163 : (Cond.laysFinal "HoldMaps$IdentityMap" "HoldMaps$IdentityMap" "slots" "[LHoldMaps$Entry;") ∈ tbl := tbl_mem (i := 163) (by decide +kernel) rfl
theorem wd_164 : (Cond.soleField "HoldMaps$IdentityMap" "slots") ∈ tbl := tbl_mem (i := 164) (by decide +kernel) rfl
theorem wd_165 : (Cond.lays "HoldMaps$IdentityMap" "HoldMaps$IdentityMap" "entries" "I") ∈ tbl := tbl_mem (i := 165) (by decide +kernel) rfl
theorem wd_166 : (Cond.soleField "HoldMaps$IdentityMap" "entries") ∈ tbl := tbl_mem (i := 166) (by decide +kernel) rfl
theorem wd_167 : (Cond.lays "HoldMaps$IdentityMap" "HoldMaps$Table" "hasWalk" "Z") ∈ tbl := tbl_mem (i := 167) (by decide +kernel) rfl
theorem wd_168 : (Cond.lays "HoldMaps$IdentityMap" "HoldMaps$Table" "isBroken" "Z") ∈ tbl := tbl_mem (i := 168) (by decide +kernel) rfl
theorem wd_169 : (Cond.lays "HoldMaps$IdentityMap" "HoldMaps$Table" "walked" "I") ∈ tbl := tbl_mem (i := 169) (by decide +kernel) rfl
theorem wd_170 : (Cond.superclass "HoldMaps$IdentityMap" "HoldMaps$Table") ∈ tbl := tbl_mem (i := 170) (by decide +kernel) rfl
theorem wd_171 : (Cond.classLink "HoldMaps" 39 "HoldMaps$PlacesMap") ∈ tbl := tbl_mem (i := 171) (by decide +kernel) rfl
theorem wd_172 : (Cond.instantiable "HoldMaps$PlacesMap" 4) ∈ tbl := tbl_mem (i := 172) (by decide +kernel) rfl
theorem wd_173 : (Cond.methodLinkNest "HoldMaps" 41 ({ cls := "HoldMaps$PlacesMap", name := "<init>", desc := "()V" } : MethodName) "HoldMaps") ∈ tbl := tbl_mem (i := 173) (by decide +kernel) rfl
theorem wd_174 : (Cond.instanceMethod ({ cls := "HoldMaps$PlacesMap", name := "<init>", desc := "()V" } : MethodName)) ∈ tbl := tbl_mem (i := 174) (by decide +kernel) rfl
theorem wd_175 : (Cond.code ({ cls := "HoldMaps$PlacesMap", name := "<init>", desc := "()V" } : MethodName) prog_6_method_1_code 1 none) ∈ tbl := tbl_mem (i := 175) (by decide +kernel) rfl
theorem wd_176 : (Cond.methodLinkNest "HoldMaps$PlacesMap" 3 ({ cls := "HoldMaps$Row", name := "<init>", desc := "()V" } : MethodName) "HoldMaps") ∈ tbl := tbl_mem (i := 176) (by decide +kernel) rfl
theorem wd_177 : (Cond.laysFinal "HoldMaps$PlacesMap" "HoldMaps$Row" "row" "Ljava/util/ArrayList;") ∈ tbl := tbl_mem (i := 177) (by decide +kernel) rfl
theorem wd_178 : (Cond.lays "HoldMaps$PlacesMap" "HoldMaps$Table" "hasWalk" "Z") ∈ tbl := tbl_mem (i := 178) (by decide +kernel) rfl
theorem wd_179 : (Cond.lays "HoldMaps$PlacesMap" "HoldMaps$Table" "isBroken" "Z") ∈ tbl := tbl_mem (i := 179) (by decide +kernel) rfl
theorem wd_180 : (Cond.lays "HoldMaps$PlacesMap" "HoldMaps$Table" "walked" "I") ∈ tbl := tbl_mem (i := 180) (by decide +kernel) rfl
theorem wd_181 : (Cond.superclass "HoldMaps$PlacesMap" "HoldMaps$Row") ∈ tbl := tbl_mem (i := 181) (by decide +kernel) rfl
theorem wd_182 : (Cond.classLink "HoldMaps" 42 "HoldMaps$LatestMap") ∈ tbl := tbl_mem (i := 182) (by decide +kernel) rfl
theorem wd_183 : (Cond.instantiable "HoldMaps$LatestMap" 4) ∈ tbl := tbl_mem (i := 183) (by decide +kernel) rfl
theorem wd_184 : (Cond.methodLinkNest "HoldMaps" 44 ({ cls := "HoldMaps$LatestMap", name := "<init>", desc := "()V" } : MethodName) "HoldMaps") ∈ tbl := tbl_mem (i := 184) (by decide +kernel) rfl
theorem wd_185 : (Cond.instanceMethod ({ cls := "HoldMaps$LatestMap", name := "<init>", desc := "()V" } : MethodName)) ∈ tbl := tbl_mem (i := 185) (by decide +kernel) rfl
theorem wd_186 : (Cond.code ({ cls := "HoldMaps$LatestMap", name := "<init>", desc := "()V" } : MethodName) prog_5_method_1_code 1 none) ∈ tbl := tbl_mem (i := 186) (by decide +kernel) rfl
theorem wd_187 : (Cond.methodLinkNest "HoldMaps$LatestMap" 3 ({ cls := "HoldMaps$Row", name := "<init>", desc := "()V" } : MethodName) "HoldMaps") ∈ tbl := tbl_mem (i := 187) (by decide +kernel) rfl
theorem wd_188 : (Cond.laysFinal "HoldMaps$LatestMap" "HoldMaps$Row" "row" "Ljava/util/ArrayList;") ∈ tbl := tbl_mem (i := 188) (by decide +kernel) rfl
theorem wd_189 : (Cond.lays "HoldMaps$LatestMap" "HoldMaps$Table" "hasWalk" "Z") ∈ tbl := tbl_mem (i := 189) (by decide +kernel) rfl
theorem wd_190 : (Cond.lays "HoldMaps$LatestMap" "HoldMaps$Table" "isBroken" "Z") ∈ tbl := tbl_mem (i := 190) (by decide +kernel) rfl
theorem wd_191 : (Cond.lays "HoldMaps$LatestMap" "HoldMaps$Table" "walked" "I") ∈ tbl := tbl_mem (i := 191) (by decide +kernel) rfl
theorem wd_192 : (Cond.superclass "HoldMaps$LatestMap" "HoldMaps$Row") ∈ tbl := tbl_mem (i := 192) (by decide +kernel) rfl
theorem wd_193 : (Cond.fieldLink "HoldMaps" 10 "HoldMaps" "heap" "LHoldMaps$Heap;") ∈ tbl := tbl_mem (i := 193) (by decide +kernel) rfl
theorem wd_194 : (Cond.fieldLink "HoldMaps" 19 "HoldMaps" "weak" "LHoldMaps$WeakMap;") ∈ tbl := tbl_mem (i := 194) (by decide +kernel) rfl
theorem wd_195 : (Cond.fieldLink "HoldMaps" 26 "HoldMaps" "soft" "LHoldMaps$SoftMap;") ∈ tbl := tbl_mem (i := 195) (by decide +kernel) rfl
theorem wd_196 : (Cond.fieldLink "HoldMaps" 32 "HoldMaps" "tables" "[LHoldMaps$Table;") ∈ tbl := tbl_mem (i := 196) (by decide +kernel) rfl
theorem wd_197 : (Cond.laysFinal "HoldMaps" "HoldMaps" "heap" "LHoldMaps$Heap;") ∈ tbl := tbl_mem (i := 197) (by decide +kernel) rfl
theorem wd_198 : (Cond.soleField "HoldMaps" "heap") ∈ tbl := tbl_mem (i := 198) (by decide +kernel) rfl
theorem wd_199 : (Cond.laysFinal "HoldMaps" "HoldMaps" "weak" "LHoldMaps$WeakMap;") ∈ tbl := tbl_mem (i := 199) (by decide +kernel) rfl
theorem wd_200 : (Cond.soleField "HoldMaps" "weak") ∈ tbl := tbl_mem (i := 200) (by decide +kernel) rfl
theorem wd_201 : (Cond.laysFinal "HoldMaps" "HoldMaps" "soft" "LHoldMaps$SoftMap;") ∈ tbl := tbl_mem (i := 201) (by decide +kernel) rfl
theorem wd_202 : (Cond.soleField "HoldMaps" "soft") ∈ tbl := tbl_mem (i := 202) (by decide +kernel) rfl
theorem wd_203 : (Cond.laysFinal "HoldMaps" "HoldMaps" "tables" "[LHoldMaps$Table;") ∈ tbl := tbl_mem (i := 203) (by decide +kernel) rfl
theorem wd_204 : (Cond.soleField "HoldMaps" "tables") ∈ tbl := tbl_mem (i := 204) (by decide +kernel) rfl
theorem wd_205 : (Cond.superclass "HoldMaps" "java/lang/Object") ∈ tbl := tbl_mem (i := 205) (by decide +kernel) rfl
theorem wd_206 : (Cond.methodLink "HoldMapsLaw" 82 ({ cls := "HoldMaps", name := "size", desc := "(I)I" } : MethodName)) ∈ tbl := tbl_mem (i := 206) (by decide +kernel) rfl
theorem wd_207 : (Cond.instanceMethod ({ cls := "HoldMaps", name := "size", desc := "(I)I" } : MethodName)) ∈ tbl := tbl_mem (i := 207) (by decide +kernel) rfl
theorem wd_208 : (Cond.selects "HoldMaps" ({ cls := "HoldMaps", name := "size", desc := "(I)I" } : MethodName) ({ cls := "HoldMaps", name := "size", desc := "(I)I" } : MethodName)) ∈ tbl := tbl_mem (i := 208) (by decide +kernel) rfl
theorem wd_209 : (Cond.code ({ cls := "HoldMaps", name := "size", desc := "(I)I" } : MethodName) prog_1_method_8_code 2 (some FieldType.int)) ∈ tbl := tbl_mem (i := 209) (by decide +kernel) rfl
theorem wd_210 : (Cond.methodLink "HoldMaps" 143 ({ cls := "HoldMaps", name := "isMap", desc := "(I)Z" } : MethodName)) ∈ tbl := tbl_mem (i := 210) (by decide +kernel) rfl
theorem wd_211 : (Cond.static ({ cls := "HoldMaps", name := "isMap", desc := "(I)Z" } : MethodName)) ∈ tbl := tbl_mem (i := 211) (by decide +kernel) rfl
theorem wd_212 : (Cond.code ({ cls := "HoldMaps", name := "isMap", desc := "(I)Z" } : MethodName) prog_1_method_15_code 1 (some FieldType.boolean)) ∈ tbl := tbl_mem (i := 212) (by decide +kernel) rfl
theorem wd_213 : (Cond.methodLink "HoldMaps" 146 ({ cls := "HoldMaps$Table", name := "length", desc := "()I" } : MethodName)) ∈ tbl := tbl_mem (i := 213) (by decide +kernel) rfl
theorem wd_214 : (Cond.declares ({ cls := "HoldMaps$Table", name := "length", desc := "()I" } : MethodName)) ∈ tbl := tbl_mem (i := 214) (by decide +kernel) rfl
theorem wd_215 : (Cond.sameMethod "HoldMaps$Table" "HoldMaps$Table" "length" "()I") ∈ tbl := tbl_mem (i := 215) (by decide +kernel) rfl
theorem wd_216 : (Cond.selects "HoldMaps$IdentityMap" ({ cls := "HoldMaps$Table", name := "length", desc := "()I" } : MethodName) ({ cls := "HoldMaps$IdentityMap", name := "length", desc := "()I" } : MethodName)) ∈ tbl := tbl_mem (i := 216) (by decide +kernel) rfl
theorem wd_217 : (Cond.instanceMethod ({ cls := "HoldMaps$IdentityMap", name := "length", desc := "()I" } : MethodName)) ∈ tbl := tbl_mem (i := 217) (by decide +kernel) rfl
theorem wd_218 : (Cond.code ({ cls := "HoldMaps$IdentityMap", name := "length", desc := "()I" } : MethodName) prog_4_method_2_code 1 (some FieldType.int)) ∈ tbl := tbl_mem (i := 218) (by decide +kernel) rfl
theorem wd_219 : (Cond.selects "HoldMaps$LatestMap" ({ cls := "HoldMaps$Table", name := "length", desc := "()I" } : MethodName) ({ cls := "HoldMaps$Row", name := "length", desc := "()I" } : MethodName)) ∈ tbl := tbl_mem (i := 219) (by decide +kernel) rfl
theorem wd_220 : (Cond.instanceMethod ({ cls := "HoldMaps$Row", name := "length", desc := "()I" } : MethodName)) ∈ tbl := tbl_mem (i := 220) (by decide +kernel) rfl
theorem wd_221 : (Cond.code ({ cls := "HoldMaps$Row", name := "length", desc := "()I" } : MethodName) prog_7_method_2_code 1 (some FieldType.int)) ∈ tbl := tbl_mem (i := 221) (by decide +kernel) rfl
theorem wd_222 : (Cond.methodLink "HoldMaps$Row" 16 ({ cls := "java/util/ArrayList", name := "size", desc := "()I" } : MethodName)) ∈ tbl := tbl_mem (i := 222) (by decide +kernel) rfl
theorem wd_223 : (Cond.instanceMethod ({ cls := "java/util/ArrayList", name := "size", desc := "()I" } : MethodName)) ∈ tbl := tbl_mem (i := 223) (by decide +kernel) rfl
theorem wd_224 : (Cond.selects "java/util/ArrayList" ({ cls := "java/util/ArrayList", name := "size", desc := "()I" } : MethodName) ({ cls := "java/util/ArrayList", name := "size", desc := "()I" } : MethodName)) ∈ tbl := tbl_mem (i := 224) (by decide +kernel) rfl
theorem wd_225 : (Cond.code ({ cls := "java/util/ArrayList", name := "size", desc := "()I" } : MethodName) prog_27_method_8_code 1 (some FieldType.int)) ∈ tbl := tbl_mem (i := 225) (by decide +kernel) rfl
theorem wd_226 : (Cond.selects "HoldMaps$PlacesMap" ({ cls := "HoldMaps$Table", name := "length", desc := "()I" } : MethodName) ({ cls := "HoldMaps$Row", name := "length", desc := "()I" } : MethodName)) ∈ tbl := tbl_mem (i := 226) (by decide +kernel) rfl
theorem wd_227 : (Cond.selects "HoldMaps$SoftMap" ({ cls := "HoldMaps$Table", name := "length", desc := "()I" } : MethodName) ({ cls := "HoldMaps$Row", name := "length", desc := "()I" } : MethodName)) ∈ tbl := tbl_mem (i := 227) (by decide +kernel) rfl
theorem wd_228 : (Cond.selects "HoldMaps$WeakMap" ({ cls := "HoldMaps$Table", name := "length", desc := "()I" } : MethodName) ({ cls := "HoldMaps$Row", name := "length", desc := "()I" } : MethodName)) ∈ tbl := tbl_mem (i := 228) (by decide +kernel) rfl
theorem wd_229 : (Cond.methodLink "HoldMapsLaw" 99 ({ cls := "HoldMaps", name := "value", desc := "(I)I" } : MethodName)) ∈ tbl := tbl_mem (i := 229) (by decide +kernel) rfl
theorem wd_230 : (Cond.instanceMethod ({ cls := "HoldMaps", name := "value", desc := "(I)I" } : MethodName)) ∈ tbl := tbl_mem (i := 230) (by decide +kernel) rfl
theorem wd_231 : (Cond.selects "HoldMaps" ({ cls := "HoldMaps", name := "value", desc := "(I)I" } : MethodName) ({ cls := "HoldMaps", name := "value", desc := "(I)I" } : MethodName)) ∈ tbl := tbl_mem (i := 231) (by decide +kernel) rfl
theorem wd_232 : (Cond.code ({ cls := "HoldMaps", name := "value", desc := "(I)I" } : MethodName) prog_1_method_13_code 2 (some FieldType.int)) ∈ tbl := tbl_mem (i := 232) (by decide +kernel) rfl
theorem wd_233 : (Cond.methodLink "HoldMaps" 70 ({ cls := "HoldMaps$Heap", name := "has", desc := "(I)Z" } : MethodName)) ∈ tbl := tbl_mem (i := 233) (by decide +kernel) rfl
theorem wd_234 : (Cond.instanceMethod ({ cls := "HoldMaps$Heap", name := "has", desc := "(I)Z" } : MethodName)) ∈ tbl := tbl_mem (i := 234) (by decide +kernel) rfl
theorem wd_235 : (Cond.selects "HoldMaps$Heap" ({ cls := "HoldMaps$Heap", name := "has", desc := "(I)Z" } : MethodName) ({ cls := "HoldMaps$Heap", name := "has", desc := "(I)Z" } : MethodName)) ∈ tbl := tbl_mem (i := 235) (by decide +kernel) rfl
theorem wd_236 : (Cond.code ({ cls := "HoldMaps$Heap", name := "has", desc := "(I)Z" } : MethodName) prog_3_method_2_code 2 (some FieldType.boolean)) ∈ tbl := tbl_mem (i := 236) (by decide +kernel) rfl
theorem wd_237 : (Cond.methodLink "HoldMapsLaw" 103 ({ cls := "HoldMaps", name := "count", desc := "(I)I" } : MethodName)) ∈ tbl := tbl_mem (i := 237) (by decide +kernel) rfl
theorem wd_238 : (Cond.instanceMethod ({ cls := "HoldMaps", name := "count", desc := "(I)I" } : MethodName)) ∈ tbl := tbl_mem (i := 238) (by decide +kernel) rfl
theorem wd_239 : (Cond.selects "HoldMaps" ({ cls := "HoldMaps", name := "count", desc := "(I)I" } : MethodName) ({ cls := "HoldMaps", name := "count", desc := "(I)I" } : MethodName)) ∈ tbl := tbl_mem (i := 239) (by decide +kernel) rfl
theorem wd_240 : (Cond.code ({ cls := "HoldMaps", name := "count", desc := "(I)I" } : MethodName) prog_1_method_14_code 2 (some FieldType.int)) ∈ tbl := tbl_mem (i := 240) (by decide +kernel) rfl
theorem wd_241 : (Cond.methodLink "HoldMaps" 193 ({ cls := "HoldMaps$Heap", name := "living", desc := "()I" } : MethodName)) ∈ tbl := tbl_mem (i := 241) (by decide +kernel) rfl
theorem wd_242 : (Cond.instanceMethod ({ cls := "HoldMaps$Heap", name := "living", desc := "()I" } : MethodName)) ∈ tbl := tbl_mem (i := 242) (by decide +kernel) rfl
theorem wd_243 : (Cond.selects "HoldMaps$Heap" ({ cls := "HoldMaps$Heap", name := "living", desc := "()I" } : MethodName) ({ cls := "HoldMaps$Heap", name := "living", desc := "()I" } : MethodName)) ∈ tbl := tbl_mem (i := 243) (by decide +kernel) rfl
theorem wd_244 : (Cond.code ({ cls := "HoldMaps$Heap", name := "living", desc := "()I" } : MethodName) prog_3_method_4_code 3 (some FieldType.int)) ∈ tbl := tbl_mem (i := 244) (by decide +kernel) rfl
theorem wd_245 : (Cond.methodLink "HoldMapsLaw" 54 ({ cls := "HoldMapsLaw", name := "make", desc := "(LHoldMaps;I[J)I" } : MethodName)) ∈ tbl := tbl_mem (i := 245) (by decide +kernel) rfl
theorem wd_246 : (Cond.static ({ cls := "HoldMapsLaw", name := "make", desc := "(LHoldMaps;I[J)I" } : MethodName)) ∈ tbl := tbl_mem (i := 246) (by decide +kernel) rfl
theorem wd_247 : (Cond.codeWith ({ cls := "HoldMapsLaw", name := "make", desc := "(LHoldMaps;I[J)I" } : MethodName) method_3_code 4 (some FieldType.int) [(0, 9, 12, 13), (0, 9, 15, 15)]) ∈ tbl := tbl_mem (i := 247) (by decide +kernel) rfl
theorem wd_248 : (Cond.classLink "HoldMapsLaw" 13 "java/lang/IllegalArgumentException") ∈ tbl := tbl_mem (i := 248) (by decide +kernel) rfl
theorem wd_249 : (Cond.classLink "HoldMapsLaw" 15 "java/lang/IllegalStateException") ∈ tbl := tbl_mem (i := 249) (by decide +kernel) rfl
theorem wd_250 : (Cond.methodLink "HoldMapsLaw" 7 ({ cls := "HoldMaps", name := "make", desc := "(I)I" } : MethodName)) ∈ tbl := tbl_mem (i := 250) (by decide +kernel) rfl
theorem wd_251 : (Cond.instanceMethod ({ cls := "HoldMaps", name := "make", desc := "(I)I" } : MethodName)) ∈ tbl := tbl_mem (i := 251) (by decide +kernel) rfl
theorem wd_252 : (Cond.selects "HoldMaps" ({ cls := "HoldMaps", name := "make", desc := "(I)I" } : MethodName) ({ cls := "HoldMaps", name := "make", desc := "(I)I" } : MethodName)) ∈ tbl := tbl_mem (i := 252) (by decide +kernel) rfl
theorem wd_253 : (Cond.code ({ cls := "HoldMaps", name := "make", desc := "(I)I" } : MethodName) prog_1_method_2_code 3 (some FieldType.int)) ∈ tbl := tbl_mem (i := 253) (by decide +kernel) rfl
theorem wd_254 : (Cond.classLink "HoldMaps" 45 "java/lang/IllegalArgumentException") ∈ tbl := tbl_mem (i := 254) (by decide +kernel) rfl
theorem wd_255 : (Cond.instantiable "java/lang/IllegalArgumentException" 6) ∈ tbl := tbl_mem (i := 255) (by decide +kernel) rfl
theorem wd_256 : (Cond.castable "java/lang/IllegalArgumentException" "java/lang/IllegalArgumentException") ∈ tbl := tbl_mem (i := 256) (by decide +kernel) rfl
theorem wd_257 : (Cond.declares ({ cls := "java/lang/RuntimeException", name := "<init>", desc := "()V" } : MethodName)) ∈ tbl := tbl_mem (i := 257) (by decide +kernel) rfl
theorem wd_258 : (Cond.declares ({ cls := "java/lang/RuntimeException", name := "<init>", desc := "(Ljava/lang/String;)V" } : MethodName)) ∈ tbl := tbl_mem (i := 258) (by decide +kernel) rfl
theorem wd_259 : (Cond.declares ({ cls := "java/lang/Exception", name := "<init>", desc := "()V" } : MethodName)) ∈ tbl := tbl_mem (i := 259) (by decide +kernel) rfl
theorem wd_260 : (Cond.declares ({ cls := "java/lang/Exception", name := "<init>", desc := "(Ljava/lang/String;)V" } : MethodName)) ∈ tbl := tbl_mem (i := 260) (by decide +kernel) rfl
theorem wd_261 : (Cond.declares ({ cls := "java/lang/Throwable", name := "<init>", desc := "()V" } : MethodName)) ∈ tbl := tbl_mem (i := 261) (by decide +kernel) rfl
theorem wd_262 : (Cond.declares ({ cls := "java/lang/Throwable", name := "<init>", desc := "(Ljava/lang/String;)V" } : MethodName)) ∈ tbl := tbl_mem (i := 262) (by decide +kernel) rfl
theorem wd_263 : (Cond.selects "java/lang/IllegalArgumentException" ({ cls := "java/lang/Throwable", name := "fillInStackTrace", desc := "(I)Ljava/lang/Throwable;" } : MethodName) ({ cls := "java/lang/Throwable", name := "fillInStackTrace", desc := "(I)Ljava/lang/Throwable;" } : MethodName)) ∈ tbl := tbl_mem (i := 263) (by decide +kernel) rfl
theorem wd_264 : (Cond.selects "java/lang/IllegalArgumentException" ({ cls := "java/lang/Throwable", name := "fillInStackTrace", desc := "()Ljava/lang/Throwable;" } : MethodName) ({ cls := "java/lang/Throwable", name := "fillInStackTrace", desc := "()Ljava/lang/Throwable;" } : MethodName)) ∈ tbl := tbl_mem (i := 264) (by decide +kernel) rfl
theorem wd_265 : (Cond.lays "java/lang/IllegalArgumentException" "java/lang/Throwable" "cause" "Ljava/lang/Throwable;") ∈ tbl := tbl_mem (i := 265) (by decide +kernel) rfl
theorem wd_266 : (Cond.lays "java/lang/Throwable" "java/lang/Throwable" "cause" "Ljava/lang/Throwable;") ∈ tbl := tbl_mem (i := 266) (by decide +kernel) rfl
theorem wd_267 : (Cond.lays "java/lang/IllegalArgumentException" "java/lang/Throwable" "stackTrace" "[Ljava/lang/StackTraceElement;") ∈ tbl := tbl_mem (i := 267) (by decide +kernel) rfl
theorem wd_268 : (Cond.lays "java/lang/Throwable" "java/lang/Throwable" "stackTrace" "[Ljava/lang/StackTraceElement;") ∈ tbl := tbl_mem (i := 268) (by decide +kernel) rfl
theorem wd_269 : (Cond.lays "java/lang/IllegalArgumentException" "java/lang/Throwable" "suppressedExceptions" "Ljava/util/List;") ∈ tbl := tbl_mem (i := 269) (by decide +kernel) rfl
theorem wd_270 : (Cond.lays "java/lang/Throwable" "java/lang/Throwable" "suppressedExceptions" "Ljava/util/List;") ∈ tbl := tbl_mem (i := 270) (by decide +kernel) rfl
theorem wd_271 : (Cond.lays "java/lang/IllegalArgumentException" "java/lang/Throwable" "detailMessage" "Ljava/lang/String;") ∈ tbl := tbl_mem (i := 271) (by decide +kernel) rfl
theorem wd_272 : (Cond.lays "java/lang/Throwable" "java/lang/Throwable" "detailMessage" "Ljava/lang/String;") ∈ tbl := tbl_mem (i := 272) (by decide +kernel) rfl
theorem wd_273 : (Cond.lays "java/lang/IllegalArgumentException" "java/lang/Throwable" "backtrace" "Ljava/lang/Object;") ∈ tbl := tbl_mem (i := 273) (by decide +kernel) rfl
theorem wd_274 : (Cond.lays "java/lang/Throwable" "java/lang/Throwable" "backtrace" "Ljava/lang/Object;") ∈ tbl := tbl_mem (i := 274) (by decide +kernel) rfl
theorem wd_275 : (Cond.fieldLink "java/lang/Throwable" 198 "java/lang/Throwable" "backtrace" "Ljava/lang/Object;") ∈ tbl := tbl_mem (i := 275) (by decide +kernel) rfl
theorem wd_276 : (Cond.superclass "java/lang/Throwable" "java/lang/Object") ∈ tbl := tbl_mem (i := 276) (by decide +kernel) rfl
theorem wd_277 : (Cond.instanceMethod ({ cls := "java/lang/Throwable", name := "<init>", desc := "()V" } : MethodName)) ∈ tbl := tbl_mem (i := 277) (by decide +kernel) rfl
theorem wd_278 : (Cond.code ({ cls := "java/lang/Throwable", name := "<init>", desc := "()V" } : MethodName) prog_24_method_1_code 1 none) ∈ tbl := tbl_mem (i := 278) (by decide +kernel) rfl
theorem wd_279 : (Cond.methodLink "java/lang/Throwable" 1 ({ cls := "java/lang/Object", name := "<init>", desc := "()V" } : MethodName)) ∈ tbl := tbl_mem (i := 279) (by decide +kernel) rfl
theorem wd_280 : (Cond.fieldLink "java/lang/Throwable" 13 "java/lang/Throwable" "UNASSIGNED_STACK" "[Ljava/lang/StackTraceElement;") ∈ tbl := tbl_mem (i := 280) (by decide +kernel) rfl
theorem wd_281 : (Cond.laysStatic "java/lang/Throwable" "UNASSIGNED_STACK" "[Ljava/lang/StackTraceElement;") ∈ lw_tbl := lw_mem (i := 281) (by decide +kernel)
theorem wd_282 : (Cond.fieldLink "java/lang/Throwable" 20 "java/lang/Throwable" "SUPPRESSED_SENTINEL" "Ljava/util/List;") ∈ tbl := tbl_mem (i := 282) (by decide +kernel) rfl
theorem wd_283 : (Cond.laysStatic "java/lang/Throwable" "SUPPRESSED_SENTINEL" "Ljava/util/List;") ∈ lw_tbl := lw_mem (i := 283) (by decide +kernel)
theorem wd_284 : (Cond.methodLink "java/lang/Throwable" 27 ({ cls := "java/lang/Throwable", name := "fillInStackTrace", desc := "()Ljava/lang/Throwable;" } : MethodName)) ∈ tbl := tbl_mem (i := 284) (by decide +kernel) rfl
theorem wd_285 : (Cond.instanceMethod ({ cls := "java/lang/Throwable", name := "fillInStackTrace", desc := "()Ljava/lang/Throwable;" } : MethodName)) ∈ tbl := tbl_mem (i := 285) (by decide +kernel) rfl
theorem wd_286 : (Cond.sameMethod "java/lang/Throwable" "java/lang/Throwable" "fillInStackTrace" "()Ljava/lang/Throwable;") ∈ tbl := tbl_mem (i := 286) (by decide +kernel) rfl
theorem wd_287 : (Cond.selects "java/lang/IllegalStateException" ({ cls := "java/lang/Throwable", name := "fillInStackTrace", desc := "()Ljava/lang/Throwable;" } : MethodName) ({ cls := "java/lang/Throwable", name := "fillInStackTrace", desc := "()Ljava/lang/Throwable;" } : MethodName)) ∈ tbl := tbl_mem (i := 287) (by decide +kernel) rfl
theorem wd_288 : (Cond.selects "java/util/NoSuchElementException" ({ cls := "java/lang/Throwable", name := "fillInStackTrace", desc := "()Ljava/lang/Throwable;" } : MethodName) ({ cls := "java/lang/Throwable", name := "fillInStackTrace", desc := "()Ljava/lang/Throwable;" } : MethodName)) ∈ tbl := tbl_mem (i := 288) (by decide +kernel) rfl
theorem wd_289 : (Cond.codeSync ({ cls := "java/lang/Throwable", name := "fillInStackTrace", desc := "()Ljava/lang/Throwable;" } : MethodName) prog_24_method_18_code 1 (some (FieldType.object "java/lang/Throwable"))) ∈ tbl := tbl_mem (i := 289) (by decide +kernel) rfl
theorem wd_290 : (Cond.methodLink "java/lang/Throwable" 202 ({ cls := "java/lang/Throwable", name := "fillInStackTrace", desc := "(I)Ljava/lang/Throwable;" } : MethodName)) ∈ tbl := tbl_mem (i := 290) (by decide +kernel) rfl
theorem wd_291 : (Cond.privateMethod ({ cls := "java/lang/Throwable", name := "fillInStackTrace", desc := "(I)Ljava/lang/Throwable;" } : MethodName)) ∈ tbl := tbl_mem (i := 291) (by decide +kernel) rfl
theorem wd_292 : (Cond.instanceMethod ({ cls := "java/lang/Throwable", name := "fillInStackTrace", desc := "(I)Ljava/lang/Throwable;" } : MethodName)) ∈ tbl := tbl_mem (i := 292) (by decide +kernel) rfl
theorem wd_293 : (Cond.instantiable "java/lang/Throwable" 6) ∈ tbl := tbl_mem (i := 293) (by decide +kernel) rfl
theorem wd_294 : (Cond.native ({ cls := "java/lang/Throwable", name := "fillInStackTrace", desc := "(I)Ljava/lang/Throwable;" } : MethodName)) ∈ tbl := tbl_mem (i := 294) (by decide +kernel) rfl
theorem wd_295 : (Cond.stringRef "HoldMaps" 47 "the value is not 0 .. 99") ∈ lw_tbl := lw_mem (i := 295) (by decide +kernel)
theorem wd_296 : (Cond.methodLink "HoldMaps" 49 ({ cls := "java/lang/IllegalArgumentException", name := "<init>", desc := "(Ljava/lang/String;)V" } : MethodName)) ∈ tbl := tbl_mem (i := 296) (by decide +kernel) rfl
theorem wd_297 : (Cond.instanceMethod ({ cls := "java/lang/IllegalArgumentException", name := "<init>", desc := "(Ljava/lang/String;)V" } : MethodName)) ∈ tbl := tbl_mem (i := 297) (by decide +kernel) rfl
theorem wd_298 : (Cond.code ({ cls := "java/lang/IllegalArgumentException", name := "<init>", desc := "(Ljava/lang/String;)V" } : MethodName) prog_17_method_2_code 2 none) ∈ tbl := tbl_mem (i := 298) (by decide +kernel) rfl
theorem wd_299 : (Cond.methodLink "java/lang/IllegalArgumentException" 7 ({ cls := "java/lang/RuntimeException", name := "<init>", desc := "(Ljava/lang/String;)V" } : MethodName)) ∈ tbl := tbl_mem (i := 299) (by decide +kernel) rfl
theorem wd_300 : (Cond.instanceMethod ({ cls := "java/lang/RuntimeException", name := "<init>", desc := "(Ljava/lang/String;)V" } : MethodName)) ∈ tbl := tbl_mem (i := 300) (by decide +kernel) rfl
theorem wd_301 : (Cond.code ({ cls := "java/lang/RuntimeException", name := "<init>", desc := "(Ljava/lang/String;)V" } : MethodName) prog_21_method_2_code 2 none) ∈ tbl := tbl_mem (i := 301) (by decide +kernel) rfl
theorem wd_302 : (Cond.methodLink "java/lang/RuntimeException" 7 ({ cls := "java/lang/Exception", name := "<init>", desc := "(Ljava/lang/String;)V" } : MethodName)) ∈ tbl := tbl_mem (i := 302) (by decide +kernel) rfl
theorem wd_303 : (Cond.instanceMethod ({ cls := "java/lang/Exception", name := "<init>", desc := "(Ljava/lang/String;)V" } : MethodName)) ∈ tbl := tbl_mem (i := 303) (by decide +kernel) rfl
theorem wd_304 : (Cond.code ({ cls := "java/lang/Exception", name := "<init>", desc := "(Ljava/lang/String;)V" } : MethodName) prog_16_method_2_code 2 none) ∈ tbl := tbl_mem (i := 304) (by decide +kernel) rfl
theorem wd_305 : (Cond.methodLink "java/lang/Exception" 7 ({ cls := "java/lang/Throwable", name := "<init>", desc := "(Ljava/lang/String;)V" } : MethodName)) ∈ tbl := tbl_mem (i := 305) (by decide +kernel) rfl
theorem wd_306 : (Cond.instanceMethod ({ cls := "java/lang/Throwable", name := "<init>", desc := "(Ljava/lang/String;)V" } : MethodName)) ∈ tbl := tbl_mem (i := 306) (by decide +kernel) rfl
theorem wd_307 : (Cond.code ({ cls := "java/lang/Throwable", name := "<init>", desc := "(Ljava/lang/String;)V" } : MethodName) prog_24_method_2_code 2 none) ∈ tbl := tbl_mem (i := 307) (by decide +kernel) rfl
theorem wd_308 : (Cond.fieldLink "java/lang/Throwable" 198 "java/lang/Throwable" "backtrace" "Ljava/lang/Object;") ∈ tbl := tbl_mem (i := 308) (by decide +kernel) rfl
theorem wd_309 : (Cond.fieldLink "java/lang/Throwable" 31 "java/lang/Throwable" "detailMessage" "Ljava/lang/String;") ∈ tbl := tbl_mem (i := 309) (by decide +kernel) rfl
theorem wd_310 : (Cond.fieldLink "java/lang/Throwable" 7 "java/lang/Throwable" "cause" "Ljava/lang/Throwable;") ∈ tbl := tbl_mem (i := 310) (by decide +kernel) rfl
theorem wd_311 : (Cond.fieldLink "java/lang/Throwable" 17 "java/lang/Throwable" "stackTrace" "[Ljava/lang/StackTraceElement;") ∈ tbl := tbl_mem (i := 311) (by decide +kernel) rfl
theorem wd_312 : (Cond.fieldLink "java/lang/Throwable" 24 "java/lang/Throwable" "suppressedExceptions" "Ljava/util/List;") ∈ tbl := tbl_mem (i := 312) (by decide +kernel) rfl
theorem wd_313 : (Cond.soleField "java/lang/Throwable" "backtrace") ∈ tbl := tbl_mem (i := 313) (by decide +kernel) rfl
theorem wd_314 : (Cond.soleField "java/lang/Throwable" "detailMessage") ∈ tbl := tbl_mem (i := 314) (by decide +kernel) rfl
theorem wd_315 : (Cond.soleField "java/lang/Throwable" "cause") ∈ tbl := tbl_mem (i := 315) (by decide +kernel) rfl
theorem wd_316 : (Cond.soleField "java/lang/Throwable" "stackTrace") ∈ tbl := tbl_mem (i := 316) (by decide +kernel) rfl
theorem wd_317 : (Cond.lays "java/lang/IllegalArgumentException" "java/lang/Throwable" "depth" "I") ∈ tbl := tbl_mem (i := 317) (by decide +kernel) rfl
theorem wd_318 : (Cond.soleField "java/lang/Throwable" "depth") ∈ tbl := tbl_mem (i := 318) (by decide +kernel) rfl
theorem wd_319 : (Cond.soleField "java/lang/Throwable" "suppressedExceptions") ∈ tbl := tbl_mem (i := 319) (by decide +kernel) rfl
theorem wd_320 : (Cond.superclass "java/lang/IllegalArgumentException" "java/lang/RuntimeException") ∈ tbl := tbl_mem (i := 320) (by decide +kernel) rfl
theorem wd_321 : (Cond.arrayClass FieldType.byte) ∈ tbl := tbl_mem (i := 321) (by decide +kernel) rfl
theorem wd_322 : (Cond.methodLink "HoldMaps" 52 ({ cls := "HoldMaps$Heap", name := "lowestFree", desc := "()I" } : MethodName)) ∈ tbl := tbl_mem (i := 322) (by decide +kernel) rfl
theorem wd_323 : (Cond.instanceMethod ({ cls := "HoldMaps$Heap", name := "lowestFree", desc := "()I" } : MethodName)) ∈ tbl := tbl_mem (i := 323) (by decide +kernel) rfl
theorem wd_324 : (Cond.selects "HoldMaps$Heap" ({ cls := "HoldMaps$Heap", name := "lowestFree", desc := "()I" } : MethodName) ({ cls := "HoldMaps$Heap", name := "lowestFree", desc := "()I" } : MethodName)) ∈ tbl := tbl_mem (i := 324) (by decide +kernel) rfl
theorem wd_325 : (Cond.code ({ cls := "HoldMaps$Heap", name := "lowestFree", desc := "()I" } : MethodName) prog_3_method_3_code 2 (some FieldType.int)) ∈ tbl := tbl_mem (i := 325) (by decide +kernel) rfl
theorem wd_326 : (Cond.classLink "HoldMaps" 56 "java/lang/IllegalStateException") ∈ tbl := tbl_mem (i := 326) (by decide +kernel) rfl
theorem wd_327 : (Cond.instantiable "java/lang/IllegalStateException" 6) ∈ tbl := tbl_mem (i := 327) (by decide +kernel) rfl
theorem wd_328 : (Cond.castable "java/lang/IllegalStateException" "java/lang/IllegalStateException") ∈ tbl := tbl_mem (i := 328) (by decide +kernel) rfl
theorem wd_329 : (Cond.selects "java/lang/IllegalStateException" ({ cls := "java/lang/Throwable", name := "fillInStackTrace", desc := "(I)Ljava/lang/Throwable;" } : MethodName) ({ cls := "java/lang/Throwable", name := "fillInStackTrace", desc := "(I)Ljava/lang/Throwable;" } : MethodName)) ∈ tbl := tbl_mem (i := 329) (by decide +kernel) rfl
theorem wd_330 : (Cond.lays "java/lang/IllegalStateException" "java/lang/Throwable" "cause" "Ljava/lang/Throwable;") ∈ tbl := tbl_mem (i := 330) (by decide +kernel) rfl
theorem wd_331 : (Cond.lays "java/lang/IllegalStateException" "java/lang/Throwable" "stackTrace" "[Ljava/lang/StackTraceElement;") ∈ tbl := tbl_mem (i := 331) (by decide +kernel) rfl
theorem wd_332 : (Cond.lays "java/lang/IllegalStateException" "java/lang/Throwable" "suppressedExceptions" "Ljava/util/List;") ∈ tbl := tbl_mem (i := 332) (by decide +kernel) rfl
theorem wd_333 : (Cond.lays "java/lang/IllegalStateException" "java/lang/Throwable" "detailMessage" "Ljava/lang/String;") ∈ tbl := tbl_mem (i := 333) (by decide +kernel) rfl
theorem wd_334 : (Cond.lays "java/lang/IllegalStateException" "java/lang/Throwable" "backtrace" "Ljava/lang/Object;") ∈ tbl := tbl_mem (i := 334) (by decide +kernel) rfl
theorem wd_335 : (Cond.stringRef "HoldMaps" 58 "there are 32 objects") ∈ lw_tbl := lw_mem (i := 335) (by decide +kernel)
theorem wd_336 : (Cond.methodLink "HoldMaps" 60 ({ cls := "java/lang/IllegalStateException", name := "<init>", desc := "(Ljava/lang/String;)V" } : MethodName)) ∈ tbl := tbl_mem (i := 336) (by decide +kernel) rfl
theorem wd_337 : (Cond.instanceMethod ({ cls := "java/lang/IllegalStateException", name := "<init>", desc := "(Ljava/lang/String;)V" } : MethodName)) ∈ tbl := tbl_mem (i := 337) (by decide +kernel) rfl
theorem wd_338 : (Cond.code ({ cls := "java/lang/IllegalStateException", name := "<init>", desc := "(Ljava/lang/String;)V" } : MethodName) prog_18_method_2_code 2 none) ∈ tbl := tbl_mem (i := 338) (by decide +kernel) rfl
theorem wd_339 : (Cond.methodLink "java/lang/IllegalStateException" 7 ({ cls := "java/lang/RuntimeException", name := "<init>", desc := "(Ljava/lang/String;)V" } : MethodName)) ∈ tbl := tbl_mem (i := 339) (by decide +kernel) rfl
theorem wd_340 : (Cond.lays "java/lang/IllegalStateException" "java/lang/Throwable" "depth" "I") ∈ tbl := tbl_mem (i := 340) (by decide +kernel) rfl
theorem wd_341 : (Cond.superclass "java/lang/IllegalStateException" "java/lang/RuntimeException") ∈ tbl := tbl_mem (i := 341) (by decide +kernel) rfl
theorem wd_342 : (Cond.classLink "HoldMaps" 65 "HoldMaps$Thing") ∈ tbl := tbl_mem (i := 342) (by decide +kernel) rfl
theorem wd_343 : (Cond.instantiable "HoldMaps$Thing" 4) ∈ tbl := tbl_mem (i := 343) (by decide +kernel) rfl
theorem wd_344 : (Cond.methodLink "HoldMaps" 67 ({ cls := "HoldMaps$Thing", name := "<init>", desc := "(I)V" } : MethodName)) ∈ tbl := tbl_mem (i := 344) (by decide +kernel) rfl
theorem wd_345 : (Cond.instanceMethod ({ cls := "HoldMaps$Thing", name := "<init>", desc := "(I)V" } : MethodName)) ∈ tbl := tbl_mem (i := 345) (by decide +kernel) rfl
theorem wd_346 : (Cond.code ({ cls := "HoldMaps$Thing", name := "<init>", desc := "(I)V" } : MethodName) prog_10_method_1_code 2 none) ∈ tbl := tbl_mem (i := 346) (by decide +kernel) rfl
theorem wd_347 : (Cond.methodLink "HoldMaps$Thing" 3 ({ cls := "java/lang/Object", name := "<init>", desc := "()V" } : MethodName)) ∈ tbl := tbl_mem (i := 347) (by decide +kernel) rfl
theorem wd_348 : (Cond.fieldLink "HoldMaps$Thing" 9 "HoldMaps$Thing" "value" "I") ∈ tbl := tbl_mem (i := 348) (by decide +kernel) rfl
theorem wd_349 : (Cond.fieldLink "HoldMaps" 94 "HoldMaps$Thing" "value" "I") ∈ tbl := tbl_mem (i := 349) (by decide +kernel) rfl
theorem wd_350 : (Cond.fieldLink "HoldMaps$Thing" 15 "HoldMaps$Thing" "references" "[I") ∈ tbl := tbl_mem (i := 350) (by decide +kernel) rfl
theorem wd_351 : (Cond.fieldLink "HoldMaps" 78 "HoldMaps$Thing" "references" "[I") ∈ tbl := tbl_mem (i := 351) (by decide +kernel) rfl
theorem wd_352 : (Cond.fieldLink "HoldMaps$Heap" 46 "HoldMaps$Thing" "references" "[I") ∈ tbl := tbl_mem (i := 352) (by decide +kernel) rfl
theorem wd_353 : (Cond.fieldLink "HoldMaps" 84 "HoldMaps$Thing" "isRoot" "Z") ∈ tbl := tbl_mem (i := 353) (by decide +kernel) rfl
theorem wd_354 : (Cond.fieldLink "HoldMaps$Heap" 33 "HoldMaps$Thing" "isRoot" "Z") ∈ tbl := tbl_mem (i := 354) (by decide +kernel) rfl
theorem wd_355 : (Cond.fieldLink "HoldMaps$Heap" 25 "HoldMaps$Thing" "isHeld" "Z") ∈ tbl := tbl_mem (i := 355) (by decide +kernel) rfl
theorem wd_356 : (Cond.laysFinal "HoldMaps$Thing" "HoldMaps$Thing" "value" "I") ∈ tbl := tbl_mem (i := 356) (by decide +kernel) rfl
theorem wd_357 : (Cond.soleField "HoldMaps$Thing" "value") ∈ tbl := tbl_mem (i := 357) (by decide +kernel) rfl
theorem wd_358 : (Cond.laysFinal "HoldMaps$Thing" "HoldMaps$Thing" "references" "[I") ∈ tbl := tbl_mem (i := 358) (by decide +kernel) rfl
theorem wd_359 : (Cond.soleField "HoldMaps$Thing" "references") ∈ tbl := tbl_mem (i := 359) (by decide +kernel) rfl
theorem wd_360 : (Cond.lays "HoldMaps$Thing" "HoldMaps$Thing" "isRoot" "Z") ∈ tbl := tbl_mem (i := 360) (by decide +kernel) rfl
theorem wd_361 : (Cond.soleField "HoldMaps$Thing" "isRoot") ∈ tbl := tbl_mem (i := 361) (by decide +kernel) rfl
theorem wd_362 : (Cond.lays "HoldMaps$Thing" "HoldMaps$Thing" "isHeld" "Z") ∈ tbl := tbl_mem (i := 362) (by decide +kernel) rfl
theorem wd_363 : (Cond.soleField "HoldMaps$Thing" "isHeld") ∈ tbl := tbl_mem (i := 363) (by decide +kernel) rfl
theorem wd_364 : (Cond.superclass "HoldMaps$Thing" "java/lang/Object") ∈ tbl := tbl_mem (i := 364) (by decide +kernel) rfl
theorem wd_365 : (Cond.methodLink "HoldMapsLaw" 64 ({ cls := "HoldMapsLaw", name := "refer", desc := "(LHoldMaps;III[J)I" } : MethodName)) ∈ tbl := tbl_mem (i := 365) (by decide +kernel) rfl
theorem wd_366 : (Cond.static ({ cls := "HoldMapsLaw", name := "refer", desc := "(LHoldMaps;III[J)I" } : MethodName)) ∈ tbl := tbl_mem (i := 366) (by decide +kernel) rfl
theorem wd_367 : (Cond.codeWith ({ cls := "HoldMapsLaw", name := "refer", desc := "(LHoldMaps;III[J)I" } : MethodName) method_4_code 6 (some FieldType.int) [(0, 12, 15, 13)]) ∈ tbl := tbl_mem (i := 367) (by decide +kernel) rfl
theorem wd_368 : (Cond.methodLink "HoldMapsLaw" 17 ({ cls := "HoldMaps", name := "refer", desc := "(III)I" } : MethodName)) ∈ tbl := tbl_mem (i := 368) (by decide +kernel) rfl
theorem wd_369 : (Cond.instanceMethod ({ cls := "HoldMaps", name := "refer", desc := "(III)I" } : MethodName)) ∈ tbl := tbl_mem (i := 369) (by decide +kernel) rfl
theorem wd_370 : (Cond.selects "HoldMaps" ({ cls := "HoldMaps", name := "refer", desc := "(III)I" } : MethodName) ({ cls := "HoldMaps", name := "refer", desc := "(III)I" } : MethodName)) ∈ tbl := tbl_mem (i := 370) (by decide +kernel) rfl
theorem wd_371 : (Cond.code ({ cls := "HoldMaps", name := "refer", desc := "(III)I" } : MethodName) prog_1_method_3_code 6 (some FieldType.int)) ∈ tbl := tbl_mem (i := 371) (by decide +kernel) rfl
theorem wd_372 : (Cond.stringRef "HoldMaps" 74 "no such object or reference") ∈ lw_tbl := lw_mem (i := 372) (by decide +kernel)
theorem wd_373 : (Cond.stringRef "HoldMaps" 76 "no such object to refer to") ∈ lw_tbl := lw_mem (i := 373) (by decide +kernel)
theorem wd_374 : (Cond.methodLink "HoldMapsLaw" 68 ({ cls := "HoldMapsLaw", name := "root", desc := "(LHoldMaps;IZ[J)I" } : MethodName)) ∈ tbl := tbl_mem (i := 374) (by decide +kernel) rfl
theorem wd_375 : (Cond.static ({ cls := "HoldMapsLaw", name := "root", desc := "(LHoldMaps;IZ[J)I" } : MethodName)) ∈ tbl := tbl_mem (i := 375) (by decide +kernel) rfl
theorem wd_376 : (Cond.codeWith ({ cls := "HoldMapsLaw", name := "root", desc := "(LHoldMaps;IZ[J)I" } : MethodName) method_5_code 5 (some FieldType.int) [(0, 17, 20, 13)]) ∈ tbl := tbl_mem (i := 376) (by decide +kernel) rfl
theorem wd_377 : (Cond.methodLink "HoldMapsLaw" 21 ({ cls := "HoldMaps", name := "root", desc := "(IZ)Z" } : MethodName)) ∈ tbl := tbl_mem (i := 377) (by decide +kernel) rfl
theorem wd_378 : (Cond.instanceMethod ({ cls := "HoldMaps", name := "root", desc := "(IZ)Z" } : MethodName)) ∈ tbl := tbl_mem (i := 378) (by decide +kernel) rfl
theorem wd_379 : (Cond.selects "HoldMaps" ({ cls := "HoldMaps", name := "root", desc := "(IZ)Z" } : MethodName) ({ cls := "HoldMaps", name := "root", desc := "(IZ)Z" } : MethodName)) ∈ tbl := tbl_mem (i := 379) (by decide +kernel) rfl
theorem wd_380 : (Cond.code ({ cls := "HoldMaps", name := "root", desc := "(IZ)Z" } : MethodName) prog_1_method_4_code 5 (some FieldType.boolean)) ∈ tbl := tbl_mem (i := 380) (by decide +kernel) rfl
theorem wd_381 : (Cond.stringRef "HoldMaps" 82 "no such object") ∈ lw_tbl := lw_mem (i := 381) (by decide +kernel)
theorem wd_382 : (Cond.methodLink "HoldMapsLaw" 72 ({ cls := "HoldMapsLaw", name := "put", desc := "(LHoldMaps;III[J)I" } : MethodName)) ∈ tbl := tbl_mem (i := 382) (by decide +kernel) rfl
theorem wd_383 : (Cond.static ({ cls := "HoldMapsLaw", name := "put", desc := "(LHoldMaps;III[J)I" } : MethodName)) ∈ tbl := tbl_mem (i := 383) (by decide +kernel) rfl
theorem wd_384 : (Cond.codeWith ({ cls := "HoldMapsLaw", name := "put", desc := "(LHoldMaps;III[J)I" } : MethodName) method_6_code 6 (some FieldType.int) [(0, 12, 15, 13), (0, 12, 19, 15)]) ∈ tbl := tbl_mem (i := 384) (by decide +kernel) rfl
theorem wd_385 : (Cond.methodLink "HoldMapsLaw" 25 ({ cls := "HoldMaps", name := "put", desc := "(III)I" } : MethodName)) ∈ tbl := tbl_mem (i := 385) (by decide +kernel) rfl
theorem wd_386 : (Cond.instanceMethod ({ cls := "HoldMaps", name := "put", desc := "(III)I" } : MethodName)) ∈ tbl := tbl_mem (i := 386) (by decide +kernel) rfl
theorem wd_387 : (Cond.selects "HoldMaps" ({ cls := "HoldMaps", name := "put", desc := "(III)I" } : MethodName) ({ cls := "HoldMaps", name := "put", desc := "(III)I" } : MethodName)) ∈ tbl := tbl_mem (i := 387) (by decide +kernel) rfl
theorem wd_388 : (Cond.code ({ cls := "HoldMaps", name := "put", desc := "(III)I" } : MethodName) prog_1_method_5_code 10 (some FieldType.int)) ∈ tbl := tbl_mem (i := 388) (by decide +kernel) rfl
theorem wd_389 : (Cond.methodLink "HoldMaps" 88 ({ cls := "HoldMaps", name := "isKeyOf", desc := "(II)Z" } : MethodName)) ∈ tbl := tbl_mem (i := 389) (by decide +kernel) rfl
theorem wd_390 : (Cond.privateMethod ({ cls := "HoldMaps", name := "isKeyOf", desc := "(II)Z" } : MethodName)) ∈ tbl := tbl_mem (i := 390) (by decide +kernel) rfl
theorem wd_391 : (Cond.instanceMethod ({ cls := "HoldMaps", name := "isKeyOf", desc := "(II)Z" } : MethodName)) ∈ tbl := tbl_mem (i := 391) (by decide +kernel) rfl
theorem wd_392 : (Cond.code ({ cls := "HoldMaps", name := "isKeyOf", desc := "(II)Z" } : MethodName) prog_1_method_16_code 3 (some FieldType.boolean)) ∈ tbl := tbl_mem (i := 392) (by decide +kernel) rfl
theorem wd_393 : (Cond.methodLink "HoldMaps" 205 ({ cls := "HoldMaps$Table", name := "takes", desc := "(I)Z" } : MethodName)) ∈ tbl := tbl_mem (i := 393) (by decide +kernel) rfl
theorem wd_394 : (Cond.instanceMethod ({ cls := "HoldMaps$Table", name := "takes", desc := "(I)Z" } : MethodName)) ∈ tbl := tbl_mem (i := 394) (by decide +kernel) rfl
theorem wd_395 : (Cond.sameMethod "HoldMaps$Table" "HoldMaps$Table" "takes" "(I)Z") ∈ tbl := tbl_mem (i := 395) (by decide +kernel) rfl
theorem wd_396 : (Cond.selects "HoldMaps$IdentityMap" ({ cls := "HoldMaps$Table", name := "takes", desc := "(I)Z" } : MethodName) ({ cls := "HoldMaps$Table", name := "takes", desc := "(I)Z" } : MethodName)) ∈ tbl := tbl_mem (i := 396) (by decide +kernel) rfl
theorem wd_397 : (Cond.selects "HoldMaps$LatestMap" ({ cls := "HoldMaps$Table", name := "takes", desc := "(I)Z" } : MethodName) ({ cls := "HoldMaps$Table", name := "takes", desc := "(I)Z" } : MethodName)) ∈ tbl := tbl_mem (i := 397) (by decide +kernel) rfl
theorem wd_398 : (Cond.selects "HoldMaps$PlacesMap" ({ cls := "HoldMaps$Table", name := "takes", desc := "(I)Z" } : MethodName) ({ cls := "HoldMaps$PlacesMap", name := "takes", desc := "(I)Z" } : MethodName)) ∈ tbl := tbl_mem (i := 398) (by decide +kernel) rfl
theorem wd_399 : (Cond.instanceMethod ({ cls := "HoldMaps$PlacesMap", name := "takes", desc := "(I)Z" } : MethodName)) ∈ tbl := tbl_mem (i := 399) (by decide +kernel) rfl
theorem wd_400 : (Cond.code ({ cls := "HoldMaps$PlacesMap", name := "takes", desc := "(I)Z" } : MethodName) prog_6_method_4_code 2 (some FieldType.boolean)) ∈ tbl := tbl_mem (i := 400) (by decide +kernel) rfl
theorem wd_401 : (Cond.selects "HoldMaps$SoftMap" ({ cls := "HoldMaps$Table", name := "takes", desc := "(I)Z" } : MethodName) ({ cls := "HoldMaps$Table", name := "takes", desc := "(I)Z" } : MethodName)) ∈ tbl := tbl_mem (i := 401) (by decide +kernel) rfl
theorem wd_402 : (Cond.selects "HoldMaps$WeakMap" ({ cls := "HoldMaps$Table", name := "takes", desc := "(I)Z" } : MethodName) ({ cls := "HoldMaps$Table", name := "takes", desc := "(I)Z" } : MethodName)) ∈ tbl := tbl_mem (i := 402) (by decide +kernel) rfl
theorem wd_403 : (Cond.code ({ cls := "HoldMaps$Table", name := "takes", desc := "(I)Z" } : MethodName) prog_9_method_11_code 2 (some FieldType.boolean)) ∈ tbl := tbl_mem (i := 403) (by decide +kernel) rfl
theorem wd_404 : (Cond.stringRef "HoldMaps" 92 "no such map, key or value") ∈ lw_tbl := lw_mem (i := 404) (by decide +kernel)
theorem wd_405 : (Cond.methodLink "HoldMaps" 98 ({ cls := "HoldMaps$Table", name := "markOf", desc := "(II)I" } : MethodName)) ∈ tbl := tbl_mem (i := 405) (by decide +kernel) rfl
theorem wd_406 : (Cond.instanceMethod ({ cls := "HoldMaps$Table", name := "markOf", desc := "(II)I" } : MethodName)) ∈ tbl := tbl_mem (i := 406) (by decide +kernel) rfl
theorem wd_407 : (Cond.sameMethod "HoldMaps$Table" "HoldMaps$Table" "markOf" "(II)I") ∈ tbl := tbl_mem (i := 407) (by decide +kernel) rfl
theorem wd_408 : (Cond.selects "HoldMaps$IdentityMap" ({ cls := "HoldMaps$Table", name := "markOf", desc := "(II)I" } : MethodName) ({ cls := "HoldMaps$IdentityMap", name := "markOf", desc := "(II)I" } : MethodName)) ∈ tbl := tbl_mem (i := 408) (by decide +kernel) rfl
theorem wd_409 : (Cond.instanceMethod ({ cls := "HoldMaps$IdentityMap", name := "markOf", desc := "(II)I" } : MethodName)) ∈ tbl := tbl_mem (i := 409) (by decide +kernel) rfl
theorem wd_410 : (Cond.code ({ cls := "HoldMaps$IdentityMap", name := "markOf", desc := "(II)I" } : MethodName) prog_4_method_6_code 3 (some FieldType.int)) ∈ tbl := tbl_mem (i := 410) (by decide +kernel) rfl
theorem wd_411 : (Cond.selects "HoldMaps$LatestMap" ({ cls := "HoldMaps$Table", name := "markOf", desc := "(II)I" } : MethodName) ({ cls := "HoldMaps$Table", name := "markOf", desc := "(II)I" } : MethodName)) ∈ tbl := tbl_mem (i := 411) (by decide +kernel) rfl
theorem wd_412 : (Cond.selects "HoldMaps$PlacesMap" ({ cls := "HoldMaps$Table", name := "markOf", desc := "(II)I" } : MethodName) ({ cls := "HoldMaps$Table", name := "markOf", desc := "(II)I" } : MethodName)) ∈ tbl := tbl_mem (i := 412) (by decide +kernel) rfl
theorem wd_413 : (Cond.selects "HoldMaps$SoftMap" ({ cls := "HoldMaps$Table", name := "markOf", desc := "(II)I" } : MethodName) ({ cls := "HoldMaps$Table", name := "markOf", desc := "(II)I" } : MethodName)) ∈ tbl := tbl_mem (i := 413) (by decide +kernel) rfl
theorem wd_414 : (Cond.selects "HoldMaps$WeakMap" ({ cls := "HoldMaps$Table", name := "markOf", desc := "(II)I" } : MethodName) ({ cls := "HoldMaps$Table", name := "markOf", desc := "(II)I" } : MethodName)) ∈ tbl := tbl_mem (i := 414) (by decide +kernel) rfl
theorem wd_415 : (Cond.code ({ cls := "HoldMaps$Table", name := "markOf", desc := "(II)I" } : MethodName) prog_9_method_9_code 3 (some FieldType.int)) ∈ tbl := tbl_mem (i := 415) (by decide +kernel) rfl
theorem wd_416 : (Cond.methodLink "HoldMaps" 102 ({ cls := "HoldMaps$Table", name := "find", desc := "(I)I" } : MethodName)) ∈ tbl := tbl_mem (i := 416) (by decide +kernel) rfl
theorem wd_417 : (Cond.instanceMethod ({ cls := "HoldMaps$Table", name := "find", desc := "(I)I" } : MethodName)) ∈ tbl := tbl_mem (i := 417) (by decide +kernel) rfl
theorem wd_418 : (Cond.sameMethod "HoldMaps$Table" "HoldMaps$Table" "find" "(I)I") ∈ tbl := tbl_mem (i := 418) (by decide +kernel) rfl
theorem wd_419 : (Cond.selects "HoldMaps$IdentityMap" ({ cls := "HoldMaps$Table", name := "find", desc := "(I)I" } : MethodName) ({ cls := "HoldMaps$Table", name := "find", desc := "(I)I" } : MethodName)) ∈ tbl := tbl_mem (i := 419) (by decide +kernel) rfl
theorem wd_420 : (Cond.selects "HoldMaps$LatestMap" ({ cls := "HoldMaps$Table", name := "find", desc := "(I)I" } : MethodName) ({ cls := "HoldMaps$Table", name := "find", desc := "(I)I" } : MethodName)) ∈ tbl := tbl_mem (i := 420) (by decide +kernel) rfl
theorem wd_421 : (Cond.selects "HoldMaps$PlacesMap" ({ cls := "HoldMaps$Table", name := "find", desc := "(I)I" } : MethodName) ({ cls := "HoldMaps$Table", name := "find", desc := "(I)I" } : MethodName)) ∈ tbl := tbl_mem (i := 421) (by decide +kernel) rfl
theorem wd_422 : (Cond.selects "HoldMaps$SoftMap" ({ cls := "HoldMaps$Table", name := "find", desc := "(I)I" } : MethodName) ({ cls := "HoldMaps$Table", name := "find", desc := "(I)I" } : MethodName)) ∈ tbl := tbl_mem (i := 422) (by decide +kernel) rfl
theorem wd_423 : (Cond.selects "HoldMaps$WeakMap" ({ cls := "HoldMaps$Table", name := "find", desc := "(I)I" } : MethodName) ({ cls := "HoldMaps$Table", name := "find", desc := "(I)I" } : MethodName)) ∈ tbl := tbl_mem (i := 423) (by decide +kernel) rfl
theorem wd_424 : (Cond.code ({ cls := "HoldMaps$Table", name := "find", desc := "(I)I" } : MethodName) prog_9_method_8_code 4 (some FieldType.int)) ∈ tbl := tbl_mem (i := 424) (by decide +kernel) rfl
theorem wd_425 : (Cond.methodLink "HoldMaps$Table" 24 ({ cls := "HoldMaps$Table", name := "length", desc := "()I" } : MethodName)) ∈ tbl := tbl_mem (i := 425) (by decide +kernel) rfl
theorem wd_426 : (Cond.methodLink "HoldMaps$Table" 9 ({ cls := "HoldMaps$Table", name := "entryAt", desc := "(I)LHoldMaps$Entry;" } : MethodName)) ∈ tbl := tbl_mem (i := 426) (by decide +kernel) rfl
theorem wd_427 : (Cond.declares ({ cls := "HoldMaps$Table", name := "entryAt", desc := "(I)LHoldMaps$Entry;" } : MethodName)) ∈ tbl := tbl_mem (i := 427) (by decide +kernel) rfl
theorem wd_428 : (Cond.sameMethod "HoldMaps$Table" "HoldMaps$Table" "entryAt" "(I)LHoldMaps$Entry;") ∈ tbl := tbl_mem (i := 428) (by decide +kernel) rfl
theorem wd_429 : (Cond.selects "HoldMaps$IdentityMap" ({ cls := "HoldMaps$Table", name := "entryAt", desc := "(I)LHoldMaps$Entry;" } : MethodName) ({ cls := "HoldMaps$IdentityMap", name := "entryAt", desc := "(I)LHoldMaps$Entry;" } : MethodName)) ∈ tbl := tbl_mem (i := 429) (by decide +kernel) rfl
theorem wd_430 : (Cond.instanceMethod ({ cls := "HoldMaps$IdentityMap", name := "entryAt", desc := "(I)LHoldMaps$Entry;" } : MethodName)) ∈ tbl := tbl_mem (i := 430) (by decide +kernel) rfl
theorem wd_431 : (Cond.code ({ cls := "HoldMaps$IdentityMap", name := "entryAt", desc := "(I)LHoldMaps$Entry;" } : MethodName) prog_4_method_3_code 3 (some (FieldType.object "HoldMaps$Entry"))) ∈ tbl := tbl_mem (i := 431) (by decide +kernel) rfl
theorem wd_432 : (Cond.methodLink "HoldMaps$IdentityMap" 21 ({ cls := "HoldMaps$IdentityMap", name := "slotOf", desc := "(I)I" } : MethodName)) ∈ tbl := tbl_mem (i := 432) (by decide +kernel) rfl
theorem wd_433 : (Cond.privateMethod ({ cls := "HoldMaps$IdentityMap", name := "slotOf", desc := "(I)I" } : MethodName)) ∈ tbl := tbl_mem (i := 433) (by decide +kernel) rfl
theorem wd_434 : (Cond.instanceMethod ({ cls := "HoldMaps$IdentityMap", name := "slotOf", desc := "(I)I" } : MethodName)) ∈ tbl := tbl_mem (i := 434) (by decide +kernel) rfl
theorem wd_435 : (Cond.code ({ cls := "HoldMaps$IdentityMap", name := "slotOf", desc := "(I)I" } : MethodName) prog_4_method_8_code 4 (some FieldType.int)) ∈ tbl := tbl_mem (i := 435) (by decide +kernel) rfl
theorem wd_436 : (Cond.selects "HoldMaps$LatestMap" ({ cls := "HoldMaps$Table", name := "entryAt", desc := "(I)LHoldMaps$Entry;" } : MethodName) ({ cls := "HoldMaps$Row", name := "entryAt", desc := "(I)LHoldMaps$Entry;" } : MethodName)) ∈ tbl := tbl_mem (i := 436) (by decide +kernel) rfl
theorem wd_437 : (Cond.instanceMethod ({ cls := "HoldMaps$Row", name := "entryAt", desc := "(I)LHoldMaps$Entry;" } : MethodName)) ∈ tbl := tbl_mem (i := 437) (by decide +kernel) rfl
theorem wd_438 : (Cond.code ({ cls := "HoldMaps$Row", name := "entryAt", desc := "(I)LHoldMaps$Entry;" } : MethodName) prog_7_method_3_code 2 (some (FieldType.object "HoldMaps$Entry"))) ∈ tbl := tbl_mem (i := 438) (by decide +kernel) rfl
theorem wd_439 : (Cond.methodLink "HoldMaps$Row" 20 ({ cls := "java/util/ArrayList", name := "get", desc := "(I)Ljava/lang/Object;" } : MethodName)) ∈ tbl := tbl_mem (i := 439) (by decide +kernel) rfl
theorem wd_440 : (Cond.instanceMethod ({ cls := "java/util/ArrayList", name := "get", desc := "(I)Ljava/lang/Object;" } : MethodName)) ∈ tbl := tbl_mem (i := 440) (by decide +kernel) rfl
theorem wd_441 : (Cond.selects "java/util/ArrayList" ({ cls := "java/util/ArrayList", name := "get", desc := "(I)Ljava/lang/Object;" } : MethodName) ({ cls := "java/util/ArrayList", name := "get", desc := "(I)Ljava/lang/Object;" } : MethodName)) ∈ tbl := tbl_mem (i := 441) (by decide +kernel) rfl
theorem wd_442 : (Cond.code ({ cls := "java/util/ArrayList", name := "get", desc := "(I)Ljava/lang/Object;" } : MethodName) prog_27_method_20_code 2 (some (FieldType.object "java/lang/Object"))) ∈ tbl := tbl_mem (i := 442) (by decide +kernel) rfl
theorem wd_443 : (Cond.methodLink "java/util/ArrayList" 118 ({ cls := "java/util/Objects", name := "checkIndex", desc := "(II)I" } : MethodName)) ∈ tbl := tbl_mem (i := 443) (by decide +kernel) rfl
theorem wd_444 : (Cond.static ({ cls := "java/util/Objects", name := "checkIndex", desc := "(II)I" } : MethodName)) ∈ tbl := tbl_mem (i := 444) (by decide +kernel) rfl
theorem wd_445 : (Cond.code ({ cls := "java/util/Objects", name := "checkIndex", desc := "(II)I" } : MethodName) prog_32_method_17_code 2 (some FieldType.int)) ∈ tbl := tbl_mem (i := 445) (by decide +kernel) rfl
theorem wd_446 : (Cond.methodLink "java/util/Objects" 105 ({ cls := "jdk/internal/util/Preconditions", name := "checkIndex", desc := "(IILjava/util/function/BiFunction;)I" } : MethodName)) ∈ tbl := tbl_mem (i := 446) (by decide +kernel) rfl
theorem wd_447 : (Cond.static ({ cls := "jdk/internal/util/Preconditions", name := "checkIndex", desc := "(IILjava/util/function/BiFunction;)I" } : MethodName)) ∈ tbl := tbl_mem (i := 447) (by decide +kernel) rfl
theorem wd_448 : (Cond.code ({ cls := "jdk/internal/util/Preconditions", name := "checkIndex", desc := "(IILjava/util/function/BiFunction;)I" } : MethodName) prog_36_method_11_code 3 (some FieldType.int)) ∈ tbl := tbl_mem (i := 448) (by decide +kernel) rfl
theorem wd_449 : (Cond.methodLink "java/util/ArrayList" 123 ({ cls := "java/util/ArrayList", name := "elementData", desc := "(I)Ljava/lang/Object;" } : MethodName)) ∈ tbl := tbl_mem (i := 449) (by decide +kernel) rfl
theorem wd_450 : (Cond.instanceMethod ({ cls := "java/util/ArrayList", name := "elementData", desc := "(I)Ljava/lang/Object;" } : MethodName)) ∈ tbl := tbl_mem (i := 450) (by decide +kernel) rfl
theorem wd_451 : (Cond.selects "java/util/ArrayList" ({ cls := "java/util/ArrayList", name := "elementData", desc := "(I)Ljava/lang/Object;" } : MethodName) ({ cls := "java/util/ArrayList", name := "elementData", desc := "(I)Ljava/lang/Object;" } : MethodName)) ∈ tbl := tbl_mem (i := 451) (by decide +kernel) rfl
theorem wd_452 : (Cond.code ({ cls := "java/util/ArrayList", name := "elementData", desc := "(I)Ljava/lang/Object;" } : MethodName) prog_27_method_18_code 2 (some (FieldType.object "java/lang/Object"))) ∈ tbl := tbl_mem (i := 452) (by decide +kernel) rfl
theorem wd_453 : (Cond.classLink "HoldMaps$Row" 24 "HoldMaps$Entry") ∈ tbl := tbl_mem (i := 453) (by decide +kernel) rfl
theorem wd_454 : (Cond.selects "HoldMaps$PlacesMap" ({ cls := "HoldMaps$Table", name := "entryAt", desc := "(I)LHoldMaps$Entry;" } : MethodName) ({ cls := "HoldMaps$Row", name := "entryAt", desc := "(I)LHoldMaps$Entry;" } : MethodName)) ∈ tbl := tbl_mem (i := 454) (by decide +kernel) rfl
theorem wd_455 : (Cond.selects "HoldMaps$SoftMap" ({ cls := "HoldMaps$Table", name := "entryAt", desc := "(I)LHoldMaps$Entry;" } : MethodName) ({ cls := "HoldMaps$Row", name := "entryAt", desc := "(I)LHoldMaps$Entry;" } : MethodName)) ∈ tbl := tbl_mem (i := 455) (by decide +kernel) rfl
theorem wd_456 : (Cond.selects "HoldMaps$WeakMap" ({ cls := "HoldMaps$Table", name := "entryAt", desc := "(I)LHoldMaps$Entry;" } : MethodName) ({ cls := "HoldMaps$Row", name := "entryAt", desc := "(I)LHoldMaps$Entry;" } : MethodName)) ∈ tbl := tbl_mem (i := 456) (by decide +kernel) rfl
theorem wd_457 : (Cond.methodLink "HoldMaps" 106 ({ cls := "HoldMaps$Table", name := "entryAt", desc := "(I)LHoldMaps$Entry;" } : MethodName)) ∈ tbl := tbl_mem (i := 457) (by decide +kernel) rfl
theorem wd_458 : (Cond.methodLink "HoldMaps" 110 ({ cls := "HoldMaps$Table", name := "isFull", desc := "()Z" } : MethodName)) ∈ tbl := tbl_mem (i := 458) (by decide +kernel) rfl
theorem wd_459 : (Cond.instanceMethod ({ cls := "HoldMaps$Table", name := "isFull", desc := "()Z" } : MethodName)) ∈ tbl := tbl_mem (i := 459) (by decide +kernel) rfl
theorem wd_460 : (Cond.sameMethod "HoldMaps$Table" "HoldMaps$Table" "isFull" "()Z") ∈ tbl := tbl_mem (i := 460) (by decide +kernel) rfl
theorem wd_461 : (Cond.selects "HoldMaps$IdentityMap" ({ cls := "HoldMaps$Table", name := "isFull", desc := "()Z" } : MethodName) ({ cls := "HoldMaps$IdentityMap", name := "isFull", desc := "()Z" } : MethodName)) ∈ tbl := tbl_mem (i := 461) (by decide +kernel) rfl
theorem wd_462 : (Cond.instanceMethod ({ cls := "HoldMaps$IdentityMap", name := "isFull", desc := "()Z" } : MethodName)) ∈ tbl := tbl_mem (i := 462) (by decide +kernel) rfl
theorem wd_463 : (Cond.code ({ cls := "HoldMaps$IdentityMap", name := "isFull", desc := "()Z" } : MethodName) prog_4_method_7_code 1 (some FieldType.boolean)) ∈ tbl := tbl_mem (i := 463) (by decide +kernel) rfl
theorem wd_464 : (Cond.selects "HoldMaps$LatestMap" ({ cls := "HoldMaps$Table", name := "isFull", desc := "()Z" } : MethodName) ({ cls := "HoldMaps$Table", name := "isFull", desc := "()Z" } : MethodName)) ∈ tbl := tbl_mem (i := 464) (by decide +kernel) rfl
theorem wd_465 : (Cond.selects "HoldMaps$PlacesMap" ({ cls := "HoldMaps$Table", name := "isFull", desc := "()Z" } : MethodName) ({ cls := "HoldMaps$Table", name := "isFull", desc := "()Z" } : MethodName)) ∈ tbl := tbl_mem (i := 465) (by decide +kernel) rfl
theorem wd_466 : (Cond.selects "HoldMaps$SoftMap" ({ cls := "HoldMaps$Table", name := "isFull", desc := "()Z" } : MethodName) ({ cls := "HoldMaps$Table", name := "isFull", desc := "()Z" } : MethodName)) ∈ tbl := tbl_mem (i := 466) (by decide +kernel) rfl
theorem wd_467 : (Cond.selects "HoldMaps$WeakMap" ({ cls := "HoldMaps$Table", name := "isFull", desc := "()Z" } : MethodName) ({ cls := "HoldMaps$Table", name := "isFull", desc := "()Z" } : MethodName)) ∈ tbl := tbl_mem (i := 467) (by decide +kernel) rfl
theorem wd_468 : (Cond.code ({ cls := "HoldMaps$Table", name := "isFull", desc := "()Z" } : MethodName) prog_9_method_12_code 1 (some FieldType.boolean)) ∈ tbl := tbl_mem (i := 468) (by decide +kernel) rfl
theorem wd_469 : (Cond.stringRef "HoldMaps" 114 "the map is full") ∈ lw_tbl := lw_mem (i := 469) (by decide +kernel)
theorem wd_470 : (Cond.methodLink "HoldMaps" 116 ({ cls := "HoldMaps$Table", name := "tick", desc := "()V" } : MethodName)) ∈ tbl := tbl_mem (i := 470) (by decide +kernel) rfl
theorem wd_471 : (Cond.instanceMethod ({ cls := "HoldMaps$Table", name := "tick", desc := "()V" } : MethodName)) ∈ tbl := tbl_mem (i := 471) (by decide +kernel) rfl
theorem wd_472 : (Cond.sameMethod "HoldMaps$Table" "HoldMaps$Table" "tick" "()V") ∈ tbl := tbl_mem (i := 472) (by decide +kernel) rfl
theorem wd_473 : (Cond.selects "HoldMaps$IdentityMap" ({ cls := "HoldMaps$Table", name := "tick", desc := "()V" } : MethodName) ({ cls := "HoldMaps$Table", name := "tick", desc := "()V" } : MethodName)) ∈ tbl := tbl_mem (i := 473) (by decide +kernel) rfl
theorem wd_474 : (Cond.selects "HoldMaps$LatestMap" ({ cls := "HoldMaps$Table", name := "tick", desc := "()V" } : MethodName) ({ cls := "HoldMaps$Table", name := "tick", desc := "()V" } : MethodName)) ∈ tbl := tbl_mem (i := 474) (by decide +kernel) rfl
theorem wd_475 : (Cond.selects "HoldMaps$PlacesMap" ({ cls := "HoldMaps$Table", name := "tick", desc := "()V" } : MethodName) ({ cls := "HoldMaps$Table", name := "tick", desc := "()V" } : MethodName)) ∈ tbl := tbl_mem (i := 475) (by decide +kernel) rfl
theorem wd_476 : (Cond.selects "HoldMaps$SoftMap" ({ cls := "HoldMaps$Table", name := "tick", desc := "()V" } : MethodName) ({ cls := "HoldMaps$SoftMap", name := "tick", desc := "()V" } : MethodName)) ∈ tbl := tbl_mem (i := 476) (by decide +kernel) rfl
theorem wd_477 : (Cond.instanceMethod ({ cls := "HoldMaps$SoftMap", name := "tick", desc := "()V" } : MethodName)) ∈ tbl := tbl_mem (i := 477) (by decide +kernel) rfl
theorem wd_478 : (Cond.code ({ cls := "HoldMaps$SoftMap", name := "tick", desc := "()V" } : MethodName) prog_8_method_3_code 1 none) ∈ tbl := tbl_mem (i := 478) (by decide +kernel) rfl
theorem wd_479 : (Cond.selects "HoldMaps$WeakMap" ({ cls := "HoldMaps$Table", name := "tick", desc := "()V" } : MethodName) ({ cls := "HoldMaps$Table", name := "tick", desc := "()V" } : MethodName)) ∈ tbl := tbl_mem (i := 479) (by decide +kernel) rfl
theorem wd_480 : (Cond.code ({ cls := "HoldMaps$Table", name := "tick", desc := "()V" } : MethodName) prog_9_method_13_code 1 none) ∈ tbl := tbl_mem (i := 480) (by decide +kernel) rfl
theorem wd_481 : (Cond.classLink "HoldMaps" 119 "HoldMaps$Entry") ∈ tbl := tbl_mem (i := 481) (by decide +kernel) rfl
theorem wd_482 : (Cond.instantiable "HoldMaps$Entry" 4) ∈ tbl := tbl_mem (i := 482) (by decide +kernel) rfl
theorem wd_483 : (Cond.methodLink "HoldMaps" 121 ({ cls := "HoldMaps$Table", name := "keyOf", desc := "(II)I" } : MethodName)) ∈ tbl := tbl_mem (i := 483) (by decide +kernel) rfl
theorem wd_484 : (Cond.instanceMethod ({ cls := "HoldMaps$Table", name := "keyOf", desc := "(II)I" } : MethodName)) ∈ tbl := tbl_mem (i := 484) (by decide +kernel) rfl
theorem wd_485 : (Cond.sameMethod "HoldMaps$Table" "HoldMaps$Table" "keyOf" "(II)I") ∈ tbl := tbl_mem (i := 485) (by decide +kernel) rfl
theorem wd_486 : (Cond.selects "HoldMaps$IdentityMap" ({ cls := "HoldMaps$Table", name := "keyOf", desc := "(II)I" } : MethodName) ({ cls := "HoldMaps$Table", name := "keyOf", desc := "(II)I" } : MethodName)) ∈ tbl := tbl_mem (i := 486) (by decide +kernel) rfl
theorem wd_487 : (Cond.selects "HoldMaps$LatestMap" ({ cls := "HoldMaps$Table", name := "keyOf", desc := "(II)I" } : MethodName) ({ cls := "HoldMaps$Table", name := "keyOf", desc := "(II)I" } : MethodName)) ∈ tbl := tbl_mem (i := 487) (by decide +kernel) rfl
theorem wd_488 : (Cond.selects "HoldMaps$PlacesMap" ({ cls := "HoldMaps$Table", name := "keyOf", desc := "(II)I" } : MethodName) ({ cls := "HoldMaps$PlacesMap", name := "keyOf", desc := "(II)I" } : MethodName)) ∈ tbl := tbl_mem (i := 488) (by decide +kernel) rfl
theorem wd_489 : (Cond.instanceMethod ({ cls := "HoldMaps$PlacesMap", name := "keyOf", desc := "(II)I" } : MethodName)) ∈ tbl := tbl_mem (i := 489) (by decide +kernel) rfl
theorem wd_490 : (Cond.code ({ cls := "HoldMaps$PlacesMap", name := "keyOf", desc := "(II)I" } : MethodName) prog_6_method_3_code 3 (some FieldType.int)) ∈ tbl := tbl_mem (i := 490) (by decide +kernel) rfl
theorem wd_491 : (Cond.selects "HoldMaps$SoftMap" ({ cls := "HoldMaps$Table", name := "keyOf", desc := "(II)I" } : MethodName) ({ cls := "HoldMaps$Table", name := "keyOf", desc := "(II)I" } : MethodName)) ∈ tbl := tbl_mem (i := 491) (by decide +kernel) rfl
theorem wd_492 : (Cond.selects "HoldMaps$WeakMap" ({ cls := "HoldMaps$Table", name := "keyOf", desc := "(II)I" } : MethodName) ({ cls := "HoldMaps$Table", name := "keyOf", desc := "(II)I" } : MethodName)) ∈ tbl := tbl_mem (i := 492) (by decide +kernel) rfl
theorem wd_493 : (Cond.code ({ cls := "HoldMaps$Table", name := "keyOf", desc := "(II)I" } : MethodName) prog_9_method_10_code 3 (some FieldType.int)) ∈ tbl := tbl_mem (i := 493) (by decide +kernel) rfl
theorem wd_494 : (Cond.methodLink "HoldMaps" 124 ({ cls := "HoldMaps$Entry", name := "<init>", desc := "(III)V" } : MethodName)) ∈ tbl := tbl_mem (i := 494) (by decide +kernel) rfl
theorem wd_495 : (Cond.instanceMethod ({ cls := "HoldMaps$Entry", name := "<init>", desc := "(III)V" } : MethodName)) ∈ tbl := tbl_mem (i := 495) (by decide +kernel) rfl
theorem wd_496 : (Cond.code ({ cls := "HoldMaps$Entry", name := "<init>", desc := "(III)V" } : MethodName) prog_2_method_1_code 4 none) ∈ tbl := tbl_mem (i := 496) (by decide +kernel) rfl
theorem wd_497 : (Cond.methodLink "HoldMaps$Entry" 1 ({ cls := "java/lang/Object", name := "<init>", desc := "()V" } : MethodName)) ∈ tbl := tbl_mem (i := 497) (by decide +kernel) rfl
theorem wd_498 : (Cond.fieldLink "HoldMaps$Entry" 7 "HoldMaps$Entry" "key" "I") ∈ tbl := tbl_mem (i := 498) (by decide +kernel) rfl
theorem wd_499 : (Cond.fieldLink "HoldMaps$PlacesMap" 27 "HoldMaps$Entry" "key" "I") ∈ tbl := tbl_mem (i := 499) (by decide +kernel) rfl
theorem wd_500 : (Cond.fieldLink "HoldMaps$Table" 15 "HoldMaps$Entry" "key" "I") ∈ tbl := tbl_mem (i := 500) (by decide +kernel) rfl
theorem wd_501 : (Cond.fieldLink "HoldMaps$IdentityMap" 37 "HoldMaps$Entry" "key" "I") ∈ tbl := tbl_mem (i := 501) (by decide +kernel) rfl
theorem wd_502 : (Cond.fieldLink "HoldMaps$Entry" 13 "HoldMaps$Entry" "mark" "I") ∈ tbl := tbl_mem (i := 502) (by decide +kernel) rfl
theorem wd_503 : (Cond.fieldLink "HoldMaps$WeakMap" 54 "HoldMaps$Entry" "mark" "I") ∈ tbl := tbl_mem (i := 503) (by decide +kernel) rfl
theorem wd_504 : (Cond.fieldLink "HoldMaps$Table" 28 "HoldMaps$Entry" "mark" "I") ∈ tbl := tbl_mem (i := 504) (by decide +kernel) rfl
theorem wd_505 : (Cond.fieldLink "HoldMaps$Entry" 16 "HoldMaps$Entry" "value" "I") ∈ tbl := tbl_mem (i := 505) (by decide +kernel) rfl
theorem wd_506 : (Cond.fieldLink "HoldMaps" 131 "HoldMaps$Entry" "value" "I") ∈ tbl := tbl_mem (i := 506) (by decide +kernel) rfl
theorem wd_507 : (Cond.fieldLink "HoldMaps$Table" 21 "HoldMaps$Entry" "value" "I") ∈ tbl := tbl_mem (i := 507) (by decide +kernel) rfl
theorem wd_508 : (Cond.fieldLink "HoldMaps$SoftMap" 15 "HoldMaps$Entry" "use" "I") ∈ tbl := tbl_mem (i := 508) (by decide +kernel) rfl
theorem wd_509 : (Cond.fieldLink "HoldMaps" 223 "HoldMaps$Entry" "use" "I") ∈ tbl := tbl_mem (i := 509) (by decide +kernel) rfl
theorem wd_510 : (Cond.laysFinal "HoldMaps$Entry" "HoldMaps$Entry" "key" "I") ∈ tbl := tbl_mem (i := 510) (by decide +kernel) rfl
theorem wd_511 : (Cond.soleField "HoldMaps$Entry" "key") ∈ tbl := tbl_mem (i := 511) (by decide +kernel) rfl
theorem wd_512 : (Cond.laysFinal "HoldMaps$Entry" "HoldMaps$Entry" "mark" "I") ∈ tbl := tbl_mem (i := 512) (by decide +kernel) rfl
theorem wd_513 : (Cond.soleField "HoldMaps$Entry" "mark") ∈ tbl := tbl_mem (i := 513) (by decide +kernel) rfl
theorem wd_514 : (Cond.lays "HoldMaps$Entry" "HoldMaps$Entry" "value" "I") ∈ tbl := tbl_mem (i := 514) (by decide +kernel) rfl
theorem wd_515 : (Cond.soleField "HoldMaps$Entry" "value") ∈ tbl := tbl_mem (i := 515) (by decide +kernel) rfl
theorem wd_516 : (Cond.lays "HoldMaps$Entry" "HoldMaps$Entry" "use" "I") ∈ tbl := tbl_mem (i := 516) (by decide +kernel) rfl
theorem wd_517 : (Cond.soleField "HoldMaps$Entry" "use") ∈ tbl := tbl_mem (i := 517) (by decide +kernel) rfl
theorem wd_518 : (Cond.superclass "HoldMaps$Entry" "java/lang/Object") ∈ tbl := tbl_mem (i := 518) (by decide +kernel) rfl
theorem wd_519 : (Cond.methodLink "HoldMaps" 127 ({ cls := "HoldMaps$Table", name := "add", desc := "(LHoldMaps$Entry;)V" } : MethodName)) ∈ tbl := tbl_mem (i := 519) (by decide +kernel) rfl
theorem wd_520 : (Cond.declares ({ cls := "HoldMaps$Table", name := "add", desc := "(LHoldMaps$Entry;)V" } : MethodName)) ∈ tbl := tbl_mem (i := 520) (by decide +kernel) rfl
theorem wd_521 : (Cond.sameMethod "HoldMaps$Table" "HoldMaps$Table" "add" "(LHoldMaps$Entry;)V") ∈ tbl := tbl_mem (i := 521) (by decide +kernel) rfl
theorem wd_522 : (Cond.selects "HoldMaps$IdentityMap" ({ cls := "HoldMaps$Table", name := "add", desc := "(LHoldMaps$Entry;)V" } : MethodName) ({ cls := "HoldMaps$IdentityMap", name := "add", desc := "(LHoldMaps$Entry;)V" } : MethodName)) ∈ tbl := tbl_mem (i := 522) (by decide +kernel) rfl
theorem wd_523 : (Cond.instanceMethod ({ cls := "HoldMaps$IdentityMap", name := "add", desc := "(LHoldMaps$Entry;)V" } : MethodName)) ∈ tbl := tbl_mem (i := 523) (by decide +kernel) rfl
theorem wd_524 : (Cond.code ({ cls := "HoldMaps$IdentityMap", name := "add", desc := "(LHoldMaps$Entry;)V" } : MethodName) prog_4_method_4_code 5 none) ∈ tbl := tbl_mem (i := 524) (by decide +kernel) rfl
theorem wd_525 : (Cond.methodLink "HoldMaps$IdentityMap" 25 ({ cls := "HoldMaps$IdentityMap", name := "firstSlot", desc := "(LHoldMaps$Entry;)I" } : MethodName)) ∈ tbl := tbl_mem (i := 525) (by decide +kernel) rfl
theorem wd_526 : (Cond.static ({ cls := "HoldMaps$IdentityMap", name := "firstSlot", desc := "(LHoldMaps$Entry;)I" } : MethodName)) ∈ tbl := tbl_mem (i := 526) (by decide +kernel) rfl
theorem wd_527 : (Cond.code ({ cls := "HoldMaps$IdentityMap", name := "firstSlot", desc := "(LHoldMaps$Entry;)I" } : MethodName) prog_4_method_9_code 1 (some FieldType.int)) ∈ tbl := tbl_mem (i := 527) (by decide +kernel) rfl
theorem wd_528 : (Cond.selects "HoldMaps$LatestMap" ({ cls := "HoldMaps$Table", name := "add", desc := "(LHoldMaps$Entry;)V" } : MethodName) ({ cls := "HoldMaps$LatestMap", name := "add", desc := "(LHoldMaps$Entry;)V" } : MethodName)) ∈ tbl := tbl_mem (i := 528) (by decide +kernel) rfl
theorem wd_529 : (Cond.instanceMethod ({ cls := "HoldMaps$LatestMap", name := "add", desc := "(LHoldMaps$Entry;)V" } : MethodName)) ∈ tbl := tbl_mem (i := 529) (by decide +kernel) rfl
theorem wd_530 : (Cond.code ({ cls := "HoldMaps$LatestMap", name := "add", desc := "(LHoldMaps$Entry;)V" } : MethodName) prog_5_method_2_code 2 none) ∈ tbl := tbl_mem (i := 530) (by decide +kernel) rfl
theorem wd_531 : (Cond.methodLink "HoldMaps$LatestMap" 9 ({ cls := "HoldMaps$LatestMap", name := "append", desc := "(LHoldMaps$Entry;)V" } : MethodName)) ∈ tbl := tbl_mem (i := 531) (by decide +kernel) rfl
theorem wd_532 : (Cond.sameMethod "HoldMaps$LatestMap" "HoldMaps$Row" "append" "(LHoldMaps$Entry;)V") ∈ tbl := tbl_mem (i := 532) (by decide +kernel) rfl
theorem wd_533 : (Cond.declares ({ cls := "HoldMaps$Row", name := "append", desc := "(LHoldMaps$Entry;)V" } : MethodName)) ∈ tbl := tbl_mem (i := 533) (by decide +kernel) rfl
theorem wd_534 : (Cond.selects "HoldMaps$LatestMap" ({ cls := "HoldMaps$LatestMap", name := "append", desc := "(LHoldMaps$Entry;)V" } : MethodName) ({ cls := "HoldMaps$Row", name := "append", desc := "(LHoldMaps$Entry;)V" } : MethodName)) ∈ tbl := tbl_mem (i := 534) (by decide +kernel) rfl
theorem wd_535 : (Cond.instanceMethod ({ cls := "HoldMaps$Row", name := "append", desc := "(LHoldMaps$Entry;)V" } : MethodName)) ∈ tbl := tbl_mem (i := 535) (by decide +kernel) rfl
theorem wd_536 : (Cond.code ({ cls := "HoldMaps$Row", name := "append", desc := "(LHoldMaps$Entry;)V" } : MethodName) prog_7_method_5_code 2 none) ∈ tbl := tbl_mem (i := 536) (by decide +kernel) rfl
theorem wd_537 : (Cond.methodLink "HoldMaps$Row" 33 ({ cls := "java/util/ArrayList", name := "add", desc := "(Ljava/lang/Object;)Z" } : MethodName)) ∈ tbl := tbl_mem (i := 537) (by decide +kernel) rfl
theorem wd_538 : (Cond.instanceMethod ({ cls := "java/util/ArrayList", name := "add", desc := "(Ljava/lang/Object;)Z" } : MethodName)) ∈ tbl := tbl_mem (i := 538) (by decide +kernel) rfl
theorem wd_539 : (Cond.selects "java/util/ArrayList" ({ cls := "java/util/ArrayList", name := "add", desc := "(Ljava/lang/Object;)Z" } : MethodName) ({ cls := "java/util/ArrayList", name := "add", desc := "(Ljava/lang/Object;)Z" } : MethodName)) ∈ tbl := tbl_mem (i := 539) (by decide +kernel) rfl
theorem wd_540 : (Cond.code ({ cls := "java/util/ArrayList", name := "add", desc := "(Ljava/lang/Object;)Z" } : MethodName) prog_27_method_25_code 2 (some FieldType.boolean)) ∈ tbl := tbl_mem (i := 540) (by decide +kernel) rfl
theorem wd_541 : (Cond.methodLink "java/util/ArrayList" 131 ({ cls := "java/util/ArrayList", name := "add", desc := "(Ljava/lang/Object;[Ljava/lang/Object;I)V" } : MethodName)) ∈ tbl := tbl_mem (i := 541) (by decide +kernel) rfl
theorem wd_542 : (Cond.privateMethod ({ cls := "java/util/ArrayList", name := "add", desc := "(Ljava/lang/Object;[Ljava/lang/Object;I)V" } : MethodName)) ∈ tbl := tbl_mem (i := 542) (by decide +kernel) rfl
theorem wd_543 : (Cond.instanceMethod ({ cls := "java/util/ArrayList", name := "add", desc := "(Ljava/lang/Object;[Ljava/lang/Object;I)V" } : MethodName)) ∈ tbl := tbl_mem (i := 543) (by decide +kernel) rfl
theorem wd_544 : (Cond.code ({ cls := "java/util/ArrayList", name := "add", desc := "(Ljava/lang/Object;[Ljava/lang/Object;I)V" } : MethodName) prog_27_method_24_code 4 none) ∈ tbl := tbl_mem (i := 544) (by decide +kernel) rfl
theorem wd_545 : (Cond.methodLink "java/util/ArrayList" 129 ({ cls := "java/util/ArrayList", name := "grow", desc := "()[Ljava/lang/Object;" } : MethodName)) ∈ tbl := tbl_mem (i := 545) (by decide +kernel) rfl
theorem wd_546 : (Cond.privateMethod ({ cls := "java/util/ArrayList", name := "grow", desc := "()[Ljava/lang/Object;" } : MethodName)) ∈ tbl := tbl_mem (i := 546) (by decide +kernel) rfl
theorem wd_547 : (Cond.instanceMethod ({ cls := "java/util/ArrayList", name := "grow", desc := "()[Ljava/lang/Object;" } : MethodName)) ∈ tbl := tbl_mem (i := 547) (by decide +kernel) rfl
theorem wd_548 : (Cond.code ({ cls := "java/util/ArrayList", name := "grow", desc := "()[Ljava/lang/Object;" } : MethodName) prog_27_method_7_code 1 (some (FieldType.array (FieldType.object "java/lang/Object")))) ∈ tbl := tbl_mem (i := 548) (by decide +kernel) rfl
theorem wd_549 : (Cond.methodLink "java/util/ArrayList" 69 ({ cls := "java/util/ArrayList", name := "grow", desc := "(I)[Ljava/lang/Object;" } : MethodName)) ∈ tbl := tbl_mem (i := 549) (by decide +kernel) rfl
theorem wd_550 : (Cond.privateMethod ({ cls := "java/util/ArrayList", name := "grow", desc := "(I)[Ljava/lang/Object;" } : MethodName)) ∈ tbl := tbl_mem (i := 550) (by decide +kernel) rfl
theorem wd_551 : (Cond.instanceMethod ({ cls := "java/util/ArrayList", name := "grow", desc := "(I)[Ljava/lang/Object;" } : MethodName)) ∈ tbl := tbl_mem (i := 551) (by decide +kernel) rfl
theorem wd_552 : (Cond.code ({ cls := "java/util/ArrayList", name := "grow", desc := "(I)[Ljava/lang/Object;" } : MethodName) prog_27_method_6_code 4 (some (FieldType.array (FieldType.object "java/lang/Object")))) ∈ tbl := tbl_mem (i := 552) (by decide +kernel) rfl
theorem wd_553 : (Cond.methodLink "java/util/ArrayList" 73 ({ cls := "jdk/internal/util/ArraysSupport", name := "newLength", desc := "(III)I" } : MethodName)) ∈ tbl := tbl_mem (i := 553) (by decide +kernel) rfl
theorem wd_554 : (Cond.static ({ cls := "jdk/internal/util/ArraysSupport", name := "newLength", desc := "(III)I" } : MethodName)) ∈ tbl := tbl_mem (i := 554) (by decide +kernel) rfl
theorem wd_555 : (Cond.code ({ cls := "jdk/internal/util/ArraysSupport", name := "newLength", desc := "(III)I" } : MethodName) prog_35_method_27_code 4 (some FieldType.int)) ∈ tbl := tbl_mem (i := 555) (by decide +kernel) rfl
theorem wd_556 : (Cond.methodLink "jdk/internal/util/ArraysSupport" 194 ({ cls := "java/lang/Math", name := "max", desc := "(II)I" } : MethodName)) ∈ tbl := tbl_mem (i := 556) (by decide +kernel) rfl
theorem wd_557 : (Cond.static ({ cls := "java/lang/Math", name := "max", desc := "(II)I" } : MethodName)) ∈ tbl := tbl_mem (i := 557) (by decide +kernel) rfl
theorem wd_558 : (Cond.code ({ cls := "java/lang/Math", name := "max", desc := "(II)I" } : MethodName) prog_20_method_65_code 2 (some FieldType.int)) ∈ tbl := tbl_mem (i := 558) (by decide +kernel) rfl
theorem wd_559 : (Cond.constant "jdk/internal/util/ArraysSupport" 200 (2147483639 : Int32)) ∈ tbl := tbl_mem (i := 559) (by decide +kernel) rfl
theorem wd_560 : (Cond.methodLink "jdk/internal/util/ArraysSupport" 201 ({ cls := "jdk/internal/util/ArraysSupport", name := "hugeLength", desc := "(II)I" } : MethodName)) ∈ tbl := tbl_mem (i := 560) (by decide +kernel) rfl
theorem wd_561 : (Cond.static ({ cls := "jdk/internal/util/ArraysSupport", name := "hugeLength", desc := "(II)I" } : MethodName)) ∈ tbl := tbl_mem (i := 561) (by decide +kernel) rfl
theorem wd_562 : (Cond.code ({ cls := "jdk/internal/util/ArraysSupport", name := "hugeLength", desc := "(II)I" } : MethodName) prog_35_method_28_code 3 (some FieldType.int)) ∈ tbl := tbl_mem (i := 562) (by decide +kernel) rfl
theorem wd_563 : (Cond.methodLink "java/util/ArrayList" 66 ({ cls := "java/util/Arrays", name := "copyOf", desc := "([Ljava/lang/Object;I)[Ljava/lang/Object;" } : MethodName)) ∈ tbl := tbl_mem (i := 563) (by decide +kernel) rfl
theorem wd_564 : (Cond.static ({ cls := "java/util/Arrays", name := "copyOf", desc := "([Ljava/lang/Object;I)[Ljava/lang/Object;" } : MethodName)) ∈ tbl := tbl_mem (i := 564) (by decide +kernel) rfl
theorem wd_565 : (Cond.code ({ cls := "java/util/Arrays", name := "copyOf", desc := "([Ljava/lang/Object;I)[Ljava/lang/Object;" } : MethodName) prog_28_method_119_code 2 (some (FieldType.array (FieldType.object "java/lang/Object")))) ∈ tbl := tbl_mem (i := 565) (by decide +kernel) rfl
theorem wd_566 : (Cond.methodLink "java/util/Arrays" 86 ({ cls := "java/lang/Object", name := "getClass", desc := "()Ljava/lang/Class;" } : MethodName)) ∈ tbl := tbl_mem (i := 566) (by decide +kernel) rfl
theorem wd_567 : (Cond.instanceMethod ({ cls := "java/lang/Object", name := "getClass", desc := "()Ljava/lang/Class;" } : MethodName)) ∈ tbl := tbl_mem (i := 567) (by decide +kernel) rfl
theorem wd_568 : (Cond.sameMethod "java/lang/Object" "java/lang/Object" "getClass" "()Ljava/lang/Class;") ∈ tbl := tbl_mem (i := 568) (by decide +kernel) rfl
theorem wd_569 : (Cond.selects "HoldMaps" ({ cls := "java/lang/Object", name := "getClass", desc := "()Ljava/lang/Class;" } : MethodName) ({ cls := "java/lang/Object", name := "getClass", desc := "()Ljava/lang/Class;" } : MethodName)) ∈ tbl := tbl_mem (i := 569) (by decide +kernel) rfl
theorem wd_570 : (Cond.selects "HoldMaps$Entry" ({ cls := "java/lang/Object", name := "getClass", desc := "()Ljava/lang/Class;" } : MethodName) ({ cls := "java/lang/Object", name := "getClass", desc := "()Ljava/lang/Class;" } : MethodName)) ∈ tbl := tbl_mem (i := 570) (by decide +kernel) rfl
theorem wd_571 : (Cond.selects "HoldMaps$Heap" ({ cls := "java/lang/Object", name := "getClass", desc := "()Ljava/lang/Class;" } : MethodName) ({ cls := "java/lang/Object", name := "getClass", desc := "()Ljava/lang/Class;" } : MethodName)) ∈ tbl := tbl_mem (i := 571) (by decide +kernel) rfl
theorem wd_572 : (Cond.selects "HoldMaps$IdentityMap" ({ cls := "java/lang/Object", name := "getClass", desc := "()Ljava/lang/Class;" } : MethodName) ({ cls := "java/lang/Object", name := "getClass", desc := "()Ljava/lang/Class;" } : MethodName)) ∈ tbl := tbl_mem (i := 572) (by decide +kernel) rfl
theorem wd_573 : (Cond.selects "HoldMaps$LatestMap" ({ cls := "java/lang/Object", name := "getClass", desc := "()Ljava/lang/Class;" } : MethodName) ({ cls := "java/lang/Object", name := "getClass", desc := "()Ljava/lang/Class;" } : MethodName)) ∈ tbl := tbl_mem (i := 573) (by decide +kernel) rfl
theorem wd_574 : (Cond.selects "HoldMaps$PlacesMap" ({ cls := "java/lang/Object", name := "getClass", desc := "()Ljava/lang/Class;" } : MethodName) ({ cls := "java/lang/Object", name := "getClass", desc := "()Ljava/lang/Class;" } : MethodName)) ∈ tbl := tbl_mem (i := 574) (by decide +kernel) rfl
theorem wd_575 : (Cond.selects "HoldMaps$SoftMap" ({ cls := "java/lang/Object", name := "getClass", desc := "()Ljava/lang/Class;" } : MethodName) ({ cls := "java/lang/Object", name := "getClass", desc := "()Ljava/lang/Class;" } : MethodName)) ∈ tbl := tbl_mem (i := 575) (by decide +kernel) rfl
theorem wd_576 : (Cond.selects "HoldMaps$Thing" ({ cls := "java/lang/Object", name := "getClass", desc := "()Ljava/lang/Class;" } : MethodName) ({ cls := "java/lang/Object", name := "getClass", desc := "()Ljava/lang/Class;" } : MethodName)) ∈ tbl := tbl_mem (i := 576) (by decide +kernel) rfl
theorem wd_577 : (Cond.selects "HoldMaps$WeakMap" ({ cls := "java/lang/Object", name := "getClass", desc := "()Ljava/lang/Class;" } : MethodName) ({ cls := "java/lang/Object", name := "getClass", desc := "()Ljava/lang/Class;" } : MethodName)) ∈ tbl := tbl_mem (i := 577) (by decide +kernel) rfl
theorem wd_578 : (Cond.selects "HoldMapsModel" ({ cls := "java/lang/Object", name := "getClass", desc := "()Ljava/lang/Class;" } : MethodName) ({ cls := "java/lang/Object", name := "getClass", desc := "()Ljava/lang/Class;" } : MethodName)) ∈ tbl := tbl_mem (i := 578) (by decide +kernel) rfl
theorem wd_579 : (Cond.selects "java/lang/IllegalArgumentException" ({ cls := "java/lang/Object", name := "getClass", desc := "()Ljava/lang/Class;" } : MethodName) ({ cls := "java/lang/Object", name := "getClass", desc := "()Ljava/lang/Class;" } : MethodName)) ∈ tbl := tbl_mem (i := 579) (by decide +kernel) rfl
theorem wd_580 : (Cond.selects "java/lang/IllegalStateException" ({ cls := "java/lang/Object", name := "getClass", desc := "()Ljava/lang/Class;" } : MethodName) ({ cls := "java/lang/Object", name := "getClass", desc := "()Ljava/lang/Class;" } : MethodName)) ∈ tbl := tbl_mem (i := 580) (by decide +kernel) rfl
theorem wd_581 : (Cond.selects "java/util/ArrayList" ({ cls := "java/lang/Object", name := "getClass", desc := "()Ljava/lang/Class;" } : MethodName) ({ cls := "java/lang/Object", name := "getClass", desc := "()Ljava/lang/Class;" } : MethodName)) ∈ tbl := tbl_mem (i := 581) (by decide +kernel) rfl
theorem wd_582 : (Cond.selects "java/util/NoSuchElementException" ({ cls := "java/lang/Object", name := "getClass", desc := "()Ljava/lang/Class;" } : MethodName) ({ cls := "java/lang/Object", name := "getClass", desc := "()Ljava/lang/Class;" } : MethodName)) ∈ tbl := tbl_mem (i := 582) (by decide +kernel) rfl
theorem wd_583 : (Cond.native ({ cls := "java/lang/Object", name := "getClass", desc := "()Ljava/lang/Class;" } : MethodName)) ∈ tbl := tbl_mem (i := 583) (by decide +kernel) rfl
theorem wd_584 : (Cond.methodLink "java/util/Arrays" 300 ({ cls := "java/util/Arrays", name := "copyOf", desc := "([Ljava/lang/Object;ILjava/lang/Class;)[Ljava/lang/Object;" } : MethodName)) ∈ tbl := tbl_mem (i := 584) (by decide +kernel) rfl
theorem wd_585 : (Cond.static ({ cls := "java/util/Arrays", name := "copyOf", desc := "([Ljava/lang/Object;ILjava/lang/Class;)[Ljava/lang/Object;" } : MethodName)) ∈ tbl := tbl_mem (i := 585) (by decide +kernel) rfl
theorem wd_586 : (Cond.code ({ cls := "java/util/Arrays", name := "copyOf", desc := "([Ljava/lang/Object;ILjava/lang/Class;)[Ljava/lang/Object;" } : MethodName) prog_28_method_120_code 4 (some (FieldType.array (FieldType.object "java/lang/Object")))) ∈ tbl := tbl_mem (i := 586) (by decide +kernel) rfl
theorem wd_587 : (Cond.classLink "java/util/Arrays" 110 "[Ljava/lang/Object;") ∈ tbl := tbl_mem (i := 587) (by decide +kernel) rfl
theorem wd_588 : (Cond.arrayOver (FieldType.object "java/lang/Object")) ∈ tbl := tbl_mem (i := 588) (by decide +kernel) rfl
theorem wd_589 : (Cond.classLink "java/util/Arrays" 2 "java/lang/Object") ∈ tbl := tbl_mem (i := 589) (by decide +kernel) rfl
theorem wd_590 : (Cond.methodLink "java/util/Arrays" 304 ({ cls := "java/lang/Math", name := "min", desc := "(II)I" } : MethodName)) ∈ tbl := tbl_mem (i := 590) (by decide +kernel) rfl
theorem wd_591 : (Cond.static ({ cls := "java/lang/Math", name := "min", desc := "(II)I" } : MethodName)) ∈ tbl := tbl_mem (i := 591) (by decide +kernel) rfl
theorem wd_592 : (Cond.code ({ cls := "java/lang/Math", name := "min", desc := "(II)I" } : MethodName) prog_20_method_69_code 2 (some FieldType.int)) ∈ tbl := tbl_mem (i := 592) (by decide +kernel) rfl
theorem wd_593 : (Cond.methodLink "java/util/Arrays" 150 ({ cls := "java/lang/System", name := "arraycopy", desc := "(Ljava/lang/Object;ILjava/lang/Object;II)V" } : MethodName)) ∈ tbl := tbl_mem (i := 593) (by decide +kernel) rfl
theorem wd_594 : (Cond.static ({ cls := "java/lang/System", name := "arraycopy", desc := "(Ljava/lang/Object;ILjava/lang/Object;II)V" } : MethodName)) ∈ tbl := tbl_mem (i := 594) (by decide +kernel) rfl
theorem wd_595 : (Cond.native ({ cls := "java/lang/System", name := "arraycopy", desc := "(Ljava/lang/Object;ILjava/lang/Object;II)V" } : MethodName)) ∈ tbl := tbl_mem (i := 595) (by decide +kernel) rfl
theorem wd_596 : (Cond.methodLink "java/util/ArrayList" 79 ({ cls := "java/lang/Math", name := "max", desc := "(II)I" } : MethodName)) ∈ tbl := tbl_mem (i := 596) (by decide +kernel) rfl
theorem wd_597 : (Cond.classLink "java/util/ArrayList" 7 "java/lang/Object") ∈ tbl := tbl_mem (i := 597) (by decide +kernel) rfl
theorem wd_598 : (Cond.methodLink "HoldMaps$LatestMap" 19 ({ cls := "java/util/ArrayList", name := "size", desc := "()I" } : MethodName)) ∈ tbl := tbl_mem (i := 598) (by decide +kernel) rfl
theorem wd_599 : (Cond.methodLink "HoldMaps$LatestMap" 25 ({ cls := "HoldMaps$LatestMap", name := "dropAt", desc := "(I)V" } : MethodName)) ∈ tbl := tbl_mem (i := 599) (by decide +kernel) rfl
theorem wd_600 : (Cond.sameMethod "HoldMaps$LatestMap" "HoldMaps$Row" "dropAt" "(I)V") ∈ tbl := tbl_mem (i := 600) (by decide +kernel) rfl
theorem wd_601 : (Cond.declares ({ cls := "HoldMaps$Row", name := "dropAt", desc := "(I)V" } : MethodName)) ∈ tbl := tbl_mem (i := 601) (by decide +kernel) rfl
theorem wd_602 : (Cond.selects "HoldMaps$LatestMap" ({ cls := "HoldMaps$LatestMap", name := "dropAt", desc := "(I)V" } : MethodName) ({ cls := "HoldMaps$Row", name := "dropAt", desc := "(I)V" } : MethodName)) ∈ tbl := tbl_mem (i := 602) (by decide +kernel) rfl
theorem wd_603 : (Cond.instanceMethod ({ cls := "HoldMaps$Row", name := "dropAt", desc := "(I)V" } : MethodName)) ∈ tbl := tbl_mem (i := 603) (by decide +kernel) rfl
theorem wd_604 : (Cond.code ({ cls := "HoldMaps$Row", name := "dropAt", desc := "(I)V" } : MethodName) prog_7_method_4_code 2 none) ∈ tbl := tbl_mem (i := 604) (by decide +kernel) rfl
theorem wd_605 : (Cond.methodLink "HoldMaps$Row" 26 ({ cls := "java/util/ArrayList", name := "remove", desc := "(I)Ljava/lang/Object;" } : MethodName)) ∈ tbl := tbl_mem (i := 605) (by decide +kernel) rfl
theorem wd_606 : (Cond.instanceMethod ({ cls := "java/util/ArrayList", name := "remove", desc := "(I)Ljava/lang/Object;" } : MethodName)) ∈ tbl := tbl_mem (i := 606) (by decide +kernel) rfl
theorem wd_607 : (Cond.selects "java/util/ArrayList" ({ cls := "java/util/ArrayList", name := "remove", desc := "(I)Ljava/lang/Object;" } : MethodName) ({ cls := "java/util/ArrayList", name := "remove", desc := "(I)Ljava/lang/Object;" } : MethodName)) ∈ tbl := tbl_mem (i := 607) (by decide +kernel) rfl
theorem wd_608 : (Cond.code ({ cls := "java/util/ArrayList", name := "remove", desc := "(I)Ljava/lang/Object;" } : MethodName) prog_27_method_29_code 4 (some (FieldType.object "java/lang/Object"))) ∈ tbl := tbl_mem (i := 608) (by decide +kernel) rfl
theorem wd_609 : (Cond.methodLink "java/util/ArrayList" 144 ({ cls := "java/util/ArrayList", name := "fastRemove", desc := "([Ljava/lang/Object;I)V" } : MethodName)) ∈ tbl := tbl_mem (i := 609) (by decide +kernel) rfl
theorem wd_610 : (Cond.privateMethod ({ cls := "java/util/ArrayList", name := "fastRemove", desc := "([Ljava/lang/Object;I)V" } : MethodName)) ∈ tbl := tbl_mem (i := 610) (by decide +kernel) rfl
theorem wd_611 : (Cond.instanceMethod ({ cls := "java/util/ArrayList", name := "fastRemove", desc := "([Ljava/lang/Object;I)V" } : MethodName)) ∈ tbl := tbl_mem (i := 611) (by decide +kernel) rfl
theorem wd_612 : (Cond.code ({ cls := "java/util/ArrayList", name := "fastRemove", desc := "([Ljava/lang/Object;I)V" } : MethodName) prog_27_method_39_code 4 none) ∈ tbl := tbl_mem (i := 612) (by decide +kernel) rfl
theorem wd_613 : (Cond.methodLink "java/util/ArrayList" 112 ({ cls := "java/lang/System", name := "arraycopy", desc := "(Ljava/lang/Object;ILjava/lang/Object;II)V" } : MethodName)) ∈ tbl := tbl_mem (i := 613) (by decide +kernel) rfl
theorem wd_614 : (Cond.selects "HoldMaps$PlacesMap" ({ cls := "HoldMaps$Table", name := "add", desc := "(LHoldMaps$Entry;)V" } : MethodName) ({ cls := "HoldMaps$PlacesMap", name := "add", desc := "(LHoldMaps$Entry;)V" } : MethodName)) ∈ tbl := tbl_mem (i := 614) (by decide +kernel) rfl
theorem wd_615 : (Cond.instanceMethod ({ cls := "HoldMaps$PlacesMap", name := "add", desc := "(LHoldMaps$Entry;)V" } : MethodName)) ∈ tbl := tbl_mem (i := 615) (by decide +kernel) rfl
theorem wd_616 : (Cond.code ({ cls := "HoldMaps$PlacesMap", name := "add", desc := "(LHoldMaps$Entry;)V" } : MethodName) prog_6_method_2_code 3 none) ∈ tbl := tbl_mem (i := 616) (by decide +kernel) rfl
theorem wd_617 : (Cond.methodLink "HoldMaps$PlacesMap" 15 ({ cls := "java/util/ArrayList", name := "size", desc := "()I" } : MethodName)) ∈ tbl := tbl_mem (i := 617) (by decide +kernel) rfl
theorem wd_618 : (Cond.methodLink "HoldMaps$PlacesMap" 21 ({ cls := "java/util/ArrayList", name := "get", desc := "(I)Ljava/lang/Object;" } : MethodName)) ∈ tbl := tbl_mem (i := 618) (by decide +kernel) rfl
theorem wd_619 : (Cond.classLink "HoldMaps$PlacesMap" 25 "HoldMaps$Entry") ∈ tbl := tbl_mem (i := 619) (by decide +kernel) rfl
theorem wd_620 : (Cond.methodLink "HoldMaps$PlacesMap" 31 ({ cls := "java/util/ArrayList", name := "add", desc := "(ILjava/lang/Object;)V" } : MethodName)) ∈ tbl := tbl_mem (i := 620) (by decide +kernel) rfl
theorem wd_621 : (Cond.instanceMethod ({ cls := "java/util/ArrayList", name := "add", desc := "(ILjava/lang/Object;)V" } : MethodName)) ∈ tbl := tbl_mem (i := 621) (by decide +kernel) rfl
theorem wd_622 : (Cond.selects "java/util/ArrayList" ({ cls := "java/util/ArrayList", name := "add", desc := "(ILjava/lang/Object;)V" } : MethodName) ({ cls := "java/util/ArrayList", name := "add", desc := "(ILjava/lang/Object;)V" } : MethodName)) ∈ tbl := tbl_mem (i := 622) (by decide +kernel) rfl
theorem wd_623 : (Cond.code ({ cls := "java/util/ArrayList", name := "add", desc := "(ILjava/lang/Object;)V" } : MethodName) prog_27_method_26_code 5 none) ∈ tbl := tbl_mem (i := 623) (by decide +kernel) rfl
theorem wd_624 : (Cond.methodLink "java/util/ArrayList" 135 ({ cls := "java/util/ArrayList", name := "rangeCheckForAdd", desc := "(I)V" } : MethodName)) ∈ tbl := tbl_mem (i := 624) (by decide +kernel) rfl
theorem wd_625 : (Cond.privateMethod ({ cls := "java/util/ArrayList", name := "rangeCheckForAdd", desc := "(I)V" } : MethodName)) ∈ tbl := tbl_mem (i := 625) (by decide +kernel) rfl
theorem wd_626 : (Cond.instanceMethod ({ cls := "java/util/ArrayList", name := "rangeCheckForAdd", desc := "(I)V" } : MethodName)) ∈ tbl := tbl_mem (i := 626) (by decide +kernel) rfl
theorem wd_627 : (Cond.code ({ cls := "java/util/ArrayList", name := "rangeCheckForAdd", desc := "(I)V" } : MethodName) prog_27_method_45_code 2 none) ∈ tbl := tbl_mem (i := 627) (by decide +kernel) rfl
theorem wd_628 : (Cond.selects "HoldMaps$SoftMap" ({ cls := "HoldMaps$Table", name := "add", desc := "(LHoldMaps$Entry;)V" } : MethodName) ({ cls := "HoldMaps$SoftMap", name := "add", desc := "(LHoldMaps$Entry;)V" } : MethodName)) ∈ tbl := tbl_mem (i := 628) (by decide +kernel) rfl
theorem wd_629 : (Cond.instanceMethod ({ cls := "HoldMaps$SoftMap", name := "add", desc := "(LHoldMaps$Entry;)V" } : MethodName)) ∈ tbl := tbl_mem (i := 629) (by decide +kernel) rfl
theorem wd_630 : (Cond.code ({ cls := "HoldMaps$SoftMap", name := "add", desc := "(LHoldMaps$Entry;)V" } : MethodName) prog_8_method_2_code 2 none) ∈ tbl := tbl_mem (i := 630) (by decide +kernel) rfl
theorem wd_631 : (Cond.methodLink "HoldMaps$SoftMap" 20 ({ cls := "HoldMaps$SoftMap", name := "append", desc := "(LHoldMaps$Entry;)V" } : MethodName)) ∈ tbl := tbl_mem (i := 631) (by decide +kernel) rfl
theorem wd_632 : (Cond.sameMethod "HoldMaps$SoftMap" "HoldMaps$Row" "append" "(LHoldMaps$Entry;)V") ∈ tbl := tbl_mem (i := 632) (by decide +kernel) rfl
theorem wd_633 : (Cond.selects "HoldMaps$SoftMap" ({ cls := "HoldMaps$SoftMap", name := "append", desc := "(LHoldMaps$Entry;)V" } : MethodName) ({ cls := "HoldMaps$Row", name := "append", desc := "(LHoldMaps$Entry;)V" } : MethodName)) ∈ tbl := tbl_mem (i := 633) (by decide +kernel) rfl
theorem wd_634 : (Cond.selects "HoldMaps$WeakMap" ({ cls := "HoldMaps$Table", name := "add", desc := "(LHoldMaps$Entry;)V" } : MethodName) ({ cls := "HoldMaps$WeakMap", name := "add", desc := "(LHoldMaps$Entry;)V" } : MethodName)) ∈ tbl := tbl_mem (i := 634) (by decide +kernel) rfl
theorem wd_635 : (Cond.instanceMethod ({ cls := "HoldMaps$WeakMap", name := "add", desc := "(LHoldMaps$Entry;)V" } : MethodName)) ∈ tbl := tbl_mem (i := 635) (by decide +kernel) rfl
theorem wd_636 : (Cond.code ({ cls := "HoldMaps$WeakMap", name := "add", desc := "(LHoldMaps$Entry;)V" } : MethodName) prog_11_method_2_code 2 none) ∈ tbl := tbl_mem (i := 636) (by decide +kernel) rfl
theorem wd_637 : (Cond.methodLink "HoldMaps$WeakMap" 22 ({ cls := "HoldMaps$WeakMap", name := "addToBucket", desc := "(LHoldMaps$Entry;)V" } : MethodName)) ∈ tbl := tbl_mem (i := 637) (by decide +kernel) rfl
theorem wd_638 : (Cond.privateMethod ({ cls := "HoldMaps$WeakMap", name := "addToBucket", desc := "(LHoldMaps$Entry;)V" } : MethodName)) ∈ tbl := tbl_mem (i := 638) (by decide +kernel) rfl
theorem wd_639 : (Cond.instanceMethod ({ cls := "HoldMaps$WeakMap", name := "addToBucket", desc := "(LHoldMaps$Entry;)V" } : MethodName)) ∈ tbl := tbl_mem (i := 639) (by decide +kernel) rfl
theorem wd_640 : (Cond.code ({ cls := "HoldMaps$WeakMap", name := "addToBucket", desc := "(LHoldMaps$Entry;)V" } : MethodName) prog_11_method_3_code 4 none) ∈ tbl := tbl_mem (i := 640) (by decide +kernel) rfl
theorem wd_641 : (Cond.methodLink "HoldMaps$WeakMap" 40 ({ cls := "HoldMaps$WeakMap", name := "bucketOf", desc := "(LHoldMaps$Entry;)I" } : MethodName)) ∈ tbl := tbl_mem (i := 641) (by decide +kernel) rfl
theorem wd_642 : (Cond.privateMethod ({ cls := "HoldMaps$WeakMap", name := "bucketOf", desc := "(LHoldMaps$Entry;)I" } : MethodName)) ∈ tbl := tbl_mem (i := 642) (by decide +kernel) rfl
theorem wd_643 : (Cond.instanceMethod ({ cls := "HoldMaps$WeakMap", name := "bucketOf", desc := "(LHoldMaps$Entry;)I" } : MethodName)) ∈ tbl := tbl_mem (i := 643) (by decide +kernel) rfl
theorem wd_644 : (Cond.code ({ cls := "HoldMaps$WeakMap", name := "bucketOf", desc := "(LHoldMaps$Entry;)I" } : MethodName) prog_11_method_4_code 3 (some FieldType.int)) ∈ tbl := tbl_mem (i := 644) (by decide +kernel) rfl
theorem wd_645 : (Cond.methodLink "HoldMaps$WeakMap" 33 ({ cls := "java/util/ArrayList", name := "size", desc := "()I" } : MethodName)) ∈ tbl := tbl_mem (i := 645) (by decide +kernel) rfl
theorem wd_646 : (Cond.methodLink "HoldMaps$WeakMap" 44 ({ cls := "java/util/ArrayList", name := "get", desc := "(I)Ljava/lang/Object;" } : MethodName)) ∈ tbl := tbl_mem (i := 646) (by decide +kernel) rfl
theorem wd_647 : (Cond.classLink "HoldMaps$WeakMap" 48 "HoldMaps$Entry") ∈ tbl := tbl_mem (i := 647) (by decide +kernel) rfl
theorem wd_648 : (Cond.methodLink "HoldMaps$WeakMap" 50 ({ cls := "java/util/ArrayList", name := "add", desc := "(ILjava/lang/Object;)V" } : MethodName)) ∈ tbl := tbl_mem (i := 648) (by decide +kernel) rfl
theorem wd_649 : (Cond.methodLink "HoldMaps$WeakMap" 37 ({ cls := "HoldMaps$WeakMap", name := "doubleBuckets", desc := "()V" } : MethodName)) ∈ tbl := tbl_mem (i := 649) (by decide +kernel) rfl
theorem wd_650 : (Cond.privateMethod ({ cls := "HoldMaps$WeakMap", name := "doubleBuckets", desc := "()V" } : MethodName)) ∈ tbl := tbl_mem (i := 650) (by decide +kernel) rfl
theorem wd_651 : (Cond.instanceMethod ({ cls := "HoldMaps$WeakMap", name := "doubleBuckets", desc := "()V" } : MethodName)) ∈ tbl := tbl_mem (i := 651) (by decide +kernel) rfl
theorem wd_652 : (Cond.code ({ cls := "HoldMaps$WeakMap", name := "doubleBuckets", desc := "()V" } : MethodName) prog_11_method_5_code 2 none) ∈ tbl := tbl_mem (i := 652) (by decide +kernel) rfl
theorem wd_653 : (Cond.methodLink "HoldMaps$WeakMap" 57 ({ cls := "java/util/ArrayList", name := "clear", desc := "()V" } : MethodName)) ∈ tbl := tbl_mem (i := 653) (by decide +kernel) rfl
theorem wd_654 : (Cond.instanceMethod ({ cls := "java/util/ArrayList", name := "clear", desc := "()V" } : MethodName)) ∈ tbl := tbl_mem (i := 654) (by decide +kernel) rfl
theorem wd_655 : (Cond.selects "java/util/ArrayList" ({ cls := "java/util/ArrayList", name := "clear", desc := "()V" } : MethodName) ({ cls := "java/util/ArrayList", name := "clear", desc := "()V" } : MethodName)) ∈ tbl := tbl_mem (i := 655) (by decide +kernel) rfl
theorem wd_656 : (Cond.code ({ cls := "java/util/ArrayList", name := "clear", desc := "()V" } : MethodName) prog_27_method_40_code 4 none) ∈ tbl := tbl_mem (i := 656) (by decide +kernel) rfl
theorem wd_657 : (Cond.methodLink "HoldMaps$WeakMap" 60 ({ cls := "java/util/ArrayList", name := "add", desc := "(Ljava/lang/Object;)Z" } : MethodName)) ∈ tbl := tbl_mem (i := 657) (by decide +kernel) rfl
theorem wd_658 : (Cond.methodLink "HoldMaps" 132 ({ cls := "HoldMaps$Table", name := "use", desc := "(I)V" } : MethodName)) ∈ tbl := tbl_mem (i := 658) (by decide +kernel) rfl
theorem wd_659 : (Cond.instanceMethod ({ cls := "HoldMaps$Table", name := "use", desc := "(I)V" } : MethodName)) ∈ tbl := tbl_mem (i := 659) (by decide +kernel) rfl
theorem wd_660 : (Cond.sameMethod "HoldMaps$Table" "HoldMaps$Table" "use" "(I)V") ∈ tbl := tbl_mem (i := 660) (by decide +kernel) rfl
theorem wd_661 : (Cond.selects "HoldMaps$IdentityMap" ({ cls := "HoldMaps$Table", name := "use", desc := "(I)V" } : MethodName) ({ cls := "HoldMaps$Table", name := "use", desc := "(I)V" } : MethodName)) ∈ tbl := tbl_mem (i := 661) (by decide +kernel) rfl
theorem wd_662 : (Cond.selects "HoldMaps$LatestMap" ({ cls := "HoldMaps$Table", name := "use", desc := "(I)V" } : MethodName) ({ cls := "HoldMaps$LatestMap", name := "use", desc := "(I)V" } : MethodName)) ∈ tbl := tbl_mem (i := 662) (by decide +kernel) rfl
theorem wd_663 : (Cond.instanceMethod ({ cls := "HoldMaps$LatestMap", name := "use", desc := "(I)V" } : MethodName)) ∈ tbl := tbl_mem (i := 663) (by decide +kernel) rfl
theorem wd_664 : (Cond.code ({ cls := "HoldMaps$LatestMap", name := "use", desc := "(I)V" } : MethodName) prog_5_method_3_code 3 none) ∈ tbl := tbl_mem (i := 664) (by decide +kernel) rfl
theorem wd_665 : (Cond.methodLink "HoldMaps$LatestMap" 29 ({ cls := "java/util/ArrayList", name := "get", desc := "(I)Ljava/lang/Object;" } : MethodName)) ∈ tbl := tbl_mem (i := 665) (by decide +kernel) rfl
theorem wd_666 : (Cond.classLink "HoldMaps$LatestMap" 33 "HoldMaps$Entry") ∈ tbl := tbl_mem (i := 666) (by decide +kernel) rfl
theorem wd_667 : (Cond.selects "HoldMaps$PlacesMap" ({ cls := "HoldMaps$Table", name := "use", desc := "(I)V" } : MethodName) ({ cls := "HoldMaps$Table", name := "use", desc := "(I)V" } : MethodName)) ∈ tbl := tbl_mem (i := 667) (by decide +kernel) rfl
theorem wd_668 : (Cond.selects "HoldMaps$SoftMap" ({ cls := "HoldMaps$Table", name := "use", desc := "(I)V" } : MethodName) ({ cls := "HoldMaps$SoftMap", name := "use", desc := "(I)V" } : MethodName)) ∈ tbl := tbl_mem (i := 668) (by decide +kernel) rfl
theorem wd_669 : (Cond.instanceMethod ({ cls := "HoldMaps$SoftMap", name := "use", desc := "(I)V" } : MethodName)) ∈ tbl := tbl_mem (i := 669) (by decide +kernel) rfl
theorem wd_670 : (Cond.code ({ cls := "HoldMaps$SoftMap", name := "use", desc := "(I)V" } : MethodName) prog_8_method_4_code 3 none) ∈ tbl := tbl_mem (i := 670) (by decide +kernel) rfl
theorem wd_671 : (Cond.methodLink "HoldMaps$SoftMap" 24 ({ cls := "HoldMaps$SoftMap", name := "entryAt", desc := "(I)LHoldMaps$Entry;" } : MethodName)) ∈ tbl := tbl_mem (i := 671) (by decide +kernel) rfl
theorem wd_672 : (Cond.sameMethod "HoldMaps$SoftMap" "HoldMaps$Row" "entryAt" "(I)LHoldMaps$Entry;") ∈ tbl := tbl_mem (i := 672) (by decide +kernel) rfl
theorem wd_673 : (Cond.declares ({ cls := "HoldMaps$Row", name := "entryAt", desc := "(I)LHoldMaps$Entry;" } : MethodName)) ∈ tbl := tbl_mem (i := 673) (by decide +kernel) rfl
theorem wd_674 : (Cond.selects "HoldMaps$SoftMap" ({ cls := "HoldMaps$SoftMap", name := "entryAt", desc := "(I)LHoldMaps$Entry;" } : MethodName) ({ cls := "HoldMaps$Row", name := "entryAt", desc := "(I)LHoldMaps$Entry;" } : MethodName)) ∈ tbl := tbl_mem (i := 674) (by decide +kernel) rfl
theorem wd_675 : (Cond.selects "HoldMaps$WeakMap" ({ cls := "HoldMaps$Table", name := "use", desc := "(I)V" } : MethodName) ({ cls := "HoldMaps$Table", name := "use", desc := "(I)V" } : MethodName)) ∈ tbl := tbl_mem (i := 675) (by decide +kernel) rfl
theorem wd_676 : (Cond.code ({ cls := "HoldMaps$Table", name := "use", desc := "(I)V" } : MethodName) prog_9_method_14_code 2 none) ∈ tbl := tbl_mem (i := 676) (by decide +kernel) rfl
theorem wd_677 : (Cond.methodLink "HoldMapsLaw" 75 ({ cls := "HoldMapsLaw", name := "get", desc := "(LHoldMaps;II[J)I" } : MethodName)) ∈ tbl := tbl_mem (i := 677) (by decide +kernel) rfl
theorem wd_678 : (Cond.static ({ cls := "HoldMapsLaw", name := "get", desc := "(LHoldMaps;II[J)I" } : MethodName)) ∈ tbl := tbl_mem (i := 678) (by decide +kernel) rfl
theorem wd_679 : (Cond.codeWith ({ cls := "HoldMapsLaw", name := "get", desc := "(LHoldMaps;II[J)I" } : MethodName) method_7_code 5 (some FieldType.int) [(0, 10, 13, 13)]) ∈ tbl := tbl_mem (i := 679) (by decide +kernel) rfl
theorem wd_680 : (Cond.methodLink "HoldMapsLaw" 28 ({ cls := "HoldMaps", name := "get", desc := "(II)I" } : MethodName)) ∈ tbl := tbl_mem (i := 680) (by decide +kernel) rfl
theorem wd_681 : (Cond.instanceMethod ({ cls := "HoldMaps", name := "get", desc := "(II)I" } : MethodName)) ∈ tbl := tbl_mem (i := 681) (by decide +kernel) rfl
theorem wd_682 : (Cond.selects "HoldMaps" ({ cls := "HoldMaps", name := "get", desc := "(II)I" } : MethodName) ({ cls := "HoldMaps", name := "get", desc := "(II)I" } : MethodName)) ∈ tbl := tbl_mem (i := 682) (by decide +kernel) rfl
theorem wd_683 : (Cond.code ({ cls := "HoldMaps", name := "get", desc := "(II)I" } : MethodName) prog_1_method_6_code 6 (some FieldType.int)) ∈ tbl := tbl_mem (i := 683) (by decide +kernel) rfl
theorem wd_684 : (Cond.stringRef "HoldMaps" 135 "no such map or key") ∈ lw_tbl := lw_mem (i := 684) (by decide +kernel)
theorem wd_685 : (Cond.methodLink "HoldMaps" 137 ({ cls := "HoldMaps$Table", name := "valueAt", desc := "(I)I" } : MethodName)) ∈ tbl := tbl_mem (i := 685) (by decide +kernel) rfl
theorem wd_686 : (Cond.instanceMethod ({ cls := "HoldMaps$Table", name := "valueAt", desc := "(I)I" } : MethodName)) ∈ tbl := tbl_mem (i := 686) (by decide +kernel) rfl
theorem wd_687 : (Cond.sameMethod "HoldMaps$Table" "HoldMaps$Table" "valueAt" "(I)I") ∈ tbl := tbl_mem (i := 687) (by decide +kernel) rfl
theorem wd_688 : (Cond.selects "HoldMaps$IdentityMap" ({ cls := "HoldMaps$Table", name := "valueAt", desc := "(I)I" } : MethodName) ({ cls := "HoldMaps$Table", name := "valueAt", desc := "(I)I" } : MethodName)) ∈ tbl := tbl_mem (i := 688) (by decide +kernel) rfl
theorem wd_689 : (Cond.selects "HoldMaps$LatestMap" ({ cls := "HoldMaps$Table", name := "valueAt", desc := "(I)I" } : MethodName) ({ cls := "HoldMaps$Table", name := "valueAt", desc := "(I)I" } : MethodName)) ∈ tbl := tbl_mem (i := 689) (by decide +kernel) rfl
theorem wd_690 : (Cond.selects "HoldMaps$PlacesMap" ({ cls := "HoldMaps$Table", name := "valueAt", desc := "(I)I" } : MethodName) ({ cls := "HoldMaps$Table", name := "valueAt", desc := "(I)I" } : MethodName)) ∈ tbl := tbl_mem (i := 690) (by decide +kernel) rfl
theorem wd_691 : (Cond.selects "HoldMaps$SoftMap" ({ cls := "HoldMaps$Table", name := "valueAt", desc := "(I)I" } : MethodName) ({ cls := "HoldMaps$Table", name := "valueAt", desc := "(I)I" } : MethodName)) ∈ tbl := tbl_mem (i := 691) (by decide +kernel) rfl
theorem wd_692 : (Cond.selects "HoldMaps$WeakMap" ({ cls := "HoldMaps$Table", name := "valueAt", desc := "(I)I" } : MethodName) ({ cls := "HoldMaps$Table", name := "valueAt", desc := "(I)I" } : MethodName)) ∈ tbl := tbl_mem (i := 692) (by decide +kernel) rfl
theorem wd_693 : (Cond.code ({ cls := "HoldMaps$Table", name := "valueAt", desc := "(I)I" } : MethodName) prog_9_method_7_code 3 (some FieldType.int)) ∈ tbl := tbl_mem (i := 693) (by decide +kernel) rfl
theorem wd_694 : (Cond.methodLink "HoldMapsLaw" 79 ({ cls := "HoldMapsLaw", name := "remove", desc := "(LHoldMaps;II[J)I" } : MethodName)) ∈ tbl := tbl_mem (i := 694) (by decide +kernel) rfl
theorem wd_695 : (Cond.static ({ cls := "HoldMapsLaw", name := "remove", desc := "(LHoldMaps;II[J)I" } : MethodName)) ∈ tbl := tbl_mem (i := 695) (by decide +kernel) rfl
theorem wd_696 : (Cond.codeWith ({ cls := "HoldMapsLaw", name := "remove", desc := "(LHoldMaps;II[J)I" } : MethodName) method_8_code 5 (some FieldType.int) [(0, 10, 13, 13)]) ∈ tbl := tbl_mem (i := 696) (by decide +kernel) rfl
theorem wd_697 : (Cond.methodLink "HoldMapsLaw" 32 ({ cls := "HoldMaps", name := "remove", desc := "(II)I" } : MethodName)) ∈ tbl := tbl_mem (i := 697) (by decide +kernel) rfl
theorem wd_698 : (Cond.instanceMethod ({ cls := "HoldMaps", name := "remove", desc := "(II)I" } : MethodName)) ∈ tbl := tbl_mem (i := 698) (by decide +kernel) rfl
theorem wd_699 : (Cond.selects "HoldMaps" ({ cls := "HoldMaps", name := "remove", desc := "(II)I" } : MethodName) ({ cls := "HoldMaps", name := "remove", desc := "(II)I" } : MethodName)) ∈ tbl := tbl_mem (i := 699) (by decide +kernel) rfl
theorem wd_700 : (Cond.code ({ cls := "HoldMaps", name := "remove", desc := "(II)I" } : MethodName) prog_1_method_7_code 6 (some FieldType.int)) ∈ tbl := tbl_mem (i := 700) (by decide +kernel) rfl
theorem wd_701 : (Cond.methodLink "HoldMaps" 140 ({ cls := "HoldMaps$Table", name := "dropAt", desc := "(I)V" } : MethodName)) ∈ tbl := tbl_mem (i := 701) (by decide +kernel) rfl
theorem wd_702 : (Cond.declares ({ cls := "HoldMaps$Table", name := "dropAt", desc := "(I)V" } : MethodName)) ∈ tbl := tbl_mem (i := 702) (by decide +kernel) rfl
theorem wd_703 : (Cond.sameMethod "HoldMaps$Table" "HoldMaps$Table" "dropAt" "(I)V") ∈ tbl := tbl_mem (i := 703) (by decide +kernel) rfl
theorem wd_704 : (Cond.selects "HoldMaps$IdentityMap" ({ cls := "HoldMaps$Table", name := "dropAt", desc := "(I)V" } : MethodName) ({ cls := "HoldMaps$IdentityMap", name := "dropAt", desc := "(I)V" } : MethodName)) ∈ tbl := tbl_mem (i := 704) (by decide +kernel) rfl
theorem wd_705 : (Cond.instanceMethod ({ cls := "HoldMaps$IdentityMap", name := "dropAt", desc := "(I)V" } : MethodName)) ∈ tbl := tbl_mem (i := 705) (by decide +kernel) rfl
theorem wd_706 : (Cond.code ({ cls := "HoldMaps$IdentityMap", name := "dropAt", desc := "(I)V" } : MethodName) prog_4_method_5_code 3 none) ∈ tbl := tbl_mem (i := 706) (by decide +kernel) rfl
theorem wd_707 : (Cond.methodLink "HoldMaps$IdentityMap" 33 ({ cls := "HoldMaps$IdentityMap", name := "closeUp", desc := "(I)V" } : MethodName)) ∈ tbl := tbl_mem (i := 707) (by decide +kernel) rfl
theorem wd_708 : (Cond.privateMethod ({ cls := "HoldMaps$IdentityMap", name := "closeUp", desc := "(I)V" } : MethodName)) ∈ tbl := tbl_mem (i := 708) (by decide +kernel) rfl
theorem wd_709 : (Cond.instanceMethod ({ cls := "HoldMaps$IdentityMap", name := "closeUp", desc := "(I)V" } : MethodName)) ∈ tbl := tbl_mem (i := 709) (by decide +kernel) rfl
theorem wd_710 : (Cond.code ({ cls := "HoldMaps$IdentityMap", name := "closeUp", desc := "(I)V" } : MethodName) prog_4_method_10_code 6 none) ∈ tbl := tbl_mem (i := 710) (by decide +kernel) rfl
theorem wd_711 : (Cond.methodLink "HoldMaps$IdentityMap" 40 ({ cls := "HoldMaps$IdentityMap", name := "liesBehind", desc := "(III)Z" } : MethodName)) ∈ tbl := tbl_mem (i := 711) (by decide +kernel) rfl
theorem wd_712 : (Cond.static ({ cls := "HoldMaps$IdentityMap", name := "liesBehind", desc := "(III)Z" } : MethodName)) ∈ tbl := tbl_mem (i := 712) (by decide +kernel) rfl
theorem wd_713 : (Cond.code ({ cls := "HoldMaps$IdentityMap", name := "liesBehind", desc := "(III)Z" } : MethodName) prog_4_method_11_code 4 (some FieldType.boolean)) ∈ tbl := tbl_mem (i := 713) (by decide +kernel) rfl
theorem wd_714 : (Cond.methodLink "HoldMaps$IdentityMap" 44 ({ cls := "java/lang/Math", name := "floorMod", desc := "(II)I" } : MethodName)) ∈ tbl := tbl_mem (i := 714) (by decide +kernel) rfl
theorem wd_715 : (Cond.static ({ cls := "java/lang/Math", name := "floorMod", desc := "(II)I" } : MethodName)) ∈ tbl := tbl_mem (i := 715) (by decide +kernel) rfl
theorem wd_716 : (Cond.code ({ cls := "java/lang/Math", name := "floorMod", desc := "(II)I" } : MethodName) prog_20_method_50_code 3 (some FieldType.int)) ∈ tbl := tbl_mem (i := 716) (by decide +kernel) rfl
theorem wd_717 : (Cond.selects "HoldMaps$LatestMap" ({ cls := "HoldMaps$Table", name := "dropAt", desc := "(I)V" } : MethodName) ({ cls := "HoldMaps$Row", name := "dropAt", desc := "(I)V" } : MethodName)) ∈ tbl := tbl_mem (i := 717) (by decide +kernel) rfl
theorem wd_718 : (Cond.selects "HoldMaps$PlacesMap" ({ cls := "HoldMaps$Table", name := "dropAt", desc := "(I)V" } : MethodName) ({ cls := "HoldMaps$Row", name := "dropAt", desc := "(I)V" } : MethodName)) ∈ tbl := tbl_mem (i := 718) (by decide +kernel) rfl
theorem wd_719 : (Cond.selects "HoldMaps$SoftMap" ({ cls := "HoldMaps$Table", name := "dropAt", desc := "(I)V" } : MethodName) ({ cls := "HoldMaps$Row", name := "dropAt", desc := "(I)V" } : MethodName)) ∈ tbl := tbl_mem (i := 719) (by decide +kernel) rfl
theorem wd_720 : (Cond.selects "HoldMaps$WeakMap" ({ cls := "HoldMaps$Table", name := "dropAt", desc := "(I)V" } : MethodName) ({ cls := "HoldMaps$Row", name := "dropAt", desc := "(I)V" } : MethodName)) ∈ tbl := tbl_mem (i := 720) (by decide +kernel) rfl
theorem wd_721 : (Cond.methodLink "HoldMapsLaw" 86 ({ cls := "HoldMapsLaw", name := "entry", desc := "(LHoldMaps;III[J)I" } : MethodName)) ∈ tbl := tbl_mem (i := 721) (by decide +kernel) rfl
theorem wd_722 : (Cond.static ({ cls := "HoldMapsLaw", name := "entry", desc := "(LHoldMaps;III[J)I" } : MethodName)) ∈ tbl := tbl_mem (i := 722) (by decide +kernel) rfl
theorem wd_723 : (Cond.codeWith ({ cls := "HoldMapsLaw", name := "entry", desc := "(LHoldMaps;III[J)I" } : MethodName) method_9_code 6 (some FieldType.int) [(0, 12, 15, 38)]) ∈ tbl := tbl_mem (i := 723) (by decide +kernel) rfl
theorem wd_724 : (Cond.classLink "HoldMapsLaw" 38 "java/util/NoSuchElementException") ∈ tbl := tbl_mem (i := 724) (by decide +kernel) rfl
theorem wd_725 : (Cond.methodLink "HoldMapsLaw" 35 ({ cls := "HoldMaps", name := "entry", desc := "(III)I" } : MethodName)) ∈ tbl := tbl_mem (i := 725) (by decide +kernel) rfl
theorem wd_726 : (Cond.instanceMethod ({ cls := "HoldMaps", name := "entry", desc := "(III)I" } : MethodName)) ∈ tbl := tbl_mem (i := 726) (by decide +kernel) rfl
theorem wd_727 : (Cond.selects "HoldMaps" ({ cls := "HoldMaps", name := "entry", desc := "(III)I" } : MethodName) ({ cls := "HoldMaps", name := "entry", desc := "(III)I" } : MethodName)) ∈ tbl := tbl_mem (i := 727) (by decide +kernel) rfl
theorem wd_728 : (Cond.code ({ cls := "HoldMaps", name := "entry", desc := "(III)I" } : MethodName) prog_1_method_9_code 5 (some FieldType.int)) ∈ tbl := tbl_mem (i := 728) (by decide +kernel) rfl
theorem wd_729 : (Cond.classLink "HoldMaps" 149 "java/util/NoSuchElementException") ∈ tbl := tbl_mem (i := 729) (by decide +kernel) rfl
theorem wd_730 : (Cond.instantiable "java/util/NoSuchElementException" 6) ∈ tbl := tbl_mem (i := 730) (by decide +kernel) rfl
theorem wd_731 : (Cond.castable "java/util/NoSuchElementException" "java/util/NoSuchElementException") ∈ tbl := tbl_mem (i := 731) (by decide +kernel) rfl
theorem wd_732 : (Cond.selects "java/util/NoSuchElementException" ({ cls := "java/lang/Throwable", name := "fillInStackTrace", desc := "(I)Ljava/lang/Throwable;" } : MethodName) ({ cls := "java/lang/Throwable", name := "fillInStackTrace", desc := "(I)Ljava/lang/Throwable;" } : MethodName)) ∈ tbl := tbl_mem (i := 732) (by decide +kernel) rfl
theorem wd_733 : (Cond.lays "java/util/NoSuchElementException" "java/lang/Throwable" "cause" "Ljava/lang/Throwable;") ∈ tbl := tbl_mem (i := 733) (by decide +kernel) rfl
theorem wd_734 : (Cond.lays "java/util/NoSuchElementException" "java/lang/Throwable" "stackTrace" "[Ljava/lang/StackTraceElement;") ∈ tbl := tbl_mem (i := 734) (by decide +kernel) rfl
theorem wd_735 : (Cond.lays "java/util/NoSuchElementException" "java/lang/Throwable" "suppressedExceptions" "Ljava/util/List;") ∈ tbl := tbl_mem (i := 735) (by decide +kernel) rfl
theorem wd_736 : (Cond.lays "java/util/NoSuchElementException" "java/lang/Throwable" "detailMessage" "Ljava/lang/String;") ∈ tbl := tbl_mem (i := 736) (by decide +kernel) rfl
theorem wd_737 : (Cond.lays "java/util/NoSuchElementException" "java/lang/Throwable" "backtrace" "Ljava/lang/Object;") ∈ tbl := tbl_mem (i := 737) (by decide +kernel) rfl
theorem wd_738 : (Cond.stringRef "HoldMaps" 151 "no such map or part of an entry") ∈ lw_tbl := lw_mem (i := 738) (by decide +kernel)
theorem wd_739 : (Cond.methodLink "HoldMaps" 153 ({ cls := "java/util/NoSuchElementException", name := "<init>", desc := "(Ljava/lang/String;)V" } : MethodName)) ∈ tbl := tbl_mem (i := 739) (by decide +kernel) rfl
theorem wd_740 : (Cond.instanceMethod ({ cls := "java/util/NoSuchElementException", name := "<init>", desc := "(Ljava/lang/String;)V" } : MethodName)) ∈ tbl := tbl_mem (i := 740) (by decide +kernel) rfl
theorem wd_741 : (Cond.code ({ cls := "java/util/NoSuchElementException", name := "<init>", desc := "(Ljava/lang/String;)V" } : MethodName) prog_31_method_4_code 2 none) ∈ tbl := tbl_mem (i := 741) (by decide +kernel) rfl
theorem wd_742 : (Cond.methodLink "java/util/NoSuchElementException" 13 ({ cls := "java/lang/RuntimeException", name := "<init>", desc := "(Ljava/lang/String;)V" } : MethodName)) ∈ tbl := tbl_mem (i := 742) (by decide +kernel) rfl
theorem wd_743 : (Cond.lays "java/util/NoSuchElementException" "java/lang/Throwable" "depth" "I") ∈ tbl := tbl_mem (i := 743) (by decide +kernel) rfl
theorem wd_744 : (Cond.superclass "java/util/NoSuchElementException" "java/lang/RuntimeException") ∈ tbl := tbl_mem (i := 744) (by decide +kernel) rfl
theorem wd_745 : (Cond.methodLink "HoldMaps" 154 ({ cls := "HoldMaps$Table", name := "keyAt", desc := "(I)I" } : MethodName)) ∈ tbl := tbl_mem (i := 745) (by decide +kernel) rfl
theorem wd_746 : (Cond.instanceMethod ({ cls := "HoldMaps$Table", name := "keyAt", desc := "(I)I" } : MethodName)) ∈ tbl := tbl_mem (i := 746) (by decide +kernel) rfl
theorem wd_747 : (Cond.sameMethod "HoldMaps$Table" "HoldMaps$Table" "keyAt" "(I)I") ∈ tbl := tbl_mem (i := 747) (by decide +kernel) rfl
theorem wd_748 : (Cond.selects "HoldMaps$IdentityMap" ({ cls := "HoldMaps$Table", name := "keyAt", desc := "(I)I" } : MethodName) ({ cls := "HoldMaps$Table", name := "keyAt", desc := "(I)I" } : MethodName)) ∈ tbl := tbl_mem (i := 748) (by decide +kernel) rfl
theorem wd_749 : (Cond.selects "HoldMaps$LatestMap" ({ cls := "HoldMaps$Table", name := "keyAt", desc := "(I)I" } : MethodName) ({ cls := "HoldMaps$Table", name := "keyAt", desc := "(I)I" } : MethodName)) ∈ tbl := tbl_mem (i := 749) (by decide +kernel) rfl
theorem wd_750 : (Cond.selects "HoldMaps$PlacesMap" ({ cls := "HoldMaps$Table", name := "keyAt", desc := "(I)I" } : MethodName) ({ cls := "HoldMaps$Table", name := "keyAt", desc := "(I)I" } : MethodName)) ∈ tbl := tbl_mem (i := 750) (by decide +kernel) rfl
theorem wd_751 : (Cond.selects "HoldMaps$SoftMap" ({ cls := "HoldMaps$Table", name := "keyAt", desc := "(I)I" } : MethodName) ({ cls := "HoldMaps$Table", name := "keyAt", desc := "(I)I" } : MethodName)) ∈ tbl := tbl_mem (i := 751) (by decide +kernel) rfl
theorem wd_752 : (Cond.selects "HoldMaps$WeakMap" ({ cls := "HoldMaps$Table", name := "keyAt", desc := "(I)I" } : MethodName) ({ cls := "HoldMaps$Table", name := "keyAt", desc := "(I)I" } : MethodName)) ∈ tbl := tbl_mem (i := 752) (by decide +kernel) rfl
theorem wd_753 : (Cond.code ({ cls := "HoldMaps$Table", name := "keyAt", desc := "(I)I" } : MethodName) prog_9_method_6_code 3 (some FieldType.int)) ∈ tbl := tbl_mem (i := 753) (by decide +kernel) rfl
theorem wd_754 : (Cond.stringRef "HoldMaps" 157 "no such entry") ∈ lw_tbl := lw_mem (i := 754) (by decide +kernel)
theorem wd_755 : (Cond.methodLink "HoldMapsLaw" 89 ({ cls := "HoldMapsLaw", name := "walk", desc := "(LHoldMaps;I)I" } : MethodName)) ∈ tbl := tbl_mem (i := 755) (by decide +kernel) rfl
theorem wd_756 : (Cond.static ({ cls := "HoldMapsLaw", name := "walk", desc := "(LHoldMaps;I)I" } : MethodName)) ∈ tbl := tbl_mem (i := 756) (by decide +kernel) rfl
theorem wd_757 : (Cond.codeWith ({ cls := "HoldMapsLaw", name := "walk", desc := "(LHoldMaps;I)I" } : MethodName) method_10_code 3 (some FieldType.int) [(0, 5, 8, 13)]) ∈ tbl := tbl_mem (i := 757) (by decide +kernel) rfl
theorem wd_758 : (Cond.methodLink "HoldMapsLaw" 40 ({ cls := "HoldMaps", name := "walk", desc := "(I)V" } : MethodName)) ∈ tbl := tbl_mem (i := 758) (by decide +kernel) rfl
theorem wd_759 : (Cond.instanceMethod ({ cls := "HoldMaps", name := "walk", desc := "(I)V" } : MethodName)) ∈ tbl := tbl_mem (i := 759) (by decide +kernel) rfl
theorem wd_760 : (Cond.selects "HoldMaps" ({ cls := "HoldMaps", name := "walk", desc := "(I)V" } : MethodName) ({ cls := "HoldMaps", name := "walk", desc := "(I)V" } : MethodName)) ∈ tbl := tbl_mem (i := 760) (by decide +kernel) rfl
theorem wd_761 : (Cond.code ({ cls := "HoldMaps", name := "walk", desc := "(I)V" } : MethodName) prog_1_method_10_code 3 none) ∈ tbl := tbl_mem (i := 761) (by decide +kernel) rfl
theorem wd_762 : (Cond.stringRef "HoldMaps" 159 "no such map") ∈ lw_tbl := lw_mem (i := 762) (by decide +kernel)
theorem wd_763 : (Cond.methodLink "HoldMapsLaw" 93 ({ cls := "HoldMapsLaw", name := "step", desc := "(LHoldMaps;I[J)I" } : MethodName)) ∈ tbl := tbl_mem (i := 763) (by decide +kernel) rfl
theorem wd_764 : (Cond.static ({ cls := "HoldMapsLaw", name := "step", desc := "(LHoldMaps;I[J)I" } : MethodName)) ∈ tbl := tbl_mem (i := 764) (by decide +kernel) rfl
theorem wd_765 : (Cond.codeWith ({ cls := "HoldMapsLaw", name := "step", desc := "(LHoldMaps;I[J)I" } : MethodName) method_11_code 4 (some FieldType.int) [(0, 9, 12, 13), (0, 9, 15, 15), (0, 9, 18, 38)]) ∈ tbl := tbl_mem (i := 765) (by decide +kernel) rfl
theorem wd_766 : (Cond.methodLink "HoldMapsLaw" 44 ({ cls := "HoldMaps", name := "step", desc := "(I)I" } : MethodName)) ∈ tbl := tbl_mem (i := 766) (by decide +kernel) rfl
theorem wd_767 : (Cond.instanceMethod ({ cls := "HoldMaps", name := "step", desc := "(I)I" } : MethodName)) ∈ tbl := tbl_mem (i := 767) (by decide +kernel) rfl
theorem wd_768 : (Cond.selects "HoldMaps" ({ cls := "HoldMaps", name := "step", desc := "(I)I" } : MethodName) ({ cls := "HoldMaps", name := "step", desc := "(I)I" } : MethodName)) ∈ tbl := tbl_mem (i := 768) (by decide +kernel) rfl
theorem wd_769 : (Cond.code ({ cls := "HoldMaps", name := "step", desc := "(I)I" } : MethodName) prog_1_method_11_code 4 (some FieldType.int)) ∈ tbl := tbl_mem (i := 769) (by decide +kernel) rfl
theorem wd_770 : (Cond.stringRef "HoldMaps" 170 "no such map, or no walk of it") ∈ lw_tbl := lw_mem (i := 770) (by decide +kernel)
theorem wd_771 : (Cond.stringRef "HoldMaps" 172 "the map was changed since the walk began") ∈ lw_tbl := lw_mem (i := 771) (by decide +kernel)
theorem wd_772 : (Cond.stringRef "HoldMaps" 174 "the walk is at its end") ∈ lw_tbl := lw_mem (i := 772) (by decide +kernel)
theorem wd_773 : (Cond.methodLink "HoldMapsLaw" 96 ({ cls := "HoldMapsLaw", name := "collect", desc := "(LHoldMaps;I[J)I" } : MethodName)) ∈ tbl := tbl_mem (i := 773) (by decide +kernel) rfl
theorem wd_774 : (Cond.static ({ cls := "HoldMapsLaw", name := "collect", desc := "(LHoldMaps;I[J)I" } : MethodName)) ∈ tbl := tbl_mem (i := 774) (by decide +kernel) rfl
theorem wd_775 : (Cond.codeWith ({ cls := "HoldMapsLaw", name := "collect", desc := "(LHoldMaps;I[J)I" } : MethodName) method_12_code 4 (some FieldType.int) [(0, 9, 12, 13)]) ∈ tbl := tbl_mem (i := 775) (by decide +kernel) rfl
theorem wd_776 : (Cond.methodLink "HoldMapsLaw" 47 ({ cls := "HoldMaps", name := "collect", desc := "(I)I" } : MethodName)) ∈ tbl := tbl_mem (i := 776) (by decide +kernel) rfl
theorem wd_777 : (Cond.instanceMethod ({ cls := "HoldMaps", name := "collect", desc := "(I)I" } : MethodName)) ∈ tbl := tbl_mem (i := 777) (by decide +kernel) rfl
theorem wd_778 : (Cond.selects "HoldMaps" ({ cls := "HoldMaps", name := "collect", desc := "(I)I" } : MethodName) ({ cls := "HoldMaps", name := "collect", desc := "(I)I" } : MethodName)) ∈ tbl := tbl_mem (i := 778) (by decide +kernel) rfl
theorem wd_779 : (Cond.code ({ cls := "HoldMaps", name := "collect", desc := "(I)I" } : MethodName) prog_1_method_12_code 2 (some FieldType.int)) ∈ tbl := tbl_mem (i := 779) (by decide +kernel) rfl
theorem wd_780 : (Cond.stringRef "HoldMaps" 176 "the pressure is not 0 .. 3") ∈ lw_tbl := lw_mem (i := 780) (by decide +kernel)
theorem wd_781 : (Cond.methodLink "HoldMaps" 178 ({ cls := "HoldMaps$Heap", name := "holdRootsOnly", desc := "()V" } : MethodName)) ∈ tbl := tbl_mem (i := 781) (by decide +kernel) rfl
theorem wd_782 : (Cond.instanceMethod ({ cls := "HoldMaps$Heap", name := "holdRootsOnly", desc := "()V" } : MethodName)) ∈ tbl := tbl_mem (i := 782) (by decide +kernel) rfl
theorem wd_783 : (Cond.selects "HoldMaps$Heap" ({ cls := "HoldMaps$Heap", name := "holdRootsOnly", desc := "()V" } : MethodName) ({ cls := "HoldMaps$Heap", name := "holdRootsOnly", desc := "()V" } : MethodName)) ∈ tbl := tbl_mem (i := 783) (by decide +kernel) rfl
theorem wd_784 : (Cond.code ({ cls := "HoldMaps$Heap", name := "holdRootsOnly", desc := "()V" } : MethodName) prog_3_method_6_code 2 none) ∈ tbl := tbl_mem (i := 784) (by decide +kernel) rfl
theorem wd_785 : (Cond.methodLink "HoldMaps$Heap" 36 ({ cls := "HoldMaps$Heap", name := "hold", desc := "(I)V" } : MethodName)) ∈ tbl := tbl_mem (i := 785) (by decide +kernel) rfl
theorem wd_786 : (Cond.instanceMethod ({ cls := "HoldMaps$Heap", name := "hold", desc := "(I)V" } : MethodName)) ∈ tbl := tbl_mem (i := 786) (by decide +kernel) rfl
theorem wd_787 : (Cond.selects "HoldMaps$Heap" ({ cls := "HoldMaps$Heap", name := "hold", desc := "(I)V" } : MethodName) ({ cls := "HoldMaps$Heap", name := "hold", desc := "(I)V" } : MethodName)) ∈ tbl := tbl_mem (i := 787) (by decide +kernel) rfl
theorem wd_788 : (Cond.code ({ cls := "HoldMaps$Heap", name := "hold", desc := "(I)V" } : MethodName) prog_3_method_7_code 4 none) ∈ tbl := tbl_mem (i := 788) (by decide +kernel) rfl
theorem wd_789 : (Cond.methodLink "HoldMaps$Heap" 40 ({ cls := "HoldMaps$Heap", name := "mark", desc := "(I)V" } : MethodName)) ∈ tbl := tbl_mem (i := 789) (by decide +kernel) rfl
theorem wd_790 : (Cond.privateMethod ({ cls := "HoldMaps$Heap", name := "mark", desc := "(I)V" } : MethodName)) ∈ tbl := tbl_mem (i := 790) (by decide +kernel) rfl
theorem wd_791 : (Cond.instanceMethod ({ cls := "HoldMaps$Heap", name := "mark", desc := "(I)V" } : MethodName)) ∈ tbl := tbl_mem (i := 791) (by decide +kernel) rfl
theorem wd_792 : (Cond.code ({ cls := "HoldMaps$Heap", name := "mark", desc := "(I)V" } : MethodName) prog_3_method_9_code 2 none) ∈ tbl := tbl_mem (i := 792) (by decide +kernel) rfl
theorem wd_793 : (Cond.methodLink "HoldMaps$Heap" 21 ({ cls := "HoldMaps$Heap", name := "has", desc := "(I)Z" } : MethodName)) ∈ tbl := tbl_mem (i := 793) (by decide +kernel) rfl
theorem wd_794 : (Cond.methodLink "HoldMaps$Heap" 43 ({ cls := "HoldMaps$Heap", name := "markWhatItRefersTo", desc := "(I)V" } : MethodName)) ∈ tbl := tbl_mem (i := 794) (by decide +kernel) rfl
theorem wd_795 : (Cond.privateMethod ({ cls := "HoldMaps$Heap", name := "markWhatItRefersTo", desc := "(I)V" } : MethodName)) ∈ tbl := tbl_mem (i := 795) (by decide +kernel) rfl
theorem wd_796 : (Cond.instanceMethod ({ cls := "HoldMaps$Heap", name := "markWhatItRefersTo", desc := "(I)V" } : MethodName)) ∈ tbl := tbl_mem (i := 796) (by decide +kernel) rfl
theorem wd_797 : (Cond.code ({ cls := "HoldMaps$Heap", name := "markWhatItRefersTo", desc := "(I)V" } : MethodName) prog_3_method_8_code 3 none) ∈ tbl := tbl_mem (i := 797) (by decide +kernel) rfl
theorem wd_798 : (Cond.methodLink "HoldMaps" 181 ({ cls := "HoldMaps", name := "holdWhatMapsHold", desc := "()V" } : MethodName)) ∈ tbl := tbl_mem (i := 798) (by decide +kernel) rfl
theorem wd_799 : (Cond.privateMethod ({ cls := "HoldMaps", name := "holdWhatMapsHold", desc := "()V" } : MethodName)) ∈ tbl := tbl_mem (i := 799) (by decide +kernel) rfl
theorem wd_800 : (Cond.instanceMethod ({ cls := "HoldMaps", name := "holdWhatMapsHold", desc := "()V" } : MethodName)) ∈ tbl := tbl_mem (i := 800) (by decide +kernel) rfl
theorem wd_801 : (Cond.code ({ cls := "HoldMaps", name := "holdWhatMapsHold", desc := "()V" } : MethodName) prog_1_method_17_code 1 none) ∈ tbl := tbl_mem (i := 801) (by decide +kernel) rfl
theorem wd_802 : (Cond.methodLink "HoldMaps" 208 ({ cls := "HoldMaps", name := "holdKeys", desc := "(LHoldMaps$Table;)V" } : MethodName)) ∈ tbl := tbl_mem (i := 802) (by decide +kernel) rfl
theorem wd_803 : (Cond.privateMethod ({ cls := "HoldMaps", name := "holdKeys", desc := "(LHoldMaps$Table;)V" } : MethodName)) ∈ tbl := tbl_mem (i := 803) (by decide +kernel) rfl
theorem wd_804 : (Cond.instanceMethod ({ cls := "HoldMaps", name := "holdKeys", desc := "(LHoldMaps$Table;)V" } : MethodName)) ∈ tbl := tbl_mem (i := 804) (by decide +kernel) rfl
theorem wd_805 : (Cond.code ({ cls := "HoldMaps", name := "holdKeys", desc := "(LHoldMaps$Table;)V" } : MethodName) prog_1_method_18_code 3 none) ∈ tbl := tbl_mem (i := 805) (by decide +kernel) rfl
theorem wd_806 : (Cond.methodLink "HoldMaps" 215 ({ cls := "HoldMaps$Heap", name := "hold", desc := "(I)V" } : MethodName)) ∈ tbl := tbl_mem (i := 806) (by decide +kernel) rfl
theorem wd_807 : (Cond.methodLink "HoldMaps" 212 ({ cls := "HoldMaps", name := "holdValues", desc := "(LHoldMaps$Table;)V" } : MethodName)) ∈ tbl := tbl_mem (i := 807) (by decide +kernel) rfl
theorem wd_808 : (Cond.privateMethod ({ cls := "HoldMaps", name := "holdValues", desc := "(LHoldMaps$Table;)V" } : MethodName)) ∈ tbl := tbl_mem (i := 808) (by decide +kernel) rfl
theorem wd_809 : (Cond.instanceMethod ({ cls := "HoldMaps", name := "holdValues", desc := "(LHoldMaps$Table;)V" } : MethodName)) ∈ tbl := tbl_mem (i := 809) (by decide +kernel) rfl
theorem wd_810 : (Cond.code ({ cls := "HoldMaps", name := "holdValues", desc := "(LHoldMaps$Table;)V" } : MethodName) prog_1_method_19_code 3 none) ∈ tbl := tbl_mem (i := 810) (by decide +kernel) rfl
theorem wd_811 : (Cond.methodLink "HoldMaps" 184 ({ cls := "HoldMaps", name := "dropSoftEntries", desc := "(I)V" } : MethodName)) ∈ tbl := tbl_mem (i := 811) (by decide +kernel) rfl
theorem wd_812 : (Cond.privateMethod ({ cls := "HoldMaps", name := "dropSoftEntries", desc := "(I)V" } : MethodName)) ∈ tbl := tbl_mem (i := 812) (by decide +kernel) rfl
theorem wd_813 : (Cond.instanceMethod ({ cls := "HoldMaps", name := "dropSoftEntries", desc := "(I)V" } : MethodName)) ∈ tbl := tbl_mem (i := 813) (by decide +kernel) rfl
theorem wd_814 : (Cond.code ({ cls := "HoldMaps", name := "dropSoftEntries", desc := "(I)V" } : MethodName) prog_1_method_20_code 7 none) ∈ tbl := tbl_mem (i := 814) (by decide +kernel) rfl
theorem wd_815 : (Cond.methodLink "HoldMaps" 218 ({ cls := "HoldMaps$SoftMap", name := "length", desc := "()I" } : MethodName)) ∈ tbl := tbl_mem (i := 815) (by decide +kernel) rfl
theorem wd_816 : (Cond.sameMethod "HoldMaps$SoftMap" "HoldMaps$Row" "length" "()I") ∈ tbl := tbl_mem (i := 816) (by decide +kernel) rfl
theorem wd_817 : (Cond.declares ({ cls := "HoldMaps$Row", name := "length", desc := "()I" } : MethodName)) ∈ tbl := tbl_mem (i := 817) (by decide +kernel) rfl
theorem wd_818 : (Cond.selects "HoldMaps$SoftMap" ({ cls := "HoldMaps$SoftMap", name := "length", desc := "()I" } : MethodName) ({ cls := "HoldMaps$Row", name := "length", desc := "()I" } : MethodName)) ∈ tbl := tbl_mem (i := 818) (by decide +kernel) rfl
theorem wd_819 : (Cond.methodLink "HoldMaps" 219 ({ cls := "HoldMaps$SoftMap", name := "usedFirstAfter", desc := "(I)I" } : MethodName)) ∈ tbl := tbl_mem (i := 819) (by decide +kernel) rfl
theorem wd_820 : (Cond.instanceMethod ({ cls := "HoldMaps$SoftMap", name := "usedFirstAfter", desc := "(I)I" } : MethodName)) ∈ tbl := tbl_mem (i := 820) (by decide +kernel) rfl
theorem wd_821 : (Cond.selects "HoldMaps$SoftMap" ({ cls := "HoldMaps$SoftMap", name := "usedFirstAfter", desc := "(I)I" } : MethodName) ({ cls := "HoldMaps$SoftMap", name := "usedFirstAfter", desc := "(I)I" } : MethodName)) ∈ tbl := tbl_mem (i := 821) (by decide +kernel) rfl
theorem wd_822 : (Cond.code ({ cls := "HoldMaps$SoftMap", name := "usedFirstAfter", desc := "(I)I" } : MethodName) prog_8_method_5_code 5 (some FieldType.int)) ∈ tbl := tbl_mem (i := 822) (by decide +kernel) rfl
theorem wd_823 : (Cond.methodLink "HoldMaps$SoftMap" 32 ({ cls := "java/util/ArrayList", name := "size", desc := "()I" } : MethodName)) ∈ tbl := tbl_mem (i := 823) (by decide +kernel) rfl
theorem wd_824 : (Cond.methodLink "HoldMaps$SoftMap" 38 ({ cls := "java/util/ArrayList", name := "get", desc := "(I)Ljava/lang/Object;" } : MethodName)) ∈ tbl := tbl_mem (i := 824) (by decide +kernel) rfl
theorem wd_825 : (Cond.classLink "HoldMaps$SoftMap" 16 "HoldMaps$Entry") ∈ tbl := tbl_mem (i := 825) (by decide +kernel) rfl
theorem wd_826 : (Cond.methodLink "HoldMaps" 222 ({ cls := "HoldMaps$SoftMap", name := "entryAt", desc := "(I)LHoldMaps$Entry;" } : MethodName)) ∈ tbl := tbl_mem (i := 826) (by decide +kernel) rfl
theorem wd_827 : (Cond.methodLink "HoldMaps" 225 ({ cls := "HoldMaps$Heap", name := "isHeld", desc := "(I)Z" } : MethodName)) ∈ tbl := tbl_mem (i := 827) (by decide +kernel) rfl
theorem wd_828 : (Cond.instanceMethod ({ cls := "HoldMaps$Heap", name := "isHeld", desc := "(I)Z" } : MethodName)) ∈ tbl := tbl_mem (i := 828) (by decide +kernel) rfl
theorem wd_829 : (Cond.selects "HoldMaps$Heap" ({ cls := "HoldMaps$Heap", name := "isHeld", desc := "(I)Z" } : MethodName) ({ cls := "HoldMaps$Heap", name := "isHeld", desc := "(I)Z" } : MethodName)) ∈ tbl := tbl_mem (i := 829) (by decide +kernel) rfl
theorem wd_830 : (Cond.code ({ cls := "HoldMaps$Heap", name := "isHeld", desc := "(I)Z" } : MethodName) prog_3_method_5_code 2 (some FieldType.boolean)) ∈ tbl := tbl_mem (i := 830) (by decide +kernel) rfl
theorem wd_831 : (Cond.methodLink "HoldMaps" 228 ({ cls := "HoldMaps$SoftMap", name := "dropAt", desc := "(I)V" } : MethodName)) ∈ tbl := tbl_mem (i := 831) (by decide +kernel) rfl
theorem wd_832 : (Cond.sameMethod "HoldMaps$SoftMap" "HoldMaps$Row" "dropAt" "(I)V") ∈ tbl := tbl_mem (i := 832) (by decide +kernel) rfl
theorem wd_833 : (Cond.selects "HoldMaps$SoftMap" ({ cls := "HoldMaps$SoftMap", name := "dropAt", desc := "(I)V" } : MethodName) ({ cls := "HoldMaps$Row", name := "dropAt", desc := "(I)V" } : MethodName)) ∈ tbl := tbl_mem (i := 833) (by decide +kernel) rfl
theorem wd_834 : (Cond.methodLink "HoldMaps" 187 ({ cls := "HoldMaps", name := "dropWeakEntries", desc := "()V" } : MethodName)) ∈ tbl := tbl_mem (i := 834) (by decide +kernel) rfl
theorem wd_835 : (Cond.privateMethod ({ cls := "HoldMaps", name := "dropWeakEntries", desc := "()V" } : MethodName)) ∈ tbl := tbl_mem (i := 835) (by decide +kernel) rfl
theorem wd_836 : (Cond.instanceMethod ({ cls := "HoldMaps", name := "dropWeakEntries", desc := "()V" } : MethodName)) ∈ tbl := tbl_mem (i := 836) (by decide +kernel) rfl
theorem wd_837 : (Cond.code ({ cls := "HoldMaps", name := "dropWeakEntries", desc := "()V" } : MethodName) prog_1_method_21_code 2 none) ∈ tbl := tbl_mem (i := 837) (by decide +kernel) rfl
theorem wd_838 : (Cond.methodLink "HoldMaps" 229 ({ cls := "HoldMaps$WeakMap", name := "length", desc := "()I" } : MethodName)) ∈ tbl := tbl_mem (i := 838) (by decide +kernel) rfl
theorem wd_839 : (Cond.sameMethod "HoldMaps$WeakMap" "HoldMaps$Row" "length" "()I") ∈ tbl := tbl_mem (i := 839) (by decide +kernel) rfl
theorem wd_840 : (Cond.selects "HoldMaps$WeakMap" ({ cls := "HoldMaps$WeakMap", name := "length", desc := "()I" } : MethodName) ({ cls := "HoldMaps$Row", name := "length", desc := "()I" } : MethodName)) ∈ tbl := tbl_mem (i := 840) (by decide +kernel) rfl
theorem wd_841 : (Cond.methodLink "HoldMaps" 230 ({ cls := "HoldMaps$WeakMap", name := "keyAt", desc := "(I)I" } : MethodName)) ∈ tbl := tbl_mem (i := 841) (by decide +kernel) rfl
theorem wd_842 : (Cond.sameMethod "HoldMaps$WeakMap" "HoldMaps$Table" "keyAt" "(I)I") ∈ tbl := tbl_mem (i := 842) (by decide +kernel) rfl
theorem wd_843 : (Cond.declares ({ cls := "HoldMaps$Table", name := "keyAt", desc := "(I)I" } : MethodName)) ∈ tbl := tbl_mem (i := 843) (by decide +kernel) rfl
theorem wd_844 : (Cond.selects "HoldMaps$WeakMap" ({ cls := "HoldMaps$WeakMap", name := "keyAt", desc := "(I)I" } : MethodName) ({ cls := "HoldMaps$Table", name := "keyAt", desc := "(I)I" } : MethodName)) ∈ tbl := tbl_mem (i := 844) (by decide +kernel) rfl
theorem wd_845 : (Cond.methodLink "HoldMaps" 231 ({ cls := "HoldMaps$WeakMap", name := "dropAt", desc := "(I)V" } : MethodName)) ∈ tbl := tbl_mem (i := 845) (by decide +kernel) rfl
theorem wd_846 : (Cond.sameMethod "HoldMaps$WeakMap" "HoldMaps$Row" "dropAt" "(I)V") ∈ tbl := tbl_mem (i := 846) (by decide +kernel) rfl
theorem wd_847 : (Cond.selects "HoldMaps$WeakMap" ({ cls := "HoldMaps$WeakMap", name := "dropAt", desc := "(I)V" } : MethodName) ({ cls := "HoldMaps$Row", name := "dropAt", desc := "(I)V" } : MethodName)) ∈ tbl := tbl_mem (i := 847) (by decide +kernel) rfl
theorem wd_848 : (Cond.methodLink "HoldMaps" 190 ({ cls := "HoldMaps$Heap", name := "sweep", desc := "()I" } : MethodName)) ∈ tbl := tbl_mem (i := 848) (by decide +kernel) rfl
theorem wd_849 : (Cond.instanceMethod ({ cls := "HoldMaps$Heap", name := "sweep", desc := "()I" } : MethodName)) ∈ tbl := tbl_mem (i := 849) (by decide +kernel) rfl
theorem wd_850 : (Cond.selects "HoldMaps$Heap" ({ cls := "HoldMaps$Heap", name := "sweep", desc := "()I" } : MethodName) ({ cls := "HoldMaps$Heap", name := "sweep", desc := "()I" } : MethodName)) ∈ tbl := tbl_mem (i := 850) (by decide +kernel) rfl
theorem wd_851 : (Cond.code ({ cls := "HoldMaps$Heap", name := "sweep", desc := "()I" } : MethodName) prog_3_method_10_code 3 (some FieldType.int)) ∈ tbl := tbl_mem (i := 851) (by decide +kernel) rfl
theorem wd_852 : (Cond.classLink "HoldMapsLaw" 51 "HoldMapsModel") ∈ tbl := tbl_mem (i := 852) (by decide +kernel) rfl
theorem wd_853 : (Cond.instantiable "HoldMapsModel" 18) ∈ tbl := tbl_mem (i := 853) (by decide +kernel) rfl
theorem wd_854 : (Cond.methodLink "HoldMapsLaw" 53 ({ cls := "HoldMapsModel", name := "<init>", desc := "()V" } : MethodName)) ∈ tbl := tbl_mem (i := 854) (by decide +kernel) rfl
theorem wd_855 : (Cond.instanceMethod ({ cls := "HoldMapsModel", name := "<init>", desc := "()V" } : MethodName)) ∈ tbl := tbl_mem (i := 855) (by decide +kernel) rfl
theorem wd_856 : (Cond.code ({ cls := "HoldMapsModel", name := "<init>", desc := "()V" } : MethodName) prog_13_method_1_code 2 none) ∈ tbl := tbl_mem (i := 856) (by decide +kernel) rfl
theorem wd_857 : (Cond.methodLink "HoldMapsModel" 1 ({ cls := "java/lang/Object", name := "<init>", desc := "()V" } : MethodName)) ∈ tbl := tbl_mem (i := 857) (by decide +kernel) rfl
theorem wd_858 : (Cond.fieldLink "HoldMapsModel" 57 "HoldMapsModel" "refusal" "I") ∈ tbl := tbl_mem (i := 858) (by decide +kernel) rfl
theorem wd_859 : (Cond.fieldLink "HoldMapsModel" 7 "HoldMapsModel" "values" "[I") ∈ tbl := tbl_mem (i := 859) (by decide +kernel) rfl
theorem wd_860 : (Cond.fieldLink "HoldMapsModel" 13 "HoldMapsModel" "first" "[I") ∈ tbl := tbl_mem (i := 860) (by decide +kernel) rfl
theorem wd_861 : (Cond.fieldLink "HoldMapsModel" 16 "HoldMapsModel" "second" "[I") ∈ tbl := tbl_mem (i := 861) (by decide +kernel) rfl
theorem wd_862 : (Cond.fieldLink "HoldMapsModel" 19 "HoldMapsModel" "there" "[Z") ∈ tbl := tbl_mem (i := 862) (by decide +kernel) rfl
theorem wd_863 : (Cond.fieldLink "HoldMapsModel" 23 "HoldMapsModel" "roots" "[Z") ∈ tbl := tbl_mem (i := 863) (by decide +kernel) rfl
theorem wd_864 : (Cond.fieldLink "HoldMapsModel" 26 "HoldMapsModel" "held" "[Z") ∈ tbl := tbl_mem (i := 864) (by decide +kernel) rfl
theorem wd_865 : (Cond.fieldLink "HoldMapsModel" 147 "HoldMapsModel" "collected" "I") ∈ tbl := tbl_mem (i := 865) (by decide +kernel) rfl
theorem wd_866 : (Cond.fieldLink "HoldMapsModel" 29 "HoldMapsModel" "keys" "[I") ∈ tbl := tbl_mem (i := 866) (by decide +kernel) rfl
theorem wd_867 : (Cond.fieldLink "HoldMapsModel" 32 "HoldMapsModel" "what" "[I") ∈ tbl := tbl_mem (i := 867) (by decide +kernel) rfl
theorem wd_868 : (Cond.fieldLink "HoldMapsModel" 35 "HoldMapsModel" "uses" "[I") ∈ tbl := tbl_mem (i := 868) (by decide +kernel) rfl
theorem wd_869 : (Cond.fieldLink "HoldMapsModel" 38 "HoldMapsModel" "sizes" "[I") ∈ tbl := tbl_mem (i := 869) (by decide +kernel) rfl
theorem wd_870 : (Cond.fieldLink "HoldMapsModel" 41 "HoldMapsModel" "buckets" "I") ∈ tbl := tbl_mem (i := 870) (by decide +kernel) rfl
theorem wd_871 : (Cond.fieldLink "HoldMapsModel" 45 "HoldMapsModel" "old" "[I") ∈ tbl := tbl_mem (i := 871) (by decide +kernel) rfl
theorem wd_872 : (Cond.fieldLink "HoldMapsModel" 93 "HoldMapsModel" "time" "I") ∈ tbl := tbl_mem (i := 872) (by decide +kernel) rfl
theorem wd_873 : (Cond.fieldLink "HoldMapsModel" 48 "HoldMapsModel" "walks" "[Z") ∈ tbl := tbl_mem (i := 873) (by decide +kernel) rfl
theorem wd_874 : (Cond.fieldLink "HoldMapsModel" 51 "HoldMapsModel" "broken" "[Z") ∈ tbl := tbl_mem (i := 874) (by decide +kernel) rfl
theorem wd_875 : (Cond.fieldLink "HoldMapsModel" 54 "HoldMapsModel" "at" "[I") ∈ tbl := tbl_mem (i := 875) (by decide +kernel) rfl
theorem wd_876 : (Cond.lays "HoldMapsModel" "HoldMapsModel" "refusal" "I") ∈ tbl := tbl_mem (i := 876) (by decide +kernel) rfl
theorem wd_877 : (Cond.soleField "HoldMapsModel" "refusal") ∈ tbl := tbl_mem (i := 877) (by decide +kernel) rfl
theorem wd_878 : (Cond.lays "HoldMapsModel" "HoldMapsModel" "values" "[I") ∈ tbl := tbl_mem (i := 878) (by decide +kernel) rfl
theorem wd_879 : (Cond.soleField "HoldMapsModel" "values") ∈ tbl := tbl_mem (i := 879) (by decide +kernel) rfl
theorem wd_880 : (Cond.lays "HoldMapsModel" "HoldMapsModel" "first" "[I") ∈ tbl := tbl_mem (i := 880) (by decide +kernel) rfl
theorem wd_881 : (Cond.soleField "HoldMapsModel" "first") ∈ tbl := tbl_mem (i := 881) (by decide +kernel) rfl
theorem wd_882 : (Cond.lays "HoldMapsModel" "HoldMapsModel" "second" "[I") ∈ tbl := tbl_mem (i := 882) (by decide +kernel) rfl
theorem wd_883 : (Cond.soleField "HoldMapsModel" "second") ∈ tbl := tbl_mem (i := 883) (by decide +kernel) rfl
theorem wd_884 : (Cond.lays "HoldMapsModel" "HoldMapsModel" "there" "[Z") ∈ tbl := tbl_mem (i := 884) (by decide +kernel) rfl
theorem wd_885 : (Cond.soleField "HoldMapsModel" "there") ∈ tbl := tbl_mem (i := 885) (by decide +kernel) rfl
theorem wd_886 : (Cond.lays "HoldMapsModel" "HoldMapsModel" "roots" "[Z") ∈ tbl := tbl_mem (i := 886) (by decide +kernel) rfl
theorem wd_887 : (Cond.soleField "HoldMapsModel" "roots") ∈ tbl := tbl_mem (i := 887) (by decide +kernel) rfl
theorem wd_888 : (Cond.lays "HoldMapsModel" "HoldMapsModel" "held" "[Z") ∈ tbl := tbl_mem (i := 888) (by decide +kernel) rfl
theorem wd_889 : (Cond.soleField "HoldMapsModel" "held") ∈ tbl := tbl_mem (i := 889) (by decide +kernel) rfl
theorem wd_890 : (Cond.lays "HoldMapsModel" "HoldMapsModel" "collected" "I") ∈ tbl := tbl_mem (i := 890) (by decide +kernel) rfl
theorem wd_891 : (Cond.soleField "HoldMapsModel" "collected") ∈ tbl := tbl_mem (i := 891) (by decide +kernel) rfl
theorem wd_892 : (Cond.lays "HoldMapsModel" "HoldMapsModel" "keys" "[I") ∈ tbl := tbl_mem (i := 892) (by decide +kernel) rfl
theorem wd_893 : (Cond.soleField "HoldMapsModel" "keys") ∈ tbl := tbl_mem (i := 893) (by decide +kernel) rfl
theorem wd_894 : (Cond.lays "HoldMapsModel" "HoldMapsModel" "what" "[I") ∈ tbl := tbl_mem (i := 894) (by decide +kernel) rfl
theorem wd_895 : (Cond.soleField "HoldMapsModel" "what") ∈ tbl := tbl_mem (i := 895) (by decide +kernel) rfl
theorem wd_896 : (Cond.lays "HoldMapsModel" "HoldMapsModel" "uses" "[I") ∈ tbl := tbl_mem (i := 896) (by decide +kernel) rfl
theorem wd_897 : (Cond.soleField "HoldMapsModel" "uses") ∈ tbl := tbl_mem (i := 897) (by decide +kernel) rfl
theorem wd_898 : (Cond.lays "HoldMapsModel" "HoldMapsModel" "sizes" "[I") ∈ tbl := tbl_mem (i := 898) (by decide +kernel) rfl
theorem wd_899 : (Cond.soleField "HoldMapsModel" "sizes") ∈ tbl := tbl_mem (i := 899) (by decide +kernel) rfl
theorem wd_900 : (Cond.lays "HoldMapsModel" "HoldMapsModel" "buckets" "I") ∈ tbl := tbl_mem (i := 900) (by decide +kernel) rfl
theorem wd_901 : (Cond.soleField "HoldMapsModel" "buckets") ∈ tbl := tbl_mem (i := 901) (by decide +kernel) rfl
theorem wd_902 : (Cond.lays "HoldMapsModel" "HoldMapsModel" "old" "[I") ∈ tbl := tbl_mem (i := 902) (by decide +kernel) rfl
theorem wd_903 : (Cond.soleField "HoldMapsModel" "old") ∈ tbl := tbl_mem (i := 903) (by decide +kernel) rfl
theorem wd_904 : (Cond.lays "HoldMapsModel" "HoldMapsModel" "time" "I") ∈ tbl := tbl_mem (i := 904) (by decide +kernel) rfl
theorem wd_905 : (Cond.soleField "HoldMapsModel" "time") ∈ tbl := tbl_mem (i := 905) (by decide +kernel) rfl
theorem wd_906 : (Cond.lays "HoldMapsModel" "HoldMapsModel" "walks" "[Z") ∈ tbl := tbl_mem (i := 906) (by decide +kernel) rfl
theorem wd_907 : (Cond.soleField "HoldMapsModel" "walks") ∈ tbl := tbl_mem (i := 907) (by decide +kernel) rfl
theorem wd_908 : (Cond.lays "HoldMapsModel" "HoldMapsModel" "broken" "[Z") ∈ tbl := tbl_mem (i := 908) (by decide +kernel) rfl
theorem wd_909 : (Cond.soleField "HoldMapsModel" "broken") ∈ tbl := tbl_mem (i := 909) (by decide +kernel) rfl
theorem wd_910 : (Cond.lays "HoldMapsModel" "HoldMapsModel" "at" "[I") ∈ tbl := tbl_mem (i := 910) (by decide +kernel) rfl
theorem wd_911 : (Cond.soleField "HoldMapsModel" "at") ∈ tbl := tbl_mem (i := 911) (by decide +kernel) rfl
theorem wd_912 : (Cond.superclass "HoldMapsModel" "java/lang/Object") ∈ tbl := tbl_mem (i := 912) (by decide +kernel) rfl
theorem wd_913 : (Cond.arrayClass FieldType.boolean) ∈ tbl := tbl_mem (i := 913) (by decide +kernel) rfl
theorem wd_914 : (Cond.methodLink "HoldMapsLaw" 60 ({ cls := "HoldMapsModel", name := "thrown", desc := "()I" } : MethodName)) ∈ tbl := tbl_mem (i := 914) (by decide +kernel) rfl
theorem wd_915 : (Cond.instanceMethod ({ cls := "HoldMapsModel", name := "thrown", desc := "()I" } : MethodName)) ∈ tbl := tbl_mem (i := 915) (by decide +kernel) rfl
theorem wd_916 : (Cond.selects "HoldMapsModel" ({ cls := "HoldMapsModel", name := "thrown", desc := "()I" } : MethodName) ({ cls := "HoldMapsModel", name := "thrown", desc := "()I" } : MethodName)) ∈ tbl := tbl_mem (i := 916) (by decide +kernel) rfl
theorem wd_917 : (Cond.code ({ cls := "HoldMapsModel", name := "thrown", desc := "()I" } : MethodName) prog_13_method_2_code 1 (some FieldType.int)) ∈ tbl := tbl_mem (i := 917) (by decide +kernel) rfl
theorem wd_918 : (Cond.methodLink "HoldMapsLaw" 59 ({ cls := "HoldMapsModel", name := "make", desc := "(I)I" } : MethodName)) ∈ tbl := tbl_mem (i := 918) (by decide +kernel) rfl
theorem wd_919 : (Cond.instanceMethod ({ cls := "HoldMapsModel", name := "make", desc := "(I)I" } : MethodName)) ∈ tbl := tbl_mem (i := 919) (by decide +kernel) rfl
theorem wd_920 : (Cond.selects "HoldMapsModel" ({ cls := "HoldMapsModel", name := "make", desc := "(I)I" } : MethodName) ({ cls := "HoldMapsModel", name := "make", desc := "(I)I" } : MethodName)) ∈ tbl := tbl_mem (i := 920) (by decide +kernel) rfl
theorem wd_921 : (Cond.code ({ cls := "HoldMapsModel", name := "make", desc := "(I)I" } : MethodName) prog_13_method_5_code 3 (some FieldType.int)) ∈ tbl := tbl_mem (i := 921) (by decide +kernel) rfl
theorem wd_922 : (Cond.methodLink "HoldMapsModel" 60 ({ cls := "HoldMapsModel", name := "refuse", desc := "(I)I" } : MethodName)) ∈ tbl := tbl_mem (i := 922) (by decide +kernel) rfl
theorem wd_923 : (Cond.privateMethod ({ cls := "HoldMapsModel", name := "refuse", desc := "(I)I" } : MethodName)) ∈ tbl := tbl_mem (i := 923) (by decide +kernel) rfl
theorem wd_924 : (Cond.instanceMethod ({ cls := "HoldMapsModel", name := "refuse", desc := "(I)I" } : MethodName)) ∈ tbl := tbl_mem (i := 924) (by decide +kernel) rfl
theorem wd_925 : (Cond.code ({ cls := "HoldMapsModel", name := "refuse", desc := "(I)I" } : MethodName) prog_13_method_3_code 2 (some FieldType.int)) ∈ tbl := tbl_mem (i := 925) (by decide +kernel) rfl
theorem wd_926 : (Cond.methodLink "HoldMapsLaw" 67 ({ cls := "HoldMapsModel", name := "refer", desc := "(III)I" } : MethodName)) ∈ tbl := tbl_mem (i := 926) (by decide +kernel) rfl
theorem wd_927 : (Cond.instanceMethod ({ cls := "HoldMapsModel", name := "refer", desc := "(III)I" } : MethodName)) ∈ tbl := tbl_mem (i := 927) (by decide +kernel) rfl
theorem wd_928 : (Cond.selects "HoldMapsModel" ({ cls := "HoldMapsModel", name := "refer", desc := "(III)I" } : MethodName) ({ cls := "HoldMapsModel", name := "refer", desc := "(III)I" } : MethodName)) ∈ tbl := tbl_mem (i := 928) (by decide +kernel) rfl
theorem wd_929 : (Cond.code ({ cls := "HoldMapsModel", name := "refer", desc := "(III)I" } : MethodName) prog_13_method_6_code 5 (some FieldType.int)) ∈ tbl := tbl_mem (i := 929) (by decide +kernel) rfl
theorem wd_930 : (Cond.methodLink "HoldMapsModel" 64 ({ cls := "HoldMapsModel", name := "isObject", desc := "(I)Z" } : MethodName)) ∈ tbl := tbl_mem (i := 930) (by decide +kernel) rfl
theorem wd_931 : (Cond.privateMethod ({ cls := "HoldMapsModel", name := "isObject", desc := "(I)Z" } : MethodName)) ∈ tbl := tbl_mem (i := 931) (by decide +kernel) rfl
theorem wd_932 : (Cond.instanceMethod ({ cls := "HoldMapsModel", name := "isObject", desc := "(I)Z" } : MethodName)) ∈ tbl := tbl_mem (i := 932) (by decide +kernel) rfl
theorem wd_933 : (Cond.code ({ cls := "HoldMapsModel", name := "isObject", desc := "(I)Z" } : MethodName) prog_13_method_4_code 2 (some FieldType.boolean)) ∈ tbl := tbl_mem (i := 933) (by decide +kernel) rfl
theorem wd_934 : (Cond.methodLink "HoldMapsLaw" 71 ({ cls := "HoldMapsModel", name := "root", desc := "(IZ)Z" } : MethodName)) ∈ tbl := tbl_mem (i := 934) (by decide +kernel) rfl
theorem wd_935 : (Cond.instanceMethod ({ cls := "HoldMapsModel", name := "root", desc := "(IZ)Z" } : MethodName)) ∈ tbl := tbl_mem (i := 935) (by decide +kernel) rfl
theorem wd_936 : (Cond.selects "HoldMapsModel" ({ cls := "HoldMapsModel", name := "root", desc := "(IZ)Z" } : MethodName) ({ cls := "HoldMapsModel", name := "root", desc := "(IZ)Z" } : MethodName)) ∈ tbl := tbl_mem (i := 936) (by decide +kernel) rfl
theorem wd_937 : (Cond.code ({ cls := "HoldMapsModel", name := "root", desc := "(IZ)Z" } : MethodName) prog_13_method_7_code 4 (some FieldType.boolean)) ∈ tbl := tbl_mem (i := 937) (by decide +kernel) rfl
theorem wd_938 : (Cond.methodLink "HoldMapsLaw" 74 ({ cls := "HoldMapsModel", name := "put", desc := "(III)I" } : MethodName)) ∈ tbl := tbl_mem (i := 938) (by decide +kernel) rfl
theorem wd_939 : (Cond.instanceMethod ({ cls := "HoldMapsModel", name := "put", desc := "(III)I" } : MethodName)) ∈ tbl := tbl_mem (i := 939) (by decide +kernel) rfl
theorem wd_940 : (Cond.selects "HoldMapsModel" ({ cls := "HoldMapsModel", name := "put", desc := "(III)I" } : MethodName) ({ cls := "HoldMapsModel", name := "put", desc := "(III)I" } : MethodName)) ∈ tbl := tbl_mem (i := 940) (by decide +kernel) rfl
theorem wd_941 : (Cond.code ({ cls := "HoldMapsModel", name := "put", desc := "(III)I" } : MethodName) prog_13_method_26_code 6 (some FieldType.int)) ∈ tbl := tbl_mem (i := 941) (by decide +kernel) rfl
theorem wd_942 : (Cond.methodLink "HoldMapsModel" 112 ({ cls := "HoldMapsModel", name := "isMap", desc := "(I)Z" } : MethodName)) ∈ tbl := tbl_mem (i := 942) (by decide +kernel) rfl
theorem wd_943 : (Cond.privateMethod ({ cls := "HoldMapsModel", name := "isMap", desc := "(I)Z" } : MethodName)) ∈ tbl := tbl_mem (i := 943) (by decide +kernel) rfl
theorem wd_944 : (Cond.instanceMethod ({ cls := "HoldMapsModel", name := "isMap", desc := "(I)Z" } : MethodName)) ∈ tbl := tbl_mem (i := 944) (by decide +kernel) rfl
theorem wd_945 : (Cond.code ({ cls := "HoldMapsModel", name := "isMap", desc := "(I)Z" } : MethodName) prog_13_method_21_code 2 (some FieldType.boolean)) ∈ tbl := tbl_mem (i := 945) (by decide +kernel) rfl
theorem wd_946 : (Cond.methodLink "HoldMapsModel" 115 ({ cls := "HoldMapsModel", name := "isKey", desc := "(II)Z" } : MethodName)) ∈ tbl := tbl_mem (i := 946) (by decide +kernel) rfl
theorem wd_947 : (Cond.privateMethod ({ cls := "HoldMapsModel", name := "isKey", desc := "(II)Z" } : MethodName)) ∈ tbl := tbl_mem (i := 947) (by decide +kernel) rfl
theorem wd_948 : (Cond.instanceMethod ({ cls := "HoldMapsModel", name := "isKey", desc := "(II)Z" } : MethodName)) ∈ tbl := tbl_mem (i := 948) (by decide +kernel) rfl
theorem wd_949 : (Cond.code ({ cls := "HoldMapsModel", name := "isKey", desc := "(II)Z" } : MethodName) prog_13_method_22_code 3 (some FieldType.boolean)) ∈ tbl := tbl_mem (i := 949) (by decide +kernel) rfl
theorem wd_950 : (Cond.methodLink "HoldMapsModel" 119 ({ cls := "HoldMapsModel", name := "find", desc := "(II)I" } : MethodName)) ∈ tbl := tbl_mem (i := 950) (by decide +kernel) rfl
theorem wd_951 : (Cond.privateMethod ({ cls := "HoldMapsModel", name := "find", desc := "(II)I" } : MethodName)) ∈ tbl := tbl_mem (i := 951) (by decide +kernel) rfl
theorem wd_952 : (Cond.instanceMethod ({ cls := "HoldMapsModel", name := "find", desc := "(II)I" } : MethodName)) ∈ tbl := tbl_mem (i := 952) (by decide +kernel) rfl
theorem wd_953 : (Cond.code ({ cls := "HoldMapsModel", name := "find", desc := "(II)I" } : MethodName) prog_13_method_11_code 5 (some FieldType.int)) ∈ tbl := tbl_mem (i := 953) (by decide +kernel) rfl
theorem wd_954 : (Cond.methodLink "HoldMapsModel" 68 ({ cls := "HoldMapsModel", name := "end", desc := "(I)I" } : MethodName)) ∈ tbl := tbl_mem (i := 954) (by decide +kernel) rfl
theorem wd_955 : (Cond.privateMethod ({ cls := "HoldMapsModel", name := "end", desc := "(I)I" } : MethodName)) ∈ tbl := tbl_mem (i := 955) (by decide +kernel) rfl
theorem wd_956 : (Cond.instanceMethod ({ cls := "HoldMapsModel", name := "end", desc := "(I)I" } : MethodName)) ∈ tbl := tbl_mem (i := 956) (by decide +kernel) rfl
theorem wd_957 : (Cond.code ({ cls := "HoldMapsModel", name := "end", desc := "(I)I" } : MethodName) prog_13_method_9_code 2 (some FieldType.int)) ∈ tbl := tbl_mem (i := 957) (by decide +kernel) rfl
theorem wd_958 : (Cond.methodLink "HoldMapsModel" 71 ({ cls := "HoldMapsModel", name := "isSame", desc := "(III)Z" } : MethodName)) ∈ tbl := tbl_mem (i := 958) (by decide +kernel) rfl
theorem wd_959 : (Cond.privateMethod ({ cls := "HoldMapsModel", name := "isSame", desc := "(III)Z" } : MethodName)) ∈ tbl := tbl_mem (i := 959) (by decide +kernel) rfl
theorem wd_960 : (Cond.instanceMethod ({ cls := "HoldMapsModel", name := "isSame", desc := "(III)Z" } : MethodName)) ∈ tbl := tbl_mem (i := 960) (by decide +kernel) rfl
theorem wd_961 : (Cond.code ({ cls := "HoldMapsModel", name := "isSame", desc := "(III)Z" } : MethodName) prog_13_method_10_code 4 (some FieldType.boolean)) ∈ tbl := tbl_mem (i := 961) (by decide +kernel) rfl
theorem wd_962 : (Cond.methodLink "HoldMapsModel" 123 ({ cls := "HoldMapsModel", name := "comes", desc := "(III)V" } : MethodName)) ∈ tbl := tbl_mem (i := 962) (by decide +kernel) rfl
theorem wd_963 : (Cond.privateMethod ({ cls := "HoldMapsModel", name := "comes", desc := "(III)V" } : MethodName)) ∈ tbl := tbl_mem (i := 963) (by decide +kernel) rfl
theorem wd_964 : (Cond.instanceMethod ({ cls := "HoldMapsModel", name := "comes", desc := "(III)V" } : MethodName)) ∈ tbl := tbl_mem (i := 964) (by decide +kernel) rfl
theorem wd_965 : (Cond.code ({ cls := "HoldMapsModel", name := "comes", desc := "(III)V" } : MethodName) prog_13_method_24_code 4 none) ∈ tbl := tbl_mem (i := 965) (by decide +kernel) rfl
theorem wd_966 : (Cond.methodLink "HoldMapsModel" 99 ({ cls := "HoldMapsModel", name := "change", desc := "(I)V" } : MethodName)) ∈ tbl := tbl_mem (i := 966) (by decide +kernel) rfl
theorem wd_967 : (Cond.privateMethod ({ cls := "HoldMapsModel", name := "change", desc := "(I)V" } : MethodName)) ∈ tbl := tbl_mem (i := 967) (by decide +kernel) rfl
theorem wd_968 : (Cond.instanceMethod ({ cls := "HoldMapsModel", name := "change", desc := "(I)V" } : MethodName)) ∈ tbl := tbl_mem (i := 968) (by decide +kernel) rfl
theorem wd_969 : (Cond.code ({ cls := "HoldMapsModel", name := "change", desc := "(I)V" } : MethodName) prog_13_method_8_code 2 none) ∈ tbl := tbl_mem (i := 969) (by decide +kernel) rfl
theorem wd_970 : (Cond.methodLink "HoldMapsModel" 86 ({ cls := "HoldMapsModel", name := "putWeak", desc := "(II)V" } : MethodName)) ∈ tbl := tbl_mem (i := 970) (by decide +kernel) rfl
theorem wd_971 : (Cond.privateMethod ({ cls := "HoldMapsModel", name := "putWeak", desc := "(II)V" } : MethodName)) ∈ tbl := tbl_mem (i := 971) (by decide +kernel) rfl
theorem wd_972 : (Cond.instanceMethod ({ cls := "HoldMapsModel", name := "putWeak", desc := "(II)V" } : MethodName)) ∈ tbl := tbl_mem (i := 972) (by decide +kernel) rfl
theorem wd_973 : (Cond.code ({ cls := "HoldMapsModel", name := "putWeak", desc := "(II)V" } : MethodName) prog_13_method_16_code 5 none) ∈ tbl := tbl_mem (i := 973) (by decide +kernel) rfl
theorem wd_974 : (Cond.methodLink "HoldMapsModel" 79 ({ cls := "HoldMapsModel", name := "bucketOf", desc := "(I)I" } : MethodName)) ∈ tbl := tbl_mem (i := 974) (by decide +kernel) rfl
theorem wd_975 : (Cond.privateMethod ({ cls := "HoldMapsModel", name := "bucketOf", desc := "(I)I" } : MethodName)) ∈ tbl := tbl_mem (i := 975) (by decide +kernel) rfl
theorem wd_976 : (Cond.instanceMethod ({ cls := "HoldMapsModel", name := "bucketOf", desc := "(I)I" } : MethodName)) ∈ tbl := tbl_mem (i := 976) (by decide +kernel) rfl
theorem wd_977 : (Cond.code ({ cls := "HoldMapsModel", name := "bucketOf", desc := "(I)I" } : MethodName) prog_13_method_15_code 2 (some FieldType.int)) ∈ tbl := tbl_mem (i := 977) (by decide +kernel) rfl
theorem wd_978 : (Cond.methodLink "HoldMapsModel" 82 ({ cls := "HoldMapsModel", name := "open", desc := "(IIII)V" } : MethodName)) ∈ tbl := tbl_mem (i := 978) (by decide +kernel) rfl
theorem wd_979 : (Cond.privateMethod ({ cls := "HoldMapsModel", name := "open", desc := "(IIII)V" } : MethodName)) ∈ tbl := tbl_mem (i := 979) (by decide +kernel) rfl
theorem wd_980 : (Cond.instanceMethod ({ cls := "HoldMapsModel", name := "open", desc := "(IIII)V" } : MethodName)) ∈ tbl := tbl_mem (i := 980) (by decide +kernel) rfl
theorem wd_981 : (Cond.code ({ cls := "HoldMapsModel", name := "open", desc := "(IIII)V" } : MethodName) prog_13_method_13_code 6 none) ∈ tbl := tbl_mem (i := 981) (by decide +kernel) rfl
theorem wd_982 : (Cond.methodLink "HoldMapsModel" 75 ({ cls := "HoldMapsModel", name := "set", desc := "(III)V" } : MethodName)) ∈ tbl := tbl_mem (i := 982) (by decide +kernel) rfl
theorem wd_983 : (Cond.privateMethod ({ cls := "HoldMapsModel", name := "set", desc := "(III)V" } : MethodName)) ∈ tbl := tbl_mem (i := 983) (by decide +kernel) rfl
theorem wd_984 : (Cond.instanceMethod ({ cls := "HoldMapsModel", name := "set", desc := "(III)V" } : MethodName)) ∈ tbl := tbl_mem (i := 984) (by decide +kernel) rfl
theorem wd_985 : (Cond.code ({ cls := "HoldMapsModel", name := "set", desc := "(III)V" } : MethodName) prog_13_method_12_code 4 none) ∈ tbl := tbl_mem (i := 985) (by decide +kernel) rfl
theorem wd_986 : (Cond.methodLink "HoldMapsModel" 103 ({ cls := "HoldMapsModel", name := "doubleBuckets", desc := "()V" } : MethodName)) ∈ tbl := tbl_mem (i := 986) (by decide +kernel) rfl
theorem wd_987 : (Cond.privateMethod ({ cls := "HoldMapsModel", name := "doubleBuckets", desc := "()V" } : MethodName)) ∈ tbl := tbl_mem (i := 987) (by decide +kernel) rfl
theorem wd_988 : (Cond.instanceMethod ({ cls := "HoldMapsModel", name := "doubleBuckets", desc := "()V" } : MethodName)) ∈ tbl := tbl_mem (i := 988) (by decide +kernel) rfl
theorem wd_989 : (Cond.code ({ cls := "HoldMapsModel", name := "doubleBuckets", desc := "()V" } : MethodName) prog_13_method_17_code 3 none) ∈ tbl := tbl_mem (i := 989) (by decide +kernel) rfl
theorem wd_990 : (Cond.methodLink "HoldMapsModel" 106 ({ cls := "HoldMapsModel", name := "putIdentity", desc := "(II)V" } : MethodName)) ∈ tbl := tbl_mem (i := 990) (by decide +kernel) rfl
theorem wd_991 : (Cond.privateMethod ({ cls := "HoldMapsModel", name := "putIdentity", desc := "(II)V" } : MethodName)) ∈ tbl := tbl_mem (i := 991) (by decide +kernel) rfl
theorem wd_992 : (Cond.instanceMethod ({ cls := "HoldMapsModel", name := "putIdentity", desc := "(II)V" } : MethodName)) ∈ tbl := tbl_mem (i := 992) (by decide +kernel) rfl
theorem wd_993 : (Cond.code ({ cls := "HoldMapsModel", name := "putIdentity", desc := "(II)V" } : MethodName) prog_13_method_19_code 4 none) ∈ tbl := tbl_mem (i := 993) (by decide +kernel) rfl
theorem wd_994 : (Cond.methodLink "HoldMapsModel" 90 ({ cls := "HoldMapsModel", name := "slotOf", desc := "(I)I" } : MethodName)) ∈ tbl := tbl_mem (i := 994) (by decide +kernel) rfl
theorem wd_995 : (Cond.static ({ cls := "HoldMapsModel", name := "slotOf", desc := "(I)I" } : MethodName)) ∈ tbl := tbl_mem (i := 995) (by decide +kernel) rfl
theorem wd_996 : (Cond.code ({ cls := "HoldMapsModel", name := "slotOf", desc := "(I)I" } : MethodName) prog_13_method_18_code 1 (some FieldType.int)) ∈ tbl := tbl_mem (i := 996) (by decide +kernel) rfl
theorem wd_997 : (Cond.methodLink "HoldMapsModel" 96 ({ cls := "HoldMapsModel", name := "close", desc := "(II)V" } : MethodName)) ∈ tbl := tbl_mem (i := 997) (by decide +kernel) rfl
theorem wd_998 : (Cond.privateMethod ({ cls := "HoldMapsModel", name := "close", desc := "(II)V" } : MethodName)) ∈ tbl := tbl_mem (i := 998) (by decide +kernel) rfl
theorem wd_999 : (Cond.instanceMethod ({ cls := "HoldMapsModel", name := "close", desc := "(II)V" } : MethodName)) ∈ tbl := tbl_mem (i := 999) (by decide +kernel) rfl
theorem wd_1000 : (Cond.code ({ cls := "HoldMapsModel", name := "close", desc := "(II)V" } : MethodName) prog_13_method_14_code 4 none) ∈ tbl := tbl_mem (i := 1000) (by decide +kernel) rfl
theorem wd_1001 : (Cond.methodLink "HoldMapsModel" 126 ({ cls := "HoldMapsModel", name := "use", desc := "(II)V" } : MethodName)) ∈ tbl := tbl_mem (i := 1001) (by decide +kernel) rfl
theorem wd_1002 : (Cond.privateMethod ({ cls := "HoldMapsModel", name := "use", desc := "(II)V" } : MethodName)) ∈ tbl := tbl_mem (i := 1002) (by decide +kernel) rfl
theorem wd_1003 : (Cond.instanceMethod ({ cls := "HoldMapsModel", name := "use", desc := "(II)V" } : MethodName)) ∈ tbl := tbl_mem (i := 1003) (by decide +kernel) rfl
theorem wd_1004 : (Cond.code ({ cls := "HoldMapsModel", name := "use", desc := "(II)V" } : MethodName) prog_13_method_23_code 5 none) ∈ tbl := tbl_mem (i := 1004) (by decide +kernel) rfl
theorem wd_1005 : (Cond.methodLink "HoldMapsLaw" 78 ({ cls := "HoldMapsModel", name := "get", desc := "(II)I" } : MethodName)) ∈ tbl := tbl_mem (i := 1005) (by decide +kernel) rfl
theorem wd_1006 : (Cond.instanceMethod ({ cls := "HoldMapsModel", name := "get", desc := "(II)I" } : MethodName)) ∈ tbl := tbl_mem (i := 1006) (by decide +kernel) rfl
theorem wd_1007 : (Cond.selects "HoldMapsModel" ({ cls := "HoldMapsModel", name := "get", desc := "(II)I" } : MethodName) ({ cls := "HoldMapsModel", name := "get", desc := "(II)I" } : MethodName)) ∈ tbl := tbl_mem (i := 1007) (by decide +kernel) rfl
theorem wd_1008 : (Cond.code ({ cls := "HoldMapsModel", name := "get", desc := "(II)I" } : MethodName) prog_13_method_27_code 5 (some FieldType.int)) ∈ tbl := tbl_mem (i := 1008) (by decide +kernel) rfl
theorem wd_1009 : (Cond.methodLink "HoldMapsLaw" 81 ({ cls := "HoldMapsModel", name := "remove", desc := "(II)I" } : MethodName)) ∈ tbl := tbl_mem (i := 1009) (by decide +kernel) rfl
theorem wd_1010 : (Cond.instanceMethod ({ cls := "HoldMapsModel", name := "remove", desc := "(II)I" } : MethodName)) ∈ tbl := tbl_mem (i := 1010) (by decide +kernel) rfl
theorem wd_1011 : (Cond.selects "HoldMapsModel" ({ cls := "HoldMapsModel", name := "remove", desc := "(II)I" } : MethodName) ({ cls := "HoldMapsModel", name := "remove", desc := "(II)I" } : MethodName)) ∈ tbl := tbl_mem (i := 1011) (by decide +kernel) rfl
theorem wd_1012 : (Cond.code ({ cls := "HoldMapsModel", name := "remove", desc := "(II)I" } : MethodName) prog_13_method_28_code 5 (some FieldType.int)) ∈ tbl := tbl_mem (i := 1012) (by decide +kernel) rfl
theorem wd_1013 : (Cond.methodLink "HoldMapsModel" 129 ({ cls := "HoldMapsModel", name := "goes", desc := "(II)V" } : MethodName)) ∈ tbl := tbl_mem (i := 1013) (by decide +kernel) rfl
theorem wd_1014 : (Cond.privateMethod ({ cls := "HoldMapsModel", name := "goes", desc := "(II)V" } : MethodName)) ∈ tbl := tbl_mem (i := 1014) (by decide +kernel) rfl
theorem wd_1015 : (Cond.instanceMethod ({ cls := "HoldMapsModel", name := "goes", desc := "(II)V" } : MethodName)) ∈ tbl := tbl_mem (i := 1015) (by decide +kernel) rfl
theorem wd_1016 : (Cond.code ({ cls := "HoldMapsModel", name := "goes", desc := "(II)V" } : MethodName) prog_13_method_25_code 3 none) ∈ tbl := tbl_mem (i := 1016) (by decide +kernel) rfl
theorem wd_1017 : (Cond.methodLink "HoldMapsModel" 109 ({ cls := "HoldMapsModel", name := "takeIdentity", desc := "(I)V" } : MethodName)) ∈ tbl := tbl_mem (i := 1017) (by decide +kernel) rfl
theorem wd_1018 : (Cond.privateMethod ({ cls := "HoldMapsModel", name := "takeIdentity", desc := "(I)V" } : MethodName)) ∈ tbl := tbl_mem (i := 1018) (by decide +kernel) rfl
theorem wd_1019 : (Cond.instanceMethod ({ cls := "HoldMapsModel", name := "takeIdentity", desc := "(I)V" } : MethodName)) ∈ tbl := tbl_mem (i := 1019) (by decide +kernel) rfl
theorem wd_1020 : (Cond.code ({ cls := "HoldMapsModel", name := "takeIdentity", desc := "(I)V" } : MethodName) prog_13_method_20_code 7 none) ∈ tbl := tbl_mem (i := 1020) (by decide +kernel) rfl
theorem wd_1021 : (Cond.methodLink "HoldMapsLaw" 85 ({ cls := "HoldMapsModel", name := "size", desc := "(I)I" } : MethodName)) ∈ tbl := tbl_mem (i := 1021) (by decide +kernel) rfl
theorem wd_1022 : (Cond.instanceMethod ({ cls := "HoldMapsModel", name := "size", desc := "(I)I" } : MethodName)) ∈ tbl := tbl_mem (i := 1022) (by decide +kernel) rfl
theorem wd_1023 : (Cond.selects "HoldMapsModel" ({ cls := "HoldMapsModel", name := "size", desc := "(I)I" } : MethodName) ({ cls := "HoldMapsModel", name := "size", desc := "(I)I" } : MethodName)) ∈ tbl := tbl_mem (i := 1023) (by decide +kernel) rfl
theorem wd_1024 : (Cond.code ({ cls := "HoldMapsModel", name := "size", desc := "(I)I" } : MethodName) prog_13_method_29_code 2 (some FieldType.int)) ∈ tbl := tbl_mem (i := 1024) (by decide +kernel) rfl
theorem wd_1025 : (Cond.methodLink "HoldMapsLaw" 88 ({ cls := "HoldMapsModel", name := "entry", desc := "(III)I" } : MethodName)) ∈ tbl := tbl_mem (i := 1025) (by decide +kernel) rfl
theorem wd_1026 : (Cond.instanceMethod ({ cls := "HoldMapsModel", name := "entry", desc := "(III)I" } : MethodName)) ∈ tbl := tbl_mem (i := 1026) (by decide +kernel) rfl
theorem wd_1027 : (Cond.selects "HoldMapsModel" ({ cls := "HoldMapsModel", name := "entry", desc := "(III)I" } : MethodName) ({ cls := "HoldMapsModel", name := "entry", desc := "(III)I" } : MethodName)) ∈ tbl := tbl_mem (i := 1027) (by decide +kernel) rfl
theorem wd_1028 : (Cond.code ({ cls := "HoldMapsModel", name := "entry", desc := "(III)I" } : MethodName) prog_13_method_31_code 5 (some FieldType.int)) ∈ tbl := tbl_mem (i := 1028) (by decide +kernel) rfl
theorem wd_1029 : (Cond.methodLink "HoldMapsModel" 132 ({ cls := "HoldMapsModel", name := "placeOf", desc := "(II)I" } : MethodName)) ∈ tbl := tbl_mem (i := 1029) (by decide +kernel) rfl
theorem wd_1030 : (Cond.privateMethod ({ cls := "HoldMapsModel", name := "placeOf", desc := "(II)I" } : MethodName)) ∈ tbl := tbl_mem (i := 1030) (by decide +kernel) rfl
theorem wd_1031 : (Cond.instanceMethod ({ cls := "HoldMapsModel", name := "placeOf", desc := "(II)I" } : MethodName)) ∈ tbl := tbl_mem (i := 1031) (by decide +kernel) rfl
theorem wd_1032 : (Cond.code ({ cls := "HoldMapsModel", name := "placeOf", desc := "(II)I" } : MethodName) prog_13_method_30_code 5 (some FieldType.int)) ∈ tbl := tbl_mem (i := 1032) (by decide +kernel) rfl
theorem wd_1033 : (Cond.methodLink "HoldMapsLaw" 92 ({ cls := "HoldMapsModel", name := "walk", desc := "(I)V" } : MethodName)) ∈ tbl := tbl_mem (i := 1033) (by decide +kernel) rfl
theorem wd_1034 : (Cond.instanceMethod ({ cls := "HoldMapsModel", name := "walk", desc := "(I)V" } : MethodName)) ∈ tbl := tbl_mem (i := 1034) (by decide +kernel) rfl
theorem wd_1035 : (Cond.selects "HoldMapsModel" ({ cls := "HoldMapsModel", name := "walk", desc := "(I)V" } : MethodName) ({ cls := "HoldMapsModel", name := "walk", desc := "(I)V" } : MethodName)) ∈ tbl := tbl_mem (i := 1035) (by decide +kernel) rfl
theorem wd_1036 : (Cond.code ({ cls := "HoldMapsModel", name := "walk", desc := "(I)V" } : MethodName) prog_13_method_32_code 2 none) ∈ tbl := tbl_mem (i := 1036) (by decide +kernel) rfl
theorem wd_1037 : (Cond.methodLink "HoldMapsLaw" 95 ({ cls := "HoldMapsModel", name := "step", desc := "(I)I" } : MethodName)) ∈ tbl := tbl_mem (i := 1037) (by decide +kernel) rfl
theorem wd_1038 : (Cond.instanceMethod ({ cls := "HoldMapsModel", name := "step", desc := "(I)I" } : MethodName)) ∈ tbl := tbl_mem (i := 1038) (by decide +kernel) rfl
theorem wd_1039 : (Cond.selects "HoldMapsModel" ({ cls := "HoldMapsModel", name := "step", desc := "(I)I" } : MethodName) ({ cls := "HoldMapsModel", name := "step", desc := "(I)I" } : MethodName)) ∈ tbl := tbl_mem (i := 1039) (by decide +kernel) rfl
theorem wd_1040 : (Cond.code ({ cls := "HoldMapsModel", name := "step", desc := "(I)I" } : MethodName) prog_13_method_33_code 2 (some FieldType.int)) ∈ tbl := tbl_mem (i := 1040) (by decide +kernel) rfl
theorem wd_1041 : (Cond.methodLink "HoldMapsLaw" 98 ({ cls := "HoldMapsModel", name := "collect", desc := "(I)I" } : MethodName)) ∈ tbl := tbl_mem (i := 1041) (by decide +kernel) rfl
theorem wd_1042 : (Cond.instanceMethod ({ cls := "HoldMapsModel", name := "collect", desc := "(I)I" } : MethodName)) ∈ tbl := tbl_mem (i := 1042) (by decide +kernel) rfl
theorem wd_1043 : (Cond.selects "HoldMapsModel" ({ cls := "HoldMapsModel", name := "collect", desc := "(I)I" } : MethodName) ({ cls := "HoldMapsModel", name := "collect", desc := "(I)I" } : MethodName)) ∈ tbl := tbl_mem (i := 1043) (by decide +kernel) rfl
theorem wd_1044 : (Cond.code ({ cls := "HoldMapsModel", name := "collect", desc := "(I)I" } : MethodName) prog_13_method_38_code 4 (some FieldType.int)) ∈ tbl := tbl_mem (i := 1044) (by decide +kernel) rfl
theorem wd_1045 : (Cond.methodLink "HoldMapsModel" 141 ({ cls := "HoldMapsModel", name := "holdMaps", desc := "()V" } : MethodName)) ∈ tbl := tbl_mem (i := 1045) (by decide +kernel) rfl
theorem wd_1046 : (Cond.privateMethod ({ cls := "HoldMapsModel", name := "holdMaps", desc := "()V" } : MethodName)) ∈ tbl := tbl_mem (i := 1046) (by decide +kernel) rfl
theorem wd_1047 : (Cond.instanceMethod ({ cls := "HoldMapsModel", name := "holdMaps", desc := "()V" } : MethodName)) ∈ tbl := tbl_mem (i := 1047) (by decide +kernel) rfl
theorem wd_1048 : (Cond.code ({ cls := "HoldMapsModel", name := "holdMaps", desc := "()V" } : MethodName) prog_13_method_36_code 3 none) ∈ tbl := tbl_mem (i := 1048) (by decide +kernel) rfl
theorem wd_1049 : (Cond.methodLink "HoldMapsModel" 135 ({ cls := "HoldMapsModel", name := "hold", desc := "(I)V" } : MethodName)) ∈ tbl := tbl_mem (i := 1049) (by decide +kernel) rfl
theorem wd_1050 : (Cond.privateMethod ({ cls := "HoldMapsModel", name := "hold", desc := "(I)V" } : MethodName)) ∈ tbl := tbl_mem (i := 1050) (by decide +kernel) rfl
theorem wd_1051 : (Cond.instanceMethod ({ cls := "HoldMapsModel", name := "hold", desc := "(I)V" } : MethodName)) ∈ tbl := tbl_mem (i := 1051) (by decide +kernel) rfl
theorem wd_1052 : (Cond.code ({ cls := "HoldMapsModel", name := "hold", desc := "(I)V" } : MethodName) prog_13_method_34_code 2 none) ∈ tbl := tbl_mem (i := 1052) (by decide +kernel) rfl
theorem wd_1053 : (Cond.methodLink "HoldMapsModel" 138 ({ cls := "HoldMapsModel", name := "spread", desc := "()V" } : MethodName)) ∈ tbl := tbl_mem (i := 1053) (by decide +kernel) rfl
theorem wd_1054 : (Cond.privateMethod ({ cls := "HoldMapsModel", name := "spread", desc := "()V" } : MethodName)) ∈ tbl := tbl_mem (i := 1054) (by decide +kernel) rfl
theorem wd_1055 : (Cond.instanceMethod ({ cls := "HoldMapsModel", name := "spread", desc := "()V" } : MethodName)) ∈ tbl := tbl_mem (i := 1055) (by decide +kernel) rfl
theorem wd_1056 : (Cond.code ({ cls := "HoldMapsModel", name := "spread", desc := "()V" } : MethodName) prog_13_method_35_code 3 none) ∈ tbl := tbl_mem (i := 1056) (by decide +kernel) rfl
theorem wd_1057 : (Cond.methodLink "HoldMapsModel" 144 ({ cls := "HoldMapsModel", name := "soften", desc := "(I)V" } : MethodName)) ∈ tbl := tbl_mem (i := 1057) (by decide +kernel) rfl
theorem wd_1058 : (Cond.privateMethod ({ cls := "HoldMapsModel", name := "soften", desc := "(I)V" } : MethodName)) ∈ tbl := tbl_mem (i := 1058) (by decide +kernel) rfl
theorem wd_1059 : (Cond.instanceMethod ({ cls := "HoldMapsModel", name := "soften", desc := "(I)V" } : MethodName)) ∈ tbl := tbl_mem (i := 1059) (by decide +kernel) rfl
theorem wd_1060 : (Cond.code ({ cls := "HoldMapsModel", name := "soften", desc := "(I)V" } : MethodName) prog_13_method_37_code 6 none) ∈ tbl := tbl_mem (i := 1060) (by decide +kernel) rfl
theorem wd_1061 : (Cond.methodLink "HoldMapsLaw" 102 ({ cls := "HoldMapsModel", name := "value", desc := "(I)I" } : MethodName)) ∈ tbl := tbl_mem (i := 1061) (by decide +kernel) rfl
theorem wd_1062 : (Cond.instanceMethod ({ cls := "HoldMapsModel", name := "value", desc := "(I)I" } : MethodName)) ∈ tbl := tbl_mem (i := 1062) (by decide +kernel) rfl
theorem wd_1063 : (Cond.selects "HoldMapsModel" ({ cls := "HoldMapsModel", name := "value", desc := "(I)I" } : MethodName) ({ cls := "HoldMapsModel", name := "value", desc := "(I)I" } : MethodName)) ∈ tbl := tbl_mem (i := 1063) (by decide +kernel) rfl
theorem wd_1064 : (Cond.code ({ cls := "HoldMapsModel", name := "value", desc := "(I)I" } : MethodName) prog_13_method_39_code 2 (some FieldType.int)) ∈ tbl := tbl_mem (i := 1064) (by decide +kernel) rfl
theorem wd_1065 : (Cond.methodLink "HoldMapsLaw" 106 ({ cls := "HoldMapsModel", name := "count", desc := "(I)I" } : MethodName)) ∈ tbl := tbl_mem (i := 1065) (by decide +kernel) rfl
theorem wd_1066 : (Cond.instanceMethod ({ cls := "HoldMapsModel", name := "count", desc := "(I)I" } : MethodName)) ∈ tbl := tbl_mem (i := 1066) (by decide +kernel) rfl
theorem wd_1067 : (Cond.selects "HoldMapsModel" ({ cls := "HoldMapsModel", name := "count", desc := "(I)I" } : MethodName) ({ cls := "HoldMapsModel", name := "count", desc := "(I)I" } : MethodName)) ∈ tbl := tbl_mem (i := 1067) (by decide +kernel) rfl
theorem wd_1068 : (Cond.code ({ cls := "HoldMapsModel", name := "count", desc := "(I)I" } : MethodName) prog_13_method_40_code 4 (some FieldType.int)) ∈ tbl := tbl_mem (i := 1068) (by decide +kernel) rfl
theorem wd_1069 : (Cond.arrayClass FieldType.long) ∈ tbl := tbl_mem (i := 1069) (by decide +kernel) rfl
theorem wd_1070 : (Cond.sameMethod "java/lang/Throwable" "java/lang/Throwable" "fillInStackTrace" "(I)Ljava/lang/Throwable;") ∈ tbl := tbl_mem (i := 1070) (by decide +kernel) rfl
theorem wd_1071 : (Cond.castable "HoldMaps$Entry" "HoldMaps$Entry") ∈ tbl := tbl_mem (i := 1071) (by decide +kernel) rfl
theorem wd_1072 : (Cond.sameMethod "[Ljava/lang/Object;" "java/lang/Object" "getClass" "()Ljava/lang/Class;") ∈ tbl := tbl_mem (i := 1072) (by decide +kernel) rfl
theorem wd_1073 : (Cond.selects "[Ljava/lang/Object;" ({ cls := "java/lang/Object", name := "getClass", desc := "()Ljava/lang/Class;" } : MethodName) ({ cls := "java/lang/Object", name := "getClass", desc := "()Ljava/lang/Class;" } : MethodName)) ∈ tbl := tbl_mem (i := 1073) (by decide +kernel) rfl
theorem wd_1074 : (Cond.declares ({ cls := "java/lang/Object", name := "getClass", desc := "()Ljava/lang/Class;" } : MethodName)) ∈ tbl := tbl_mem (i := 1074) (by decide +kernel) rfl
theorem wd_1075 : (Cond.castable "HoldMaps" "java/lang/Object") ∈ tbl := tbl_mem (i := 1075) (by decide +kernel) rfl
theorem wd_1076 : (Cond.castable "HoldMaps$Heap" "java/lang/Object") ∈ tbl := tbl_mem (i := 1076) (by decide +kernel) rfl
theorem wd_1077 : (Cond.castable "HoldMaps$WeakMap" "java/lang/Object") ∈ tbl := tbl_mem (i := 1077) (by decide +kernel) rfl
theorem wd_1078 : (Cond.castable "HoldMaps$SoftMap" "java/lang/Object") ∈ tbl := tbl_mem (i := 1078) (by decide +kernel) rfl
theorem wd_1079 : (Cond.castable "HoldMaps$IdentityMap" "java/lang/Object") ∈ tbl := tbl_mem (i := 1079) (by decide +kernel) rfl
theorem wd_1080 : (Cond.castable "HoldMaps$PlacesMap" "java/lang/Object") ∈ tbl := tbl_mem (i := 1080) (by decide +kernel) rfl
theorem wd_1081 : (Cond.castable "HoldMaps$LatestMap" "java/lang/Object") ∈ tbl := tbl_mem (i := 1081) (by decide +kernel) rfl
theorem wd_1082 : (Cond.castable "HoldMapsModel" "java/lang/Object") ∈ tbl := tbl_mem (i := 1082) (by decide +kernel) rfl
theorem wd_1083 : (Cond.castable "HoldMaps$Thing" "java/lang/Object") ∈ tbl := tbl_mem (i := 1083) (by decide +kernel) rfl
theorem wd_1084 : (Cond.castable "HoldMaps$Entry" "java/lang/Object") ∈ tbl := tbl_mem (i := 1084) (by decide +kernel) rfl
theorem wd_1085 : (Cond.castable "java/lang/String" "java/lang/Object") ∈ tbl := tbl_mem (i := 1085) (by decide +kernel) rfl
theorem wd_1086 : (Cond.castable "HoldMaps$IdentityMap" "HoldMaps$Table") ∈ tbl := tbl_mem (i := 1086) (by decide +kernel) rfl
theorem wd_1087 : (Cond.castable "HoldMaps$LatestMap" "HoldMaps$Table") ∈ tbl := tbl_mem (i := 1087) (by decide +kernel) rfl
theorem wd_1088 : (Cond.castable "HoldMaps$PlacesMap" "HoldMaps$Table") ∈ tbl := tbl_mem (i := 1088) (by decide +kernel) rfl
theorem wd_1089 : (Cond.castable "HoldMaps$SoftMap" "HoldMaps$Table") ∈ tbl := tbl_mem (i := 1089) (by decide +kernel) rfl
theorem wd_1090 : (Cond.castable "HoldMaps$WeakMap" "HoldMaps$Table") ∈ tbl := tbl_mem (i := 1090) (by decide +kernel) rfl
end
section
/-! The store: the cells that the law's run owns, as a function of the address; each bears a tag of mine (a ghost: which part of the structure it is), so that two cells of different tags are apart. Every method's contract speaks of a whole store. -/
abbrev so_E : Type := Nat × va_E
abbrev so_S : Type := Nat → Option so_E
def so_up (σ : so_S) (a : Nat) (e : so_E) : so_S := fun q => if q = a then some e else σ q
theorem so_us {σ : so_S} {a : Nat} {e : so_E} : so_up σ a e a = some e := if_pos rfl
theorem so_un {σ : so_S} {a q : Nat} {e : so_E} (h : q ≠ a) : so_up σ a e q = σ q := if_neg h
/-- the cells of the store lie in the heap, from N0 on -/
def so_P (D : va_G) (cl : List vw_C) (N0 : Nat) (σ : so_S) (H : Heap) : Prop := ∀ (a : Nat) (e : so_E), σ a = some e → N0 ≤ a ∧ va_at D cl (a, e.2) H
/-- what only the run's own cells may be -/
abbrev so_A (N0 : Nat) : Nat → Prop := fun q => N0 ≤ q
section SO1
variable {D : va_G} {cl : List vw_C} {N0 : Nat} {σ : so_S} {H H1 : Heap} {a : Nat} {e : so_E}
theorem so_P.lt (h : so_P D cl N0 σ H) (he : σ a = some e) : a < H.size := va_at.lt (h a e he).2
theorem so_P.kept (h : so_P D cl N0 σ H) (hq : ∀ q : Nat, q < H.size → H1[q]? = H[q]?) : so_P D cl N0 σ H1 := fun a e he => ⟨(h a e he).1, (h a e he).2.kept (hq a (h.lt he))⟩
theorem so_P.set (h : so_P D cl N0 σ H) (ha : N0 ≤ a) (he : va_at D cl (a, e.2) H1) (oq : ∀ q : Nat, q ≠ a → H1[q]? = H[q]?) : so_P D cl N0 (so_up σ a e) H1 := by
  intro b x hb
  by_cases hba : b = a
  · subst hba
    rw [so_us] at hb
    cases hb
    exact ⟨ha, he⟩
  · rw [so_un hba] at hb
    exact ⟨(h b x hb).1, (h b x hb).2.kept (oq b hba)⟩
theorem so_P.push (h : so_P D cl N0 σ H) (ha : N0 ≤ H.size) (he : va_at D cl (H.size, e.2) H1) (oq : ∀ q : Nat, q < H.size → H1[q]? = H[q]?) : so_P D cl N0 (so_up σ H.size e) H1 := by
  intro b x hb
  by_cases hba : b = H.size
  · subst hba
    rw [so_us] at hb
    cases hb
    exact ⟨ha, he⟩
  · rw [so_un hba] at hb
    exact ⟨(h b x hb).1, (h b x hb).2.kept (oq b (h.lt hb))⟩
theorem so_P.new (h : so_P D cl N0 σ H) : σ H.size = none := by
  cases hs : σ H.size with
  | none => rfl
  | some e => exact absurd (h.lt hs) (Nat.lt_irrefl _)
theorem so_P.one (h : so_P D cl N0 σ H) (he : σ a = some e) : va_P D cl [(a, e.2)] H := by
  intro k q hk
  have hz : k < 1 := (List.getElem?_eq_some_iff.mp hk).1
  rw [show k = 0 by omega] at hk
  cases hk
  exact (h a e he).2
theorem so_ne {b : Nat} {x y : so_E} (ha : σ a = some x) (hb : σ b = some y) (h : x.1 ≠ y.1) : a ≠ b := fun q => h (by subst q; rw [ha] at hb; exact congrArg (fun z : Option so_E => (z.getD (0, .inr (0, []))).1) hb)
end SO1
section SO2
variable {p : Program} {l : Launch} {e : Env} {R : Room} {s : State} {m : MethodId} {args : Array Value} {below : List Frame} {meth : Method} {c : Code} {H : Heap} {locs : List Loc} {cells slots : Nat} {Q : State → Prop}
variable {cc : ByteArray} {pc nL : Nat} {ls : Array Slot} {rest : List Value} {D : va_G} {cl : List vw_C} {a N0 tg : Nat} {tys : List (ClassId × FieldType)} {σ : so_S} {H0 : Heap} {Ts : List Cond} {own : String}
theorem so_get (S : CallFix p m c cc nL s args Ts own) (hK : va_K D cl tys s) (hP : so_P D cl N0 σ H) {ref C : String} {T : u_T} {N ci index : Nat} (hin : ∀ w ∈ u_ws C T N, w ∈ Ts) {fs : List Value} (he : σ a = some (tg, .inr (ci, fs))) (hc : cl[ci]? = some (C, T, N)) (k : Nat) (hk : k < N) (hlink : (Cond.fieldLink own index ref (T k).2.1 (T k).2.2.1).before args s = true) (hsame : ∀ x, s.fieldFound? (T k).1 (T k).2.1 (T k).2.2.1 = some x → s.fieldFound? ref (T k).2.1 (T k).2.2.1 = some x) {v : Value} (hv : fs[k]? = some v) (hdg : decode cc pc = .ok (.getfield index, 3))
    (kk : W p l e R s m args below meth c H locs cells slots Q (F0 m (pc + 3) ls (v :: rest))) : W p l e R s m args below meth c H locs cells slots Q (F0 m pc ls (.ref a :: rest)) :=
  va_get S.1 S.2.1 S.2.2.2.2 hin S.2.2.2.1 hK (hP.one he) 0 rfl hc k hk hlink hsame hv hdg kk
theorem so_getN (S : CallFix p m c cc nL s args Ts own) (hK : va_K D cl tys s) (hP : so_P D cl N0 σ H) {ref C host : String} {T : u_T} {N ci index : Nat} (hin : ∀ w ∈ u_ws C T N, w ∈ Ts) {fs : List Value} (he : σ a = some (tg, .inr (ci, fs))) (hc : cl[ci]? = some (C, T, N)) (k : Nat) (hk : k < N) (hlink : (Cond.fieldLinkNest own index ref (T k).2.1 (T k).2.2.1 host).before args s = true) (hsame : ∀ x, s.fieldFound? (T k).1 (T k).2.1 (T k).2.2.1 = some x → s.fieldFound? ref (T k).2.1 (T k).2.2.1 = some x) {v : Value} (hv : fs[k]? = some v) (hdg : decode cc pc = .ok (.getfield index, 3))
    (kk : W p l e R s m args below meth c H locs cells slots Q (F0 m (pc + 3) ls (v :: rest))) : W p l e R s m args below meth c H locs cells slots Q (F0 m pc ls (.ref a :: rest)) :=
  va_getN S.1 S.2.1 S.2.2.2.2 hin S.2.2.2.1 hK (hP.one he) 0 rfl hc k hk hlink hsame hv hdg kk
theorem so_put (S : CallFix p m c cc nL s args Ts own) (hK : va_K D cl tys s) (hP : so_P D cl N0 σ H) (hS0 : va_S (so_A N0) H0 H locs) {ref C : String} {T : u_T} {N ci index : Nat} (hin : ∀ w ∈ u_ws C T N, w ∈ Ts) (ty0 : Nat → FieldType) (hty : ∀ k, k < N → parseFieldDescriptor (T k).2.2.1 = some (ty0 k)) (hnm : ∀ a, a < N → ∀ b, b < N → a ≠ b → (T a).2.1 ≠ (T b).2.1) {fs : List Value} (he : σ a = some (tg, .inr (ci, fs))) (hc : cl[ci]? = some (C, T, N)) (k : Nat) (hk : k < N) (hlink : (Cond.fieldLink own index ref (T k).2.1 (T k).2.2.1).before args s = true) (hsame : ∀ x, s.fieldFound? (T k).1 (T k).2.1 (T k).2.2.1 = some x → s.fieldFound? ref (T k).2.1 (T k).2.2.1 = some x) (hfin : (T k).2.2.2 = false) {ty : FieldType} {v : Value} (hd : parseFieldDescriptor (T k).2.2.1 = some ty) (hn : narrow ty v = v) (hfit : fits ty v = true) (hl : k < fs.length) (hdg : decode cc pc = .ok (.putfield index, 3))
    (kk : ∀ (H1 : Heap) (locs1 : List Loc), so_P D cl N0 (so_up σ a (tg, .inr (ci, fs.set k v))) H1 → va_S (so_A N0) H0 H1 locs1 → W p l e R s m args below meth c H1 locs1 cells slots Q (F0 m (pc + 3) ls rest)) : W p l e R s m args below meth c H locs cells slots Q (F0 m pc ls (v :: .ref a :: rest)) := by
  have hts := S.2.2.2.2
  have hap := va_apart (own := own) hts hin ty0 hty hnm hK hc
  obtain ⟨hN, r, h1, cell, q1, q2, q3, q4⟩ := hP a _ he
  have hr : r = (C, T, N) := Option.some.inj (h1.symm.trans hc)
  subst hr
  obtain ⟨hS, hfc, kC, hkC, hkind⟩ := hK.1 ci _ hc
  obtain ⟨cf, kf, fi, f, hi, hsl⟩ := hS k hk
  have hlay := hts _ (hin _ (u_in_lay hk))
  unfold u_lay at hlay
  rw [if_neg (by rw [hfin]; decide)] at hlay
  have hst := (u_facts hfc hkC (u_lays hts hin hk) hi).1
  have h6 := u_store hfc hkC hkind hlay hi hd hn hfit
  refine W.putK S.1 S.2.1 (f := f) ⟨S.2.2.2.1, hlink, ⟨_, _, _, hsame _ hi⟩, hst⟩ (by rw [q2]; exact h6) q1 q3 (by rw [hsl]; exact k2_hasslot (q4 k hk)) rfl rfl hdg fun H' e1 e2 e3 => ?_
  rw [hsl] at e1 ⊢
  exact kk H' _ (hP.set hN ⟨_, hc, t_OB.to (V := updV (vp_V fs) k v) ⟨_, e1, q2, q3, t_set q4 hap hk v⟩ (fun j _ => vp_updV_set hl v j)⟩ e3) (hS0.put e2 e3 hN)
theorem so_putN (S : CallFix p m c cc nL s args Ts own) (hK : va_K D cl tys s) (hP : so_P D cl N0 σ H) (hS0 : va_S (so_A N0) H0 H locs) {ref C host : String} {T : u_T} {N ci index : Nat} (hin : ∀ w ∈ u_ws C T N, w ∈ Ts) (ty0 : Nat → FieldType) (hty : ∀ k, k < N → parseFieldDescriptor (T k).2.2.1 = some (ty0 k)) (hnm : ∀ a, a < N → ∀ b, b < N → a ≠ b → (T a).2.1 ≠ (T b).2.1) {fs : List Value} (he : σ a = some (tg, .inr (ci, fs))) (hc : cl[ci]? = some (C, T, N)) (k : Nat) (hk : k < N) (hlink : (Cond.fieldLinkNest own index ref (T k).2.1 (T k).2.2.1 host).before args s = true) (hsame : ∀ x, s.fieldFound? (T k).1 (T k).2.1 (T k).2.2.1 = some x → s.fieldFound? ref (T k).2.1 (T k).2.2.1 = some x) (hfin : (T k).2.2.2 = false) {ty : FieldType} {v : Value} (hd : parseFieldDescriptor (T k).2.2.1 = some ty) (hn : narrow ty v = v) (hfit : fits ty v = true) (hl : k < fs.length) (hdg : decode cc pc = .ok (.putfield index, 3))
    (kk : ∀ (H1 : Heap) (locs1 : List Loc), so_P D cl N0 (so_up σ a (tg, .inr (ci, fs.set k v))) H1 → va_S (so_A N0) H0 H1 locs1 → W p l e R s m args below meth c H1 locs1 cells slots Q (F0 m (pc + 3) ls rest)) : W p l e R s m args below meth c H locs cells slots Q (F0 m pc ls (v :: .ref a :: rest)) := by
  have hts := S.2.2.2.2
  have hap := va_apart (own := own) hts hin ty0 hty hnm hK hc
  obtain ⟨hN, r, h1, cell, q1, q2, q3, q4⟩ := hP a _ he
  have hr : r = (C, T, N) := Option.some.inj (h1.symm.trans hc)
  subst hr
  obtain ⟨hS, hfc, kC, hkC, hkind⟩ := hK.1 ci _ hc
  obtain ⟨cf, kf, fi, f, hi, hsl⟩ := hS k hk
  have hlay := hts _ (hin _ (u_in_lay hk))
  unfold u_lay at hlay
  rw [if_neg (by rw [hfin]; decide)] at hlay
  have hst := (u_facts hfc hkC (u_lays hts hin hk) hi).1
  have h6 := u_store hfc hkC hkind hlay hi hd hn hfit
  refine va_WputK S.1 S.2.1 S.2.2.2.1 hlink (hsame _ hi) hst (by rw [q2]; exact h6) q1 q3 (by rw [hsl]; exact k2_hasslot (q4 k hk)) rfl rfl hdg fun H' e1 e2 e3 => ?_
  rw [hsl] at e1 ⊢
  exact kk H' _ (hP.set hN ⟨_, hc, t_OB.to (V := updV (vp_V fs) k v) ⟨_, e1, q2, q3, t_set q4 hap hk v⟩ (fun j _ => vp_updV_set hl v j)⟩ e3) (hS0.put e2 e3 hN)
theorem so_putF (S : CallFix p m c cc nL s args Ts own) (hK : va_K D cl tys s) (hP : so_P D cl N0 σ H) (hS0 : va_S (so_A N0) H0 H locs) {ref C : String} {T : u_T} {N ci index : Nat} (hin : ∀ w ∈ u_ws C T N, w ∈ Ts) (ty0 : Nat → FieldType) (hty : ∀ k, k < N → parseFieldDescriptor (T k).2.2.1 = some (ty0 k)) (hnm : ∀ a, a < N → ∀ b, b < N → a ≠ b → (T a).2.1 ≠ (T b).2.1) {fs : List Value} (he : σ a = some (tg, .inr (ci, fs))) (hc : cl[ci]? = some (C, T, N)) (k : Nat) (hk : k < N) (hlink : (Cond.fieldLink own index ref (T k).2.1 (T k).2.2.1).before args s = true) (hsame : ∀ x, s.fieldFound? (T k).1 (T k).2.1 (T k).2.2.1 = some x → s.fieldFound? ref (T k).2.1 (T k).2.2.1 = some x) (hfin : (T k).2.2.2 = true) (hin2 : meth.name = "<init>") (hdecl : (T k).1 = own) {ty : FieldType} {v : Value} (hd : parseFieldDescriptor (T k).2.2.1 = some ty) (hn : narrow ty v = v) (hfit : fits ty v = true) (hl : k < fs.length) (hdg : decode cc pc = .ok (.putfield index, 3))
    (kk : ∀ (H1 : Heap) (locs1 : List Loc), so_P D cl N0 (so_up σ a (tg, .inr (ci, fs.set k v))) H1 → va_S (so_A N0) H0 H1 locs1 → W p l e R s m args below meth c H1 locs1 cells slots Q (F0 m (pc + 3) ls rest)) : W p l e R s m args below meth c H locs cells slots Q (F0 m pc ls (v :: .ref a :: rest)) := by
  have hts := S.2.2.2.2
  have hown := S.2.2.2.1
  have hap := va_apart (own := own) hts hin ty0 hty hnm hK hc
  obtain ⟨hN, r, h1, cell, q1, q2, q3, q4⟩ := hP a _ he
  have hr : r = (C, T, N) := Option.some.inj (h1.symm.trans hc)
  subst hr
  obtain ⟨hS, hfc, kC, hkC, hkind⟩ := hK.1 ci _ hc
  obtain ⟨cf, kf, fi, f, hi, hsl⟩ := hS k hk
  have hlay := hts _ (hin _ (u_in_lay hk))
  unfold u_lay at hlay
  rw [if_pos hfin] at hlay
  have hst := (u_facts hfc hkC (u_lays hts hin hk) hi).1
  have hcf : m.cls = cf := by
    obtain ⟨_, _, c', _, _, _, -, -, hf', -, -, -, hown2, -⟩ := Cond.laysFinal_spec hlay
    have e1 : c' = cf := by have := hi.symm.trans hf'; simp at this; exact this.1.symm
    rw [hdecl] at hown2
    rw [← e1]; exact Option.some.inj (hown.symm.trans hown2)
  have h6 := u_fits hfc hkC hkind (Or.inr hlay) hi hd hn hfit
  refine W.putFinK S.1 S.2.1 hown hlink (hsame _ hi) hst hcf hin2 (by rw [q2]; exact h6) q1 q3 (by rw [hsl]; exact k2_hasslot (q4 k hk)) rfl rfl hdg fun H' e1 e2 e3 => ?_
  rw [hsl] at e1 ⊢
  exact kk H' _ (hP.set hN ⟨_, hc, t_OB.to (V := updV (vp_V fs) k v) ⟨_, e1, q2, q3, t_set q4 hap hk v⟩ (fun j _ => vp_updV_set hl v j)⟩ e3) (hS0.put e2 e3 hN)
theorem so_iald (S : CallFix p m c cc nL s args Ts own) (hK : va_K D cl tys s) (hP : so_P D cl N0 σ H) {cA : ClassId} {n : Nat} {f : Nat → Int32} (ha : σ a = some (tg, .inl (cA, n, .inl f))) (t0 : Nat) (ht : tys[t0]? = some (cA, .int)) {i : Int32} (hin : vp_in i n) (hdg : decode cc pc = .ok (.iaload, 1))
    (kk : W p l e R s m args below meth c H locs cells slots Q (F0 m (pc + 1) ls (.int (f i.toNatClampNeg) :: rest))) : W p l e R s m args below meth c H locs cells slots Q (F0 m pc ls (.int i :: .ref a :: rest)) :=
  va_iald S.1 S.2.1 hK (hP.one ha) 0 t0 rfl ht hin hdg kk
theorem so_zald (S : CallFix p m c cc nL s args Ts own) (hK : va_K D cl tys s) (hP : so_P D cl N0 σ H) {cA : ClassId} {n : Nat} {f : Nat → Int32} (ha : σ a = some (tg, .inl (cA, n, .inl f))) (t0 : Nat) (ht : tys[t0]? = some (cA, .boolean)) {i : Int32} (hin : vp_in i n) (hdg : decode cc pc = .ok (.baload, 1))
    (kk : W p l e R s m args below meth c H locs cells slots Q (F0 m (pc + 1) ls (.int (f i.toNatClampNeg) :: rest))) : W p l e R s m args below meth c H locs cells slots Q (F0 m pc ls (.int i :: .ref a :: rest)) :=
  va_zald S.1 S.2.1 hK (hP.one ha) 0 t0 rfl ht hin hdg kk
theorem so_aald (S : CallFix p m c cc nL s args Ts own) (hK : va_K D cl tys s) (hP : so_P D cl N0 σ H) {cA : ClassId} {C : String} {n : Nat} {f : Nat → Option Nat} (ha : σ a = some (tg, .inl (cA, n, .inr (.inr (.inr (.inr f)))))) (t0 : Nat) (ht : tys[t0]? = some (cA, .object C)) {i : Int32} (hin : vp_in i n) (hdg : decode cc pc = .ok (.aaload, 1))
    (kk : W p l e R s m args below meth c H locs cells slots Q (F0 m (pc + 1) ls (va_rf (f i.toNatClampNeg) :: rest))) : W p l e R s m args below meth c H locs cells slots Q (F0 m pc ls (.int i :: .ref a :: rest)) :=
  va_aldq S.1 S.2.1 hK (hP.one ha) 0 t0 rfl ht hin hdg kk
theorem so_alen (S : CallFix p m c cc nL s args Ts own) (hK : va_K D cl tys s) (hP : so_P D cl N0 σ H) {cA : ClassId} {x : vp_A} (ha : σ a = some (tg, .inl (cA, x))) (t0 : Nat) {ty : FieldType} (ht : tys[t0]? = some (cA, ty)) (hdg : decode cc pc = .ok (.arraylength, 1))
    (kk : W p l e R s m args below meth c H locs cells slots Q (F0 m (pc + 1) ls (.int (nI x.1) :: rest))) : W p l e R s m args below meth c H locs cells slots Q (F0 m pc ls (.ref a :: rest)) :=
  va_alen S.1 S.2.1 hK (hP.one ha) 0 t0 rfl ht rfl hdg kk
theorem so_iast (S : CallFix p m c cc nL s args Ts own) (hK : va_K D cl tys s) (hP : so_P D cl N0 σ H) (hS : va_S (so_A N0) H0 H locs) {cA : ClassId} {n : Nat} {f : Nat → Int32} (ha : σ a = some (tg, .inl (cA, n, .inl f))) (t0 : Nat) (ht : tys[t0]? = some (cA, .int)) {i x : Int32} (hin : vp_in i n) (hdg : decode cc pc = .ok (.iastore, 1))
    (kk : ∀ (H1 : Heap) (locs1 : List Loc), so_P D cl N0 (so_up σ a (tg, .inl (cA, n, .inl (upd f i.toNatClampNeg x)))) H1 → va_S (so_A N0) H0 H1 locs1 → W p l e R s m args below meth c H1 locs1 cells slots Q (F0 m (pc + 1) ls rest)) : W p l e R s m args below meth c H locs cells slots Q (F0 m pc ls (.int x :: .int i :: .ref a :: rest)) := by
  obtain ⟨hN, hc⟩ := hP a _ ha
  refine W.iast S.1 S.2.1 hc ((hK.2 t0 _ ht).1 n (fun j => .int (f j))) (fun q => by cases q) (by show ¬ (i < 0 ∨ (arrV _ _ _).slots.size ≤ _); rw [arrV_size]; exact hin) rfl rfl hdg fun H1 e z oq => ?_
  refine kk H1 _ (hP.set hN ?_ oq) (hS.put z oq hN)
  show H1[a]? = some (vp_cell _ _)
  rw [e, vp_cell_i, vp_cell_i, arrV_store]
  congr 2
  funext q
  by_cases hq : q = i.toNatClampNeg
  · subst hq
    simp [updV, upd]
  · simp [updV, upd, hq]
theorem so_zast (S : CallFix p m c cc nL s args Ts own) (hK : va_K D cl tys s) (hP : so_P D cl N0 σ H) (hS : va_S (so_A N0) H0 H locs) {cA : ClassId} {n : Nat} {f : Nat → Int32} (ha : σ a = some (tg, .inl (cA, n, .inl f))) (t0 : Nat) (ht : tys[t0]? = some (cA, .boolean)) {i x : Int32} (hin : vp_in i n) (hdg : decode cc pc = .ok (.bastore, 1))
    (kk : ∀ (H1 : Heap) (locs1 : List Loc), so_P D cl N0 (so_up σ a (tg, .inl (cA, n, .inl (upd f i.toNatClampNeg (vp_nar .boolean x))))) H1 → va_S (so_A N0) H0 H1 locs1 → W p l e R s m args below meth c H1 locs1 cells slots Q (F0 m (pc + 1) ls rest)) : W p l e R s m args below meth c H locs cells slots Q (F0 m pc ls (.int x :: .int i :: .ref a :: rest)) := by
  obtain ⟨hN, hc⟩ := hP a _ ha
  refine W.zast S.1 S.2.1 hc ((hK.2 t0 _ ht).1 n (fun j => .int (f j))) (fun q => by cases q) (by show ¬ (i < 0 ∨ (arrV _ _ _).slots.size ≤ _); rw [arrV_size]; exact hin) rfl rfl hdg fun H1 e z oq => ?_
  refine kk H1 _ (hP.set hN ?_ oq) (hS.put z oq hN)
  show H1[a]? = some (vp_cell _ _)
  rw [e, vp_cell_i, vp_cell_i, arrV_store]
  congr 2
  funext q
  by_cases hq : q = i.toNatClampNeg
  · subst hq
    simp [updV, upd, vp_nar]
    try rfl
  · simp [updV, upd, hq]
/-- a reference to an own object, or null, into an array of references whose element class takes it -/
theorem so_aast (S : CallFix p m c cc nL s args Ts own) (hK : va_K D cl tys s) (hP : so_P D cl N0 σ H) (hS : va_S (so_A N0) H0 H locs) {cA : ClassId} {E : String} {n : Nat} {f : Nat → Option Nat} (ha : σ a = some (tg, .inl (cA, n, .inr (.inr (.inr (.inr f)))))) (t0 : Nat) (ht : tys[t0]? = some (cA, .object E)) {i : Int32} {r : Option Nat} (hr : ∀ v : Nat, r = some v → ∃ (tv ci : Nat) (q : vw_C) (vs : List Value), σ v = some (tv, .inr (ci, vs)) ∧ cl[ci]? = some q ∧ va_Nw (.castable q.1 E) s) (hin : vp_in i n) (hdg : decode cc pc = .ok (.aastore, 1))
    (kk : ∀ (H1 : Heap) (locs1 : List Loc), so_P D cl N0 (so_up σ a (tg, .inl (cA, n, .inr (.inr (.inr (.inr (va_up f i.toNatClampNeg r))))))) H1 → va_S (so_A N0) H0 H1 locs1 → W p l e R s m args below meth c H1 locs1 cells slots Q (F0 m (pc + 1) ls rest)) : W p l e R s m args below meth c H locs cells slots Q (F0 m pc ls (va_rf r :: .int i :: .ref a :: rest)) := by
  obtain ⟨hN, hc⟩ := hP a _ ha
  have hlt : i.toNatClampNeg < n := Nat.not_le.mp fun q => hin (Or.inr q)
  have h0 : ¬ i < 0 := fun q => hin (Or.inl q)
  cases r with
  | none =>
    refine va_WaastN (C := E) S.1 S.2.1 hc ((hK.2 t0 _ ht).1 n (fun j => va_rf (f j))) (fun h => by cases h) (by show ¬ (i < 0 ∨ (arrV _ _ _).slots.size ≤ _); rw [arrV_size]; exact hin) rfl rfl hdg fun H1 e z oq => ?_
    refine kk H1 _ (hP.set hN ?_ oq) (hS.put z oq hN)
    show H1[a]? = some (vp_cell _ _)
    rw [e, vp_cell_q, vp_cell_q, arrV_store]
    congr 2
    funext q
    by_cases hq : q = i.toNatClampNeg
    · subst hq
      simp [updV, va_up, va_rf]
    · simp [updV, va_up, hq]
  | some v =>
    obtain ⟨tv, ci, q, vs, hv, hq, hcast⟩ := hr v rfl
    obtain ⟨-, q', hq', cellV, g1, g2, g3, -⟩ := hP v _ hv
    have hcls := (hK.1 ci q hq).2
    obtain ⟨kA, comp, k1, k2, k3, -⟩ := (hK.2 t0 _ ht).2
    obtain ⟨c0, tE, f1, f2, f3⟩ := Cond.castable_spec (va_Nw.use (A := args) rfl hcast)
    have ec : c0 = D.1 ci := Option.some.inj (f1.symm.trans hcls.1)
    have et : tE = comp := Option.some.inj (f2.symm.trans k3)
    subst ec et
    obtain ⟨kC, hkC, -⟩ := hcls.2
    have hkT : ∃ kT, s.vm.classes[tE]? = some kT := by
      obtain ⟨kT, hkT, -⟩ := Vm.findClass_spec k3
      exact ⟨kT, hkT⟩
    obtain ⟨kT, hkT⟩ := hkT
    refine W.aast S.1 S.2.1 hc (fun q h => by cases h) (fun h => by cases h) k1 k2 rfl hkT ⟨h0, by show _ < (arrV _ _ _).slots.size; rw [arrV_size]; exact hlt⟩ g1 (fun q h => by rw [g3] at h; cases h) (by rw [g2]; exact hkC) (by rw [g2]; exact f3) rfl rfl hdg fun H1 e z oq => ?_
    refine kk H1 _ (hP.set hN ?_ oq) (hS.put z oq hN)
    show H1[a]? = some (vp_cell _ _)
    rw [e, vp_cell_q, vp_cell_q, arrV_store]
    congr 2
    funext q
    by_cases hq : q = i.toNatClampNeg
    · subst hq
      simp [updV, va_up, va_rf]
    · simp [updV, va_up, hq]
theorem so_new (tg : Nat) (S : CallFix p m c cc nL s args Ts own) (hK : va_K D cl tys s) (hP : so_P D cl N0 σ H) (hS : va_S (so_A N0) H0 H locs) (h0 : N0 ≤ H0.size) {C : String} {T : u_T} {N ci index : Nat} (hin : ∀ w ∈ u_ws C T N, w ∈ Ts) (ty : Nat → FieldType) (hty : ∀ k, k < N → parseFieldDescriptor (T k).2.2.1 = some (ty k)) (hcl : (Cond.classLink own index C).before args s = true) (hinst : (Cond.instantiable C N).before args s = true) (hini : (Cond.initialized C).before args s = true)
    (hc : cl[ci]? = some (C, T, N)) {fs : List Value} (hfs : ∀ j, j < N → defaultValue (ty j) = vp_V fs j) (hcells : cells + 1 ≤ R.cells) (hslots : slots + N ≤ R.slots) (hdg : decode cc pc = .ok (.new index, 3))
    (kk : ∀ (q : Nat) (H1 : Heap), σ q = none → so_P D cl N0 (so_up σ q (tg, .inr (ci, fs))) H1 → va_S (so_A N0) H0 H1 locs → W p l e R s m args below meth c H1 locs (cells + 1) (slots + N) Q (F0 m (pc + 3) ls (.ref q :: rest))) : W p l e R s m args below meth c H locs cells slots Q (F0 m pc ls rest) := by
  have hts := S.2.2.2.2
  have hKn := hK.1 ci _ hc
  refine W.newcK S.1 S.2.1 S.2.2.2.1 hcl hinst hini rfl hdg hcells hslots hKn.2.1 rfl fun H1 kC hkC e1 z1 o1 => ?_
  exact kk H.size H1 hP.new (hP.push (Nat.le_trans h0 hS.1) ⟨_, hc, (u_born ty hts hin hKn hkC e1 hty).to hfs⟩ o1) ⟨Nat.le_trans hS.1 (by omega), fun x h1 h2 => (o1 x (Nat.lt_of_lt_of_le h1 hS.1)).trans (hS.2.1 x h1 h2), hS.2.2⟩
theorem so_newa (tg : Nat) (S : CallFix p m c cc nL s args Ts own) (hK : va_K D cl tys s) (hP : so_P D cl N0 σ H) (hS : va_S (so_A N0) H0 H locs) (h0 : N0 ≤ H0.size) {atype : ArrayType} (harr : (Cond.arrayClass (newarray.typeOf atype)).before args s = true) (t0 : Nat) {cA : ClassId} {ty : FieldType} (ht : tys[t0]? = some (cA, ty)) (hty : newarray.typeOf atype = ty) (hobj : ∀ C, ty ≠ .object C)
    {n : Int32} {N' : Nat} {a0 : vp_A} (ha : ∀ cA : ClassId, vp_cell cA a0 = arrV cA N' (fun _ => defaultValue ty)) (hn : ¬ n < 0) (hN : n.toNatClampNeg = N') (hbytes : N' * componentBytes ty ≤ 536870912) (hcells : cells + 1 ≤ R.cells) (hslots : slots + N' ≤ R.slots) (hdg : decode cc pc = .ok (.newarray atype, 2))
    (kk : ∀ (q : Nat) (H1 : Heap), σ q = none → so_P D cl N0 (so_up σ q (tg, .inl (cA, a0))) H1 → va_S (so_A N0) H0 H1 locs → W p l e R s m args below meth c H1 locs (cells + 1) (slots + N') Q (F0 m (pc + 2) ls (.ref q :: rest))) : W p l e R s m args below meth c H locs cells slots Q (F0 m pc ls (.int n :: rest)) := by
  subst hty
  have hRA := (hK.2 t0 _ ht).2
  have hcA : s.vm.findClass ("[" ++ (newarray.typeOf atype).toString) = some cA := by
    revert hRA
    cases atype <;> exact fun h => h
  refine va_newaK S.1 S.2.1 harr rfl hdg rfl hn hN hbytes hcells hslots rfl fun H1 cA' e1 z1 o1 hAr hNm => ?_
  have ecA : cA' = cA := Option.some.inj (hNm.symm.trans hcA)
  subst ecA
  refine kk H.size H1 hP.new (hP.push (Nat.le_trans h0 hS.1) ?_ o1) ⟨Nat.le_trans hS.1 (by omega), fun x h1 h2 => (o1 x (Nat.lt_of_lt_of_le h1 hS.1)).trans (hS.2.1 x h1 h2), hS.2.2⟩
  show H1[H.size]? = some (vp_cell _ _)
  rw [ha]
  exact e1
theorem so_newq (tg : Nat) (S : CallFix p m c cc nL s args Ts own) (hK : va_K D cl tys s) (hP : so_P D cl N0 σ H) (hS : va_S (so_A N0) H0 H locs) (h0 : N0 ≤ H0.size) {E : String} {index : Nat} (hclink : (Cond.classLink own index E).before args s = true) (hover : (Cond.arrayOver (.object E)).before args s = true) (t0 : Nat) {cA : ClassId} (ht : tys[t0]? = some (cA, .object E))
    {n : Int32} {N' : Nat} (hn : ¬ n < 0) (hN : n.toNatClampNeg = N') (hbytes : N' * 4 ≤ 536870912) (hcells : cells + 1 ≤ R.cells) (hslots : slots + N' ≤ R.slots) (hdg : decode cc pc = .ok (.anewarray index, 3))
    (kk : ∀ (q : Nat) (H1 : Heap), σ q = none → so_P D cl N0 (so_up σ q (tg, .inl (cA, N', .inr (.inr (.inr (.inr (fun _ => none))))))) H1 → va_S (so_A N0) H0 H1 locs → W p l e R s m args below meth c H1 locs (cells + 1) (slots + N') Q (F0 m (pc + 3) ls (.ref q :: rest))) : W p l e R s m args below meth c H locs cells slots Q (F0 m pc ls (.int n :: rest)) := by
  subst hN
  obtain ⟨kA', comp', -, -, -, hcA⟩ := (hK.2 t0 _ ht).2
  refine W.anew S.1 S.2.1 S.2.2.2.1 hclink hover rfl hdg rfl hn hbytes hcells hslots fun cA' kA comp f1 f2 f3 f4 => ?_
  have ecA : cA' = cA := Option.some.inj (f1.symm.trans hcA)
  subst ecA
  generalize hH1 : H.push ({ cls := cA', slots := Array.replicate n.toNatClampNeg .null, vm := .none } : Cell) = H1
  have z1 : H1.size = H.size + 1 := by rw [← hH1, Array.size_push]
  have e1 : H1[H.size]? = some (arrV cA' n.toNatClampNeg (fun _ => .null)) := by rw [← hH1, Array.getElem?_push_size, ← arrV_new]
  have o1 : ∀ q : Nat, q < H.size → H1[q]? = H[q]? := fun q hq => by rw [← hH1, Array.getElem?_push, if_neg (Nat.ne_of_lt hq)]
  refine kk H.size H1 hP.new (hP.push (Nat.le_trans h0 hS.1) ?_ o1) ⟨Nat.le_trans hS.1 (by omega), fun x h1 h2 => (o1 x (Nat.lt_of_lt_of_le h1 hS.1)).trans (hS.2.1 x h1 h2), hS.2.2⟩
  show H1[H.size]? = some (vp_cell _ _)
  rw [vp_cell_q]
  exact e1
end SO2
end
section
/-! Contracts over a store. s0: the state at the law's start; every later state has warmer tables, and below s0.heap.size the same cells. -/
def so_rm (k mc ms : Nat) : Room := { frames := k, cells := mc, slots := ms, locals := 32 * k }
def so_Kn (s0 U : State) : Prop := s0.WarmedH U.vm ∧ s0.heap.size ≤ U.heap.size ∧ ∀ q : Nat, q < s0.heap.size → U.heap[q]? = s0.heap[q]?
def so_B (Ts : List Cond) (s0 : State) (D : va_G) (cl : List vw_C) (tys : List (ClassId × FieldType)) : Prop := (∀ w ∈ Ts, ∀ (a : Array Value) (U : State), s0.WarmedH U.vm → w.before a U = true) ∧ va_K D cl tys s0
def so_Pre (s0 : State) (D : va_G) (cl : List vw_C) (σ : so_S) (U : State) : Prop := so_Kn s0 U ∧ so_P D cl s0.heap.size σ U.heap
def so_Q (s0 : State) (D : va_G) (cl : List vw_C) (post : Option Value → so_S → Prop) : Array Value → State → Outcome → State → Prop := fun _ st oc t => (∃ (v : Option Value) (σ1 : so_S), oc = .returned v ∧ post v σ1 ∧ so_P D cl s0.heap.size σ1 t.heap) ∧ va_F (so_A s0.heap.size) st t
def so_R (post : Option Value → Prop) : Array Value → State → Outcome → State → Prop := fun _ st oc t => ∃ v : Option Value, oc = .returned v ∧ post v ∧ t.heap = st.heap
/-- y, given av over the store σ, returns v and leaves σ1: post v σ1; it makes at most mc cells of ms slots -/
def so_C (l : Launch) (s0 : State) (D : va_G) (cl : List vw_C) (y : MethodName) (b : ByteArray) (n : Nat) (r : Option FieldType) (k mc ms : Nat) (av : List Value) (σ : so_S) (post : Option Value → so_S → Prop) : Prop :=
  Met l y [.code y b n r] (so_rm k mc ms) (va_Pc av (so_Pre s0 D cl σ)) (so_Q s0 D cl post) mc ms (so_A s0.heap.size)
/-- y only reads -/
def so_D (l : Launch) (s0 : State) (D : va_G) (cl : List vw_C) (y : MethodName) (b : ByteArray) (n : Nat) (r : Option FieldType) (k : Nat) (av : List Value) (σ : so_S) (post : Option Value → Prop) : Prop :=
  Met l y [.code y b n r] (so_rm k 0 0) (va_Pc av (so_Pre s0 D cl σ)) (so_R post) 0 0 (fun _ => False)
theorem so_blind {s0 : State} {D : va_G} {cl : List vw_C} {σ : so_S} {av : List Value} : FrameBlind (va_Pc av (so_Pre s0 D cl σ)) := fun _ _ _ _ h => h
theorem so_Kn.at {s0 s U : State} {H : Heap} {locs : List Loc} (E : so_Kn s0 s) (hS : va_S (so_A s0.heap.size) s.heap H locs) (hU : U.heap = H) (hW : s.WarmedH U.vm) : so_Kn s0 U :=
  ⟨State.WarmedH.trans E.1 hW, by rw [hU]; exact Nat.le_trans E.2.1 hS.1, fun q hq => by rw [hU, hS.2.1 q (Nat.lt_of_lt_of_le hq E.2.1) (Nat.not_le.mpr hq)]; exact E.2.2 q hq⟩
section SO3
variable {l : Launch} {s0 : State} {D : va_G} {cl : List vw_C} {tys : List (ClassId × FieldType)} {Ts : List Cond} {y : MethodName} {b : ByteArray} {n k mc ms : Nat} {r : Option FieldType} {av : List Value} {σ : so_S}
theorem so_of {post : Option Value → so_S → Prop} (hB : so_B Ts s0 D cl tys) (hy : plainName y.cls = true) (hn : (lg_sl av).length ≤ n)
    (body : ∀ (p : Program) (e : Env) (s : State) (m : MethodId) (below : List Frame) (meth : Method) (c : Code) (ls : Array Slot), CallFix p m c b n s av.toArray Ts y.cls → va_K D cl tys s → so_Kn s0 s → meth.sig.returnType = r → meth.locks = false → meth.name = y.name →
      so_P D cl s0.heap.size σ s.heap → va_S (so_A s0.heap.size) s.heap s.heap [] → lv_has ls n (lv_args 0 av) →
      W p l e (so_rm k mc ms) s m av.toArray below meth c s.heap [] 0 0 (MQ below (so_Q s0 D cl post) av.toArray s mc ms (so_A s0.heap.size)) (F0 m 0 ls [])) :
    so_C l s0 D cl y b n r k mc ms av σ post := by
  refine Met.ofW (cc := b) (maxL := n) (ret := r) hy rfl ?_
  intro p e s m args below meth c s₁ B hml hv
  obtain ⟨rfl, hKn, hP⟩ := hv
  have hts : ∀ w ∈ Ts, w.before av.toArray s = true := fun w hw => hB.1 w hw _ _ hKn.1
  have hl := lv_entry av (n := n) hn
  rw [lg_entry_eq]
  generalize (lg_sl av ++ List.replicate (n - (lg_sl av).length) Slot.unset).toArray = ls at hl ⊢
  exact body p e s m below meth c ls ⟨B.exec, B.bytes, hml, findClass_of_methodNamed B.named, hts⟩ (va_K.moved hKn.1.alike hB.2) hKn B.returns B.notSynchronized (name_of_methodNamed B.named B.method).1 hP va_S.rf hl
theorem so_ofR {post : Option Value → Prop} (hB : so_B Ts s0 D cl tys) (hy : plainName y.cls = true) (hn : (lg_sl av).length ≤ n)
    (body : ∀ (p : Program) (e : Env) (s : State) (m : MethodId) (below : List Frame) (meth : Method) (c : Code) (ls : Array Slot), CallFix p m c b n s av.toArray Ts y.cls → va_K D cl tys s → so_Kn s0 s → meth.sig.returnType = r → meth.locks = false →
      so_P D cl s0.heap.size σ s.heap → va_S (so_A s0.heap.size) s.heap s.heap [] → lv_has ls n (lv_args 0 av) →
      W p l e (so_rm k 0 0) s m av.toArray below meth c s.heap [] 0 0 (MQ below (so_R post) av.toArray s 0 0 (fun _ => False)) (F0 m 0 ls [])) :
    so_D l s0 D cl y b n r k av σ post := by
  refine Met.ofW (cc := b) (maxL := n) (ret := r) hy rfl ?_
  intro p e s m args below meth c s₁ B hml hv
  obtain ⟨rfl, hKn, hP⟩ := hv
  have hts : ∀ w ∈ Ts, w.before av.toArray s = true := fun w hw => hB.1 w hw _ _ hKn.1
  have hl := lv_entry av (n := n) hn
  rw [lg_entry_eq]
  generalize (lg_sl av ++ List.replicate (n - (lg_sl av).length) Slot.unset).toArray = ls at hl ⊢
  exact body p e s m below meth c ls ⟨B.exec, B.bytes, hml, findClass_of_methodNamed B.named, hts⟩ (va_K.moved hKn.1.alike hB.2) hKn B.returns B.notSynchronized hP va_S.rf hl
end SO3
section SO4
variable {p : Program} {l : Launch} {e : Env} {R : Room} {s : State} {m : MethodId} {args : Array Value} {below : List Frame} {meth : Method} {c : Code} {H : Heap} {locs : List Loc} {cells slots : Nat} {Q : State → Prop}
variable {cc : ByteArray} {pc nL : Nat} {ls : Array Slot} {rest st0 : List Value} {D : va_G} {cl : List vw_C} {tys : List (ClassId × FieldType)} {σ : so_S} {H0 : Heap} {Ts : List Cond} {own : String} {s0 : State} {mc ms : Nat} {a : Array Value}
theorem so_iret {post : Option Value → so_S → Prop} {v : Int32} (S : CallFix p m c cc nL s args Ts own) (hr : meth.sig.returnType = some .int) (hlocks : meth.locks = false) (hP : so_P D cl s0.heap.size σ H) (hS : va_S (so_A s0.heap.size) s.heap H locs) (hc : cells ≤ mc) (hs : slots ≤ ms) (hpost : post (some (.int v)) σ) (hdg : decode cc pc = .ok (.ireturn, 1)) :
    W p l e R s m args below meth c H locs cells slots (MQ below (so_Q s0 D cl post) args s mc ms (so_A s0.heap.size)) (F0 m pc ls [.int v]) :=
  W.widen hc hs (W.iret S.1 S.2.1 hr (fun t ht hW => ⟨⟨_, σ, rfl, hpost, by rw [ht]; exact hP⟩, hS.F ht⟩) hS.2.2 hdg)
theorem so_zret {post : Option Value → so_S → Prop} {v : Int32} {ty : FieldType} (S : CallFix p m c cc nL s args Ts own) (hr : meth.sig.returnType = some ty) (hn : narrow ty (.int v) = .int v) (hlocks : meth.locks = false) (hP : so_P D cl s0.heap.size σ H) (hS : va_S (so_A s0.heap.size) s.heap H locs) (hc : cells ≤ mc) (hs : slots ≤ ms) (hpost : post (some (.int v)) σ) (hdg : decode cc pc = .ok (.ireturn, 1)) :
    W p l e R s m args below meth c H locs cells slots (MQ below (so_Q s0 D cl post) args s mc ms (so_A s0.heap.size)) (F0 m pc ls [.int v]) :=
  W.widen hc hs (W.zret S.1 S.2.1 hr hn (fun t ht hW => ⟨⟨_, σ, rfl, hpost, by rw [ht]; exact hP⟩, hS.F ht⟩) hS.2.2 hdg)
theorem so_vret {post : Option Value → so_S → Prop} (S : CallFix p m c cc nL s args Ts own) (hr : meth.sig.returnType = none) (hlocks : meth.locks = false) (hP : so_P D cl s0.heap.size σ H) (hS : va_S (so_A s0.heap.size) s.heap H locs) (hc : cells ≤ mc) (hs : slots ≤ ms) (hpost : post none σ) (hdg : decode cc pc = .ok (.return_, 1)) :
    W p l e R s m args below meth c H locs cells slots (MQ below (so_Q s0 D cl post) args s mc ms (so_A s0.heap.size)) (F0 m pc ls []) :=
  W.widen hc hs (W.vret S.1 S.2.1 hr (fun t ht hW => ⟨⟨_, σ, rfl, hpost, by rw [ht]; exact hP⟩, hS.F ht⟩) hS.2.2 hdg)
theorem so_aret {post : Option Value → so_S → Prop} {v : Option Nat} {rt : FieldType} (S : CallFix p m c cc nL s args Ts own) (hr : meth.sig.returnType = some rt) (hrt : (∃ n, rt = .object n) ∨ ∃ t, rt = .array t) (hlocks : meth.locks = false) (hP : so_P D cl s0.heap.size σ H) (hS : va_S (so_A s0.heap.size) s.heap H locs) (hc : cells ≤ mc) (hs : slots ≤ ms) (hpost : post (some (va_rf v)) σ) (hdg : decode cc pc = .ok (.areturn, 1)) :
    W p l e R s m args below meth c H locs cells slots (MQ below (so_Q s0 D cl post) args s mc ms (so_A s0.heap.size)) (F0 m pc ls [va_rf v]) :=
  W.widen hc hs (W.aret S.1 S.2.1 hr hrt (va_rf_or v) (fun t ht hW => ⟨⟨_, σ, rfl, hpost, by rw [ht]; exact hP⟩, hS.F ht⟩) hS.2.2 hdg)
theorem so_iretR {post : Option Value → Prop} {v : Int32} (S : CallFix p m c cc nL s args Ts own) (hr : meth.sig.returnType = some .int) (hlocks : meth.locks = false) (hpost : post (some (.int v))) (hdg : decode cc pc = .ok (.ireturn, 1)) :
    W p l e R s m args below meth c s.heap [] 0 0 (MQ below (so_R post) args s 0 0 (fun _ => False)) (F0 m pc ls [.int v]) :=
  W.iret S.1 S.2.1 hr (fun t ht hW => ⟨_, rfl, hpost, ht⟩) (fun q h => by cases h) hdg
theorem so_zretR {post : Option Value → Prop} {v : Int32} {ty : FieldType} (S : CallFix p m c cc nL s args Ts own) (hr : meth.sig.returnType = some ty) (hn : narrow ty (.int v) = .int v) (hlocks : meth.locks = false) (hpost : post (some (.int v))) (hdg : decode cc pc = .ok (.ireturn, 1)) :
    W p l e R s m args below meth c s.heap [] 0 0 (MQ below (so_R post) args s 0 0 (fun _ => False)) (F0 m pc ls [.int v]) :=
  W.zret S.1 S.2.1 hr hn (fun t ht hW => ⟨_, rfl, hpost, ht⟩) (fun q h => by cases h) hdg
theorem so_vretR {post : Option Value → Prop} (S : CallFix p m c cc nL s args Ts own) (hr : meth.sig.returnType = none) (hlocks : meth.locks = false) (hpost : post none) (hdg : decode cc pc = .ok (.return_, 1)) :
    W p l e R s m args below meth c s.heap [] 0 0 (MQ below (so_R post) args s 0 0 (fun _ => False)) (F0 m pc ls []) :=
  W.vret S.1 S.2.1 hr (fun t ht hW => ⟨_, rfl, hpost, ht⟩) (fun q h => by cases h) hdg
theorem so_aretR {post : Option Value → Prop} {v : Option Nat} {rt : FieldType} (S : CallFix p m c cc nL s args Ts own) (hr : meth.sig.returnType = some rt) (hrt : (∃ n, rt = .object n) ∨ ∃ t, rt = .array t) (hlocks : meth.locks = false) (hpost : post (some (va_rf v))) (hdg : decode cc pc = .ok (.areturn, 1)) :
    W p l e R s m args below meth c s.heap [] 0 0 (MQ below (so_R post) args s 0 0 (fun _ => False)) (F0 m pc ls [va_rf v]) :=
  W.aret S.1 S.2.1 hr hrt (va_rf_or v) (fun t ht hW => ⟨_, rfl, hpost, ht⟩) (fun q h => by cases h) hdg
/-- behind a call -/
theorem so_call {post : Option Value → so_S → Prop} (hr : va_Run p l e R s m args below meth c H locs cells slots mc ms (F0 m pc ls st0) rest (so_Q s0 D cl post a) (so_A s0.heap.size)) (hS : va_S (so_A s0.heap.size) H0 H locs)
    (kk : ∀ (v : Option Value) (σ1 : so_S) (H1 : Heap) (locs1 : List Loc), post v σ1 → so_P D cl s0.heap.size σ1 H1 → va_S (so_A s0.heap.size) H0 H1 locs1 → W p l e R s m args below meth c H1 locs1 (cells + mc) (slots + ms) Q (F0 m (pc + 3) ls (v.toList ++ rest))) : W p l e R s m args below meth c H locs cells slots Q (F0 m pc ls st0) := by
  intro T hT X
  obtain ⟨v, st₀, t, T', L, h0, X', hL, e1, e2, ⟨⟨v', σ1, hv, hp, hb⟩, hz, hk⟩, st⟩ := hr T hT X
  cases hv
  rw [h0] at hz hk
  obtain ⟨t2, a1, b1⟩ := kk v σ1 T'.heap (locs ++ L) hp (by rw [e1]; exact hb)
    ⟨Nat.le_trans hS.1 (by rw [e1]; exact hz), fun q h1 h2 => by rw [e1, hk q (Nat.lt_of_lt_of_le h1 hS.1) h2]; exact hS.2.1 q h1 h2, fun q hq => by
      rcases List.mem_append.mp hq with h | h
      · exact hS.2.2 q h
      · exact hL q h⟩ T' rfl X'
  exact ⟨t2, st t2 a1, b1⟩
theorem so_callR {post : Option Value → Prop} (hr : va_Run p l e R s m args below meth c H locs cells slots 0 0 (F0 m pc ls st0) rest (so_R post a) (fun _ => False))
    (kk : ∀ v : Option Value, post v → W p l e R s m args below meth c H locs cells slots Q (F0 m (pc + 3) ls (v.toList ++ rest))) : W p l e R s m args below meth c H locs cells slots Q (F0 m pc ls st0) := by
  intro T hT X
  obtain ⟨v, st₀, t, T', L, h0, X', hL, e1, e2, ⟨v', hv, hp, hh⟩, st⟩ := hr T hT X
  cases hv
  obtain ⟨t2, a1, b1⟩ := kk v hp T' (by rw [e1, hh, h0]) (Stand.forget X' (fun q h => (hL q h).elim))
  exact ⟨t2, st t2 a1, b1⟩
end SO4
end
section
/-! What each instruction decodes to (wip/tools/names.py). -/
theorem d_AL_init_0 : decode b_AL_init 0 = .ok (.aload_n 0, 1) := by decide +kernel
theorem d_AL_init_1 : decode b_AL_init 1 = .ok (.invokespecial 1, 3) := by decide +kernel
theorem d_AL_init_4 : decode b_AL_init 4 = .ok (.aload_n 0, 1) := by decide +kernel
theorem d_AL_init_5 : decode b_AL_init 5 = .ok (.getstatic 39, 3) := by decide +kernel
theorem d_AL_init_8 : decode b_AL_init 8 = .ok (.putfield 9, 3) := by decide +kernel
theorem d_AL_init_11 : decode b_AL_init 11 = .ok (.return_, 1) := by decide +kernel
theorem d_Ab_init_0 : decode b_Ab_init 0 = .ok (.aload_n 0, 1) := by decide +kernel
theorem d_Ab_init_1 : decode b_Ab_init 1 = .ok (.invokespecial 1, 3) := by decide +kernel
theorem d_Ab_init_4 : decode b_Ab_init 4 = .ok (.aload_n 0, 1) := by decide +kernel
theorem d_Ab_init_5 : decode b_Ab_init 5 = .ok (.iconst 0, 1) := by decide +kernel
theorem d_Ab_init_6 : decode b_Ab_init 6 = .ok (.putfield 7, 3) := by decide +kernel
theorem d_Ab_init_9 : decode b_Ab_init 9 = .ok (.return_, 1) := by decide +kernel
theorem d_Ac_init_0 : decode b_Ac_init 0 = .ok (.aload_n 0, 1) := by decide +kernel
theorem d_Ac_init_1 : decode b_Ac_init 1 = .ok (.invokespecial 1, 3) := by decide +kernel
theorem d_Ac_init_4 : decode b_Ac_init 4 = .ok (.return_, 1) := by decide +kernel
theorem d_AL_size_0 : decode b_AL_size 0 = .ok (.aload_n 0, 1) := by decide +kernel
theorem d_AL_size_1 : decode b_AL_size 1 = .ok (.getfield 48, 3) := by decide +kernel
theorem d_AL_size_4 : decode b_AL_size 4 = .ok (.ireturn, 1) := by decide +kernel
theorem d_AL_get_0 : decode b_AL_get 0 = .ok (.iload_n 1, 1) := by decide +kernel
theorem d_AL_get_1 : decode b_AL_get 1 = .ok (.aload_n 0, 1) := by decide +kernel
theorem d_AL_get_2 : decode b_AL_get 2 = .ok (.getfield 48, 3) := by decide +kernel
theorem d_AL_get_5 : decode b_AL_get 5 = .ok (.invokestatic 118, 3) := by decide +kernel
theorem d_AL_get_8 : decode b_AL_get 8 = .ok (.pop, 1) := by decide +kernel
theorem d_AL_get_9 : decode b_AL_get 9 = .ok (.aload_n 0, 1) := by decide +kernel
theorem d_AL_get_10 : decode b_AL_get 10 = .ok (.iload_n 1, 1) := by decide +kernel
theorem d_AL_get_11 : decode b_AL_get 11 = .ok (.invokevirtual 123, 3) := by decide +kernel
theorem d_AL_get_14 : decode b_AL_get 14 = .ok (.areturn, 1) := by decide +kernel
theorem d_Os_checkIndex_0 : decode b_Os_checkIndex 0 = .ok (.iload_n 0, 1) := by decide +kernel
theorem d_Os_checkIndex_1 : decode b_Os_checkIndex 1 = .ok (.iload_n 1, 1) := by decide +kernel
theorem d_Os_checkIndex_2 : decode b_Os_checkIndex 2 = .ok (.aconst_null, 1) := by decide +kernel
theorem d_Os_checkIndex_3 : decode b_Os_checkIndex 3 = .ok (.invokestatic 105, 3) := by decide +kernel
theorem d_Os_checkIndex_6 : decode b_Os_checkIndex 6 = .ok (.ireturn, 1) := by decide +kernel
theorem d_Pr_checkIndex_0 : decode b_Pr_checkIndex 0 = .ok (.iload_n 0, 1) := by decide +kernel
theorem d_Pr_checkIndex_1 : decode b_Pr_checkIndex 1 = .ok (.ifCond .lt 8, 3) := by decide +kernel
theorem d_Pr_checkIndex_4 : decode b_Pr_checkIndex 4 = .ok (.iload_n 0, 1) := by decide +kernel
theorem d_Pr_checkIndex_5 : decode b_Pr_checkIndex 5 = .ok (.iload_n 1, 1) := by decide +kernel
theorem d_Pr_checkIndex_6 : decode b_Pr_checkIndex 6 = .ok (.if_icmp .lt 10, 3) := by decide +kernel
theorem d_Pr_checkIndex_9 : decode b_Pr_checkIndex 9 = .ok (.aload_n 2, 1) := by decide +kernel
theorem d_Pr_checkIndex_10 : decode b_Pr_checkIndex 10 = .ok (.iload_n 0, 1) := by decide +kernel
theorem d_Pr_checkIndex_11 : decode b_Pr_checkIndex 11 = .ok (.iload_n 1, 1) := by decide +kernel
theorem d_Pr_checkIndex_12 : decode b_Pr_checkIndex 12 = .ok (.invokestatic 95, 3) := by decide +kernel
theorem d_Pr_checkIndex_15 : decode b_Pr_checkIndex 15 = .ok (.athrow, 1) := by decide +kernel
theorem d_Pr_checkIndex_16 : decode b_Pr_checkIndex 16 = .ok (.iload_n 0, 1) := by decide +kernel
theorem d_Pr_checkIndex_17 : decode b_Pr_checkIndex 17 = .ok (.ireturn, 1) := by decide +kernel
theorem d_AL_elementData_0 : decode b_AL_elementData 0 = .ok (.aload_n 0, 1) := by decide +kernel
theorem d_AL_elementData_1 : decode b_AL_elementData 1 = .ok (.getfield 9, 3) := by decide +kernel
theorem d_AL_elementData_4 : decode b_AL_elementData 4 = .ok (.iload_n 1, 1) := by decide +kernel
theorem d_AL_elementData_5 : decode b_AL_elementData 5 = .ok (.aaload, 1) := by decide +kernel
theorem d_AL_elementData_6 : decode b_AL_elementData 6 = .ok (.areturn, 1) := by decide +kernel
theorem d_AL_add_0 : decode b_AL_add 0 = .ok (.aload_n 0, 1) := by decide +kernel
theorem d_AL_add_1 : decode b_AL_add 1 = .ok (.dup, 1) := by decide +kernel
theorem d_AL_add_2 : decode b_AL_add 2 = .ok (.getfield 63, 3) := by decide +kernel
theorem d_AL_add_5 : decode b_AL_add 5 = .ok (.iconst 1, 1) := by decide +kernel
theorem d_AL_add_6 : decode b_AL_add 6 = .ok (.iadd, 1) := by decide +kernel
theorem d_AL_add_7 : decode b_AL_add 7 = .ok (.putfield 63, 3) := by decide +kernel
theorem d_AL_add_10 : decode b_AL_add 10 = .ok (.aload_n 0, 1) := by decide +kernel
theorem d_AL_add_11 : decode b_AL_add 11 = .ok (.aload_n 1, 1) := by decide +kernel
theorem d_AL_add_12 : decode b_AL_add 12 = .ok (.aload_n 0, 1) := by decide +kernel
theorem d_AL_add_13 : decode b_AL_add 13 = .ok (.getfield 9, 3) := by decide +kernel
theorem d_AL_add_16 : decode b_AL_add 16 = .ok (.aload_n 0, 1) := by decide +kernel
theorem d_AL_add_17 : decode b_AL_add 17 = .ok (.getfield 48, 3) := by decide +kernel
theorem d_AL_add_20 : decode b_AL_add 20 = .ok (.invokevirtual 131, 3) := by decide +kernel
theorem d_AL_add_23 : decode b_AL_add 23 = .ok (.iconst 1, 1) := by decide +kernel
theorem d_AL_add_24 : decode b_AL_add 24 = .ok (.ireturn, 1) := by decide +kernel
theorem d_AL_add2_0 : decode b_AL_add2 0 = .ok (.iload_n 3, 1) := by decide +kernel
theorem d_AL_add2_1 : decode b_AL_add2 1 = .ok (.aload_n 2, 1) := by decide +kernel
theorem d_AL_add2_2 : decode b_AL_add2 2 = .ok (.arraylength, 1) := by decide +kernel
theorem d_AL_add2_3 : decode b_AL_add2 3 = .ok (.if_icmp .ne 8, 3) := by decide +kernel
theorem d_AL_add2_6 : decode b_AL_add2 6 = .ok (.aload_n 0, 1) := by decide +kernel
theorem d_AL_add2_7 : decode b_AL_add2 7 = .ok (.invokevirtual 129, 3) := by decide +kernel
theorem d_AL_add2_10 : decode b_AL_add2 10 = .ok (.astore_n 2, 1) := by decide +kernel
theorem d_AL_add2_11 : decode b_AL_add2 11 = .ok (.aload_n 2, 1) := by decide +kernel
theorem d_AL_add2_12 : decode b_AL_add2 12 = .ok (.iload_n 3, 1) := by decide +kernel
theorem d_AL_add2_13 : decode b_AL_add2 13 = .ok (.aload_n 1, 1) := by decide +kernel
theorem d_AL_add2_14 : decode b_AL_add2 14 = .ok (.aastore, 1) := by decide +kernel
theorem d_AL_add2_15 : decode b_AL_add2 15 = .ok (.aload_n 0, 1) := by decide +kernel
theorem d_AL_add2_16 : decode b_AL_add2 16 = .ok (.iload_n 3, 1) := by decide +kernel
theorem d_AL_add2_17 : decode b_AL_add2 17 = .ok (.iconst 1, 1) := by decide +kernel
theorem d_AL_add2_18 : decode b_AL_add2 18 = .ok (.iadd, 1) := by decide +kernel
theorem d_AL_add2_19 : decode b_AL_add2 19 = .ok (.putfield 48, 3) := by decide +kernel
theorem d_AL_add2_22 : decode b_AL_add2 22 = .ok (.return_, 1) := by decide +kernel
theorem d_AL_add3_0 : decode b_AL_add3 0 = .ok (.aload_n 0, 1) := by decide +kernel
theorem d_AL_add3_1 : decode b_AL_add3 1 = .ok (.iload_n 1, 1) := by decide +kernel
theorem d_AL_add3_2 : decode b_AL_add3 2 = .ok (.invokevirtual 135, 3) := by decide +kernel
theorem d_AL_add3_5 : decode b_AL_add3 5 = .ok (.aload_n 0, 1) := by decide +kernel
theorem d_AL_add3_6 : decode b_AL_add3 6 = .ok (.dup, 1) := by decide +kernel
theorem d_AL_add3_7 : decode b_AL_add3 7 = .ok (.getfield 63, 3) := by decide +kernel
theorem d_AL_add3_10 : decode b_AL_add3 10 = .ok (.iconst 1, 1) := by decide +kernel
theorem d_AL_add3_11 : decode b_AL_add3 11 = .ok (.iadd, 1) := by decide +kernel
theorem d_AL_add3_12 : decode b_AL_add3 12 = .ok (.putfield 63, 3) := by decide +kernel
theorem d_AL_add3_15 : decode b_AL_add3 15 = .ok (.aload_n 0, 1) := by decide +kernel
theorem d_AL_add3_16 : decode b_AL_add3 16 = .ok (.getfield 48, 3) := by decide +kernel
theorem d_AL_add3_19 : decode b_AL_add3 19 = .ok (.dup, 1) := by decide +kernel
theorem d_AL_add3_20 : decode b_AL_add3 20 = .ok (.istore_n 3, 1) := by decide +kernel
theorem d_AL_add3_21 : decode b_AL_add3 21 = .ok (.aload_n 0, 1) := by decide +kernel
theorem d_AL_add3_22 : decode b_AL_add3 22 = .ok (.getfield 9, 3) := by decide +kernel
theorem d_AL_add3_25 : decode b_AL_add3 25 = .ok (.dup, 1) := by decide +kernel
theorem d_AL_add3_26 : decode b_AL_add3 26 = .ok (.astore 4, 2) := by decide +kernel
theorem d_AL_add3_28 : decode b_AL_add3 28 = .ok (.arraylength, 1) := by decide +kernel
theorem d_AL_add3_29 : decode b_AL_add3 29 = .ok (.if_icmp .ne 9, 3) := by decide +kernel
theorem d_AL_add3_32 : decode b_AL_add3 32 = .ok (.aload_n 0, 1) := by decide +kernel
theorem d_AL_add3_33 : decode b_AL_add3 33 = .ok (.invokevirtual 129, 3) := by decide +kernel
theorem d_AL_add3_36 : decode b_AL_add3 36 = .ok (.astore 4, 2) := by decide +kernel
theorem d_AL_add3_38 : decode b_AL_add3 38 = .ok (.aload 4, 2) := by decide +kernel
theorem d_AL_add3_40 : decode b_AL_add3 40 = .ok (.iload_n 1, 1) := by decide +kernel
theorem d_AL_add3_41 : decode b_AL_add3 41 = .ok (.aload 4, 2) := by decide +kernel
theorem d_AL_add3_43 : decode b_AL_add3 43 = .ok (.iload_n 1, 1) := by decide +kernel
theorem d_AL_add3_44 : decode b_AL_add3 44 = .ok (.iconst 1, 1) := by decide +kernel
theorem d_AL_add3_45 : decode b_AL_add3 45 = .ok (.iadd, 1) := by decide +kernel
theorem d_AL_add3_46 : decode b_AL_add3 46 = .ok (.iload_n 3, 1) := by decide +kernel
theorem d_AL_add3_47 : decode b_AL_add3 47 = .ok (.iload_n 1, 1) := by decide +kernel
theorem d_AL_add3_48 : decode b_AL_add3 48 = .ok (.isub, 1) := by decide +kernel
theorem d_AL_add3_49 : decode b_AL_add3 49 = .ok (.invokestatic 112, 3) := by decide +kernel
theorem d_AL_add3_52 : decode b_AL_add3 52 = .ok (.aload 4, 2) := by decide +kernel
theorem d_AL_add3_54 : decode b_AL_add3 54 = .ok (.iload_n 1, 1) := by decide +kernel
theorem d_AL_add3_55 : decode b_AL_add3 55 = .ok (.aload_n 2, 1) := by decide +kernel
theorem d_AL_add3_56 : decode b_AL_add3 56 = .ok (.aastore, 1) := by decide +kernel
theorem d_AL_add3_57 : decode b_AL_add3 57 = .ok (.aload_n 0, 1) := by decide +kernel
theorem d_AL_add3_58 : decode b_AL_add3 58 = .ok (.iload_n 3, 1) := by decide +kernel
theorem d_AL_add3_59 : decode b_AL_add3 59 = .ok (.iconst 1, 1) := by decide +kernel
theorem d_AL_add3_60 : decode b_AL_add3 60 = .ok (.iadd, 1) := by decide +kernel
theorem d_AL_add3_61 : decode b_AL_add3 61 = .ok (.putfield 48, 3) := by decide +kernel
theorem d_AL_add3_64 : decode b_AL_add3 64 = .ok (.return_, 1) := by decide +kernel
theorem d_AL_grow_0 : decode b_AL_grow 0 = .ok (.aload_n 0, 1) := by decide +kernel
theorem d_AL_grow_1 : decode b_AL_grow 1 = .ok (.aload_n 0, 1) := by decide +kernel
theorem d_AL_grow_2 : decode b_AL_grow 2 = .ok (.getfield 48, 3) := by decide +kernel
theorem d_AL_grow_5 : decode b_AL_grow 5 = .ok (.iconst 1, 1) := by decide +kernel
theorem d_AL_grow_6 : decode b_AL_grow 6 = .ok (.iadd, 1) := by decide +kernel
theorem d_AL_grow_7 : decode b_AL_grow 7 = .ok (.invokevirtual 69, 3) := by decide +kernel
theorem d_AL_grow_10 : decode b_AL_grow 10 = .ok (.areturn, 1) := by decide +kernel
theorem d_AL_grow2_0 : decode b_AL_grow2 0 = .ok (.aload_n 0, 1) := by decide +kernel
theorem d_AL_grow2_1 : decode b_AL_grow2 1 = .ok (.getfield 9, 3) := by decide +kernel
theorem d_AL_grow2_4 : decode b_AL_grow2 4 = .ok (.arraylength, 1) := by decide +kernel
theorem d_AL_grow2_5 : decode b_AL_grow2 5 = .ok (.istore_n 2, 1) := by decide +kernel
theorem d_AL_grow2_6 : decode b_AL_grow2 6 = .ok (.iload_n 2, 1) := by decide +kernel
theorem d_AL_grow2_7 : decode b_AL_grow2 7 = .ok (.ifCond .gt 13, 3) := by decide +kernel
theorem d_AL_grow2_10 : decode b_AL_grow2 10 = .ok (.aload_n 0, 1) := by decide +kernel
theorem d_AL_grow2_11 : decode b_AL_grow2 11 = .ok (.getfield 9, 3) := by decide +kernel
theorem d_AL_grow2_14 : decode b_AL_grow2 14 = .ok (.getstatic 39, 3) := by decide +kernel
theorem d_AL_grow2_17 : decode b_AL_grow2 17 = .ok (.if_acmp .eq 28, 3) := by decide +kernel
theorem d_AL_grow2_20 : decode b_AL_grow2 20 = .ok (.iload_n 2, 1) := by decide +kernel
theorem d_AL_grow2_21 : decode b_AL_grow2 21 = .ok (.iload_n 1, 1) := by decide +kernel
theorem d_AL_grow2_22 : decode b_AL_grow2 22 = .ok (.iload_n 2, 1) := by decide +kernel
theorem d_AL_grow2_23 : decode b_AL_grow2 23 = .ok (.isub, 1) := by decide +kernel
theorem d_AL_grow2_24 : decode b_AL_grow2 24 = .ok (.iload_n 2, 1) := by decide +kernel
theorem d_AL_grow2_25 : decode b_AL_grow2 25 = .ok (.iconst 1, 1) := by decide +kernel
theorem d_AL_grow2_26 : decode b_AL_grow2 26 = .ok (.ishr, 1) := by decide +kernel
theorem d_AL_grow2_27 : decode b_AL_grow2 27 = .ok (.invokestatic 73, 3) := by decide +kernel
theorem d_AL_grow2_30 : decode b_AL_grow2 30 = .ok (.istore_n 3, 1) := by decide +kernel
theorem d_AL_grow2_31 : decode b_AL_grow2 31 = .ok (.aload_n 0, 1) := by decide +kernel
theorem d_AL_grow2_32 : decode b_AL_grow2 32 = .ok (.aload_n 0, 1) := by decide +kernel
theorem d_AL_grow2_33 : decode b_AL_grow2 33 = .ok (.getfield 9, 3) := by decide +kernel
theorem d_AL_grow2_36 : decode b_AL_grow2 36 = .ok (.iload_n 3, 1) := by decide +kernel
theorem d_AL_grow2_37 : decode b_AL_grow2 37 = .ok (.invokestatic 66, 3) := by decide +kernel
theorem d_AL_grow2_40 : decode b_AL_grow2 40 = .ok (.dup_x1, 1) := by decide +kernel
theorem d_AL_grow2_41 : decode b_AL_grow2 41 = .ok (.putfield 9, 3) := by decide +kernel
theorem d_AL_grow2_44 : decode b_AL_grow2 44 = .ok (.areturn, 1) := by decide +kernel
theorem d_AL_grow2_45 : decode b_AL_grow2 45 = .ok (.aload_n 0, 1) := by decide +kernel
theorem d_AL_grow2_46 : decode b_AL_grow2 46 = .ok (.bipush 10, 2) := by decide +kernel
theorem d_AL_grow2_48 : decode b_AL_grow2 48 = .ok (.iload_n 1, 1) := by decide +kernel
theorem d_AL_grow2_49 : decode b_AL_grow2 49 = .ok (.invokestatic 79, 3) := by decide +kernel
theorem d_AL_grow2_52 : decode b_AL_grow2 52 = .ok (.anewarray 7, 3) := by decide +kernel
theorem d_AL_grow2_55 : decode b_AL_grow2 55 = .ok (.dup_x1, 1) := by decide +kernel
theorem d_AL_grow2_56 : decode b_AL_grow2 56 = .ok (.putfield 9, 3) := by decide +kernel
theorem d_AL_grow2_59 : decode b_AL_grow2 59 = .ok (.areturn, 1) := by decide +kernel
theorem d_As_newLength_0 : decode b_As_newLength 0 = .ok (.iload_n 0, 1) := by decide +kernel
theorem d_As_newLength_1 : decode b_As_newLength 1 = .ok (.iload_n 1, 1) := by decide +kernel
theorem d_As_newLength_2 : decode b_As_newLength 2 = .ok (.iload_n 2, 1) := by decide +kernel
theorem d_As_newLength_3 : decode b_As_newLength 3 = .ok (.invokestatic 194, 3) := by decide +kernel
theorem d_As_newLength_6 : decode b_As_newLength 6 = .ok (.iadd, 1) := by decide +kernel
theorem d_As_newLength_7 : decode b_As_newLength 7 = .ok (.istore_n 3, 1) := by decide +kernel
theorem d_As_newLength_8 : decode b_As_newLength 8 = .ok (.iconst 0, 1) := by decide +kernel
theorem d_As_newLength_9 : decode b_As_newLength 9 = .ok (.iload_n 3, 1) := by decide +kernel
theorem d_As_newLength_10 : decode b_As_newLength 10 = .ok (.if_icmp .ge 11, 3) := by decide +kernel
theorem d_As_newLength_13 : decode b_As_newLength 13 = .ok (.iload_n 3, 1) := by decide +kernel
theorem d_As_newLength_14 : decode b_As_newLength 14 = .ok (.ldc 200, 2) := by decide +kernel
theorem d_As_newLength_16 : decode b_As_newLength 16 = .ok (.if_icmp .gt 5, 3) := by decide +kernel
theorem d_As_newLength_19 : decode b_As_newLength 19 = .ok (.iload_n 3, 1) := by decide +kernel
theorem d_As_newLength_20 : decode b_As_newLength 20 = .ok (.ireturn, 1) := by decide +kernel
theorem d_As_newLength_21 : decode b_As_newLength 21 = .ok (.iload_n 0, 1) := by decide +kernel
theorem d_As_newLength_22 : decode b_As_newLength 22 = .ok (.iload_n 1, 1) := by decide +kernel
theorem d_As_newLength_23 : decode b_As_newLength 23 = .ok (.invokestatic 201, 3) := by decide +kernel
theorem d_As_newLength_26 : decode b_As_newLength 26 = .ok (.ireturn, 1) := by decide +kernel
theorem d_Ma_max_0 : decode b_Ma_max 0 = .ok (.iload_n 0, 1) := by decide +kernel
theorem d_Ma_max_1 : decode b_Ma_max 1 = .ok (.iload_n 1, 1) := by decide +kernel
theorem d_Ma_max_2 : decode b_Ma_max 2 = .ok (.if_icmp .lt 7, 3) := by decide +kernel
theorem d_Ma_max_5 : decode b_Ma_max 5 = .ok (.iload_n 0, 1) := by decide +kernel
theorem d_Ma_max_6 : decode b_Ma_max 6 = .ok (.goto 4, 3) := by decide +kernel
theorem d_Ma_max_9 : decode b_Ma_max 9 = .ok (.iload_n 1, 1) := by decide +kernel
theorem d_Ma_max_10 : decode b_Ma_max 10 = .ok (.ireturn, 1) := by decide +kernel
theorem d_As_hugeLength_0 : decode b_As_hugeLength 0 = .ok (.iload_n 0, 1) := by decide +kernel
theorem d_As_hugeLength_1 : decode b_As_hugeLength 1 = .ok (.iload_n 1, 1) := by decide +kernel
theorem d_As_hugeLength_2 : decode b_As_hugeLength 2 = .ok (.iadd, 1) := by decide +kernel
theorem d_As_hugeLength_3 : decode b_As_hugeLength 3 = .ok (.istore_n 2, 1) := by decide +kernel
theorem d_As_hugeLength_4 : decode b_As_hugeLength 4 = .ok (.iload_n 2, 1) := by decide +kernel
theorem d_As_hugeLength_5 : decode b_As_hugeLength 5 = .ok (.ifCond .ge 44, 3) := by decide +kernel
theorem d_As_hugeLength_8 : decode b_As_hugeLength 8 = .ok (.new 204, 3) := by decide +kernel
theorem d_As_hugeLength_11 : decode b_As_hugeLength 11 = .ok (.dup, 1) := by decide +kernel
theorem d_As_hugeLength_12 : decode b_As_hugeLength 12 = .ok (.new 89, 3) := by decide +kernel
theorem d_As_hugeLength_15 : decode b_As_hugeLength 15 = .ok (.dup, 1) := by decide +kernel
theorem d_As_hugeLength_16 : decode b_As_hugeLength 16 = .ok (.invokespecial 91, 3) := by decide +kernel
theorem d_As_hugeLength_19 : decode b_As_hugeLength 19 = .ok (.ldc 206, 2) := by decide +kernel
theorem d_As_hugeLength_21 : decode b_As_hugeLength 21 = .ok (.invokevirtual 94, 3) := by decide +kernel
theorem d_As_hugeLength_24 : decode b_As_hugeLength 24 = .ok (.iload_n 0, 1) := by decide +kernel
theorem d_As_hugeLength_25 : decode b_As_hugeLength 25 = .ok (.invokevirtual 98, 3) := by decide +kernel
theorem d_As_hugeLength_28 : decode b_As_hugeLength 28 = .ok (.ldc 208, 2) := by decide +kernel
theorem d_As_hugeLength_30 : decode b_As_hugeLength 30 = .ok (.invokevirtual 94, 3) := by decide +kernel
theorem d_As_hugeLength_33 : decode b_As_hugeLength 33 = .ok (.iload_n 1, 1) := by decide +kernel
theorem d_As_hugeLength_34 : decode b_As_hugeLength 34 = .ok (.invokevirtual 98, 3) := by decide +kernel
theorem d_As_hugeLength_37 : decode b_As_hugeLength 37 = .ok (.ldc 210, 2) := by decide +kernel
theorem d_As_hugeLength_39 : decode b_As_hugeLength 39 = .ok (.invokevirtual 94, 3) := by decide +kernel
theorem d_As_hugeLength_42 : decode b_As_hugeLength 42 = .ok (.invokevirtual 101, 3) := by decide +kernel
theorem d_As_hugeLength_45 : decode b_As_hugeLength 45 = .ok (.invokespecial 212, 3) := by decide +kernel
theorem d_As_hugeLength_48 : decode b_As_hugeLength 48 = .ok (.athrow, 1) := by decide +kernel
theorem d_As_hugeLength_49 : decode b_As_hugeLength 49 = .ok (.iload_n 2, 1) := by decide +kernel
theorem d_As_hugeLength_50 : decode b_As_hugeLength 50 = .ok (.ldc 200, 2) := by decide +kernel
theorem d_As_hugeLength_52 : decode b_As_hugeLength 52 = .ok (.if_icmp .gt 6, 3) := by decide +kernel
theorem d_As_hugeLength_55 : decode b_As_hugeLength 55 = .ok (.ldc 200, 2) := by decide +kernel
theorem d_As_hugeLength_57 : decode b_As_hugeLength 57 = .ok (.ireturn, 1) := by decide +kernel
theorem d_As_hugeLength_58 : decode b_As_hugeLength 58 = .ok (.iload_n 2, 1) := by decide +kernel
theorem d_As_hugeLength_59 : decode b_As_hugeLength 59 = .ok (.ireturn, 1) := by decide +kernel
theorem d_Ar_copyOf_0 : decode b_Ar_copyOf 0 = .ok (.aload_n 0, 1) := by decide +kernel
theorem d_Ar_copyOf_1 : decode b_Ar_copyOf 1 = .ok (.iload_n 1, 1) := by decide +kernel
theorem d_Ar_copyOf_2 : decode b_Ar_copyOf 2 = .ok (.aload_n 0, 1) := by decide +kernel
theorem d_Ar_copyOf_3 : decode b_Ar_copyOf 3 = .ok (.invokevirtual 86, 3) := by decide +kernel
theorem d_Ar_copyOf_6 : decode b_Ar_copyOf 6 = .ok (.invokestatic 300, 3) := by decide +kernel
theorem d_Ar_copyOf_9 : decode b_Ar_copyOf 9 = .ok (.areturn, 1) := by decide +kernel
theorem d_Ar_copyOf2_0 : decode b_Ar_copyOf2 0 = .ok (.aload_n 2, 1) := by decide +kernel
theorem d_Ar_copyOf2_1 : decode b_Ar_copyOf2 1 = .ok (.ldc 110, 2) := by decide +kernel
theorem d_Ar_copyOf2_3 : decode b_Ar_copyOf2 3 = .ok (.if_acmp .ne 10, 3) := by decide +kernel
theorem d_Ar_copyOf2_6 : decode b_Ar_copyOf2 6 = .ok (.iload_n 1, 1) := by decide +kernel
theorem d_Ar_copyOf2_7 : decode b_Ar_copyOf2 7 = .ok (.anewarray 2, 3) := by decide +kernel
theorem d_Ar_copyOf2_10 : decode b_Ar_copyOf2 10 = .ok (.goto 14, 3) := by decide +kernel
theorem d_Ar_copyOf2_13 : decode b_Ar_copyOf2 13 = .ok (.aload_n 2, 1) := by decide +kernel
theorem d_Ar_copyOf2_14 : decode b_Ar_copyOf2 14 = .ok (.invokevirtual 90, 3) := by decide +kernel
theorem d_Ar_copyOf2_17 : decode b_Ar_copyOf2 17 = .ok (.iload_n 1, 1) := by decide +kernel
theorem d_Ar_copyOf2_18 : decode b_Ar_copyOf2 18 = .ok (.invokestatic 95, 3) := by decide +kernel
theorem d_Ar_copyOf2_21 : decode b_Ar_copyOf2 21 = .ok (.checkcast 110, 3) := by decide +kernel
theorem d_Ar_copyOf2_24 : decode b_Ar_copyOf2 24 = .ok (.astore_n 3, 1) := by decide +kernel
theorem d_Ar_copyOf2_25 : decode b_Ar_copyOf2 25 = .ok (.aload_n 0, 1) := by decide +kernel
theorem d_Ar_copyOf2_26 : decode b_Ar_copyOf2 26 = .ok (.iconst 0, 1) := by decide +kernel
theorem d_Ar_copyOf2_27 : decode b_Ar_copyOf2 27 = .ok (.aload_n 3, 1) := by decide +kernel
theorem d_Ar_copyOf2_28 : decode b_Ar_copyOf2 28 = .ok (.iconst 0, 1) := by decide +kernel
theorem d_Ar_copyOf2_29 : decode b_Ar_copyOf2 29 = .ok (.aload_n 0, 1) := by decide +kernel
theorem d_Ar_copyOf2_30 : decode b_Ar_copyOf2 30 = .ok (.arraylength, 1) := by decide +kernel
theorem d_Ar_copyOf2_31 : decode b_Ar_copyOf2 31 = .ok (.iload_n 1, 1) := by decide +kernel
theorem d_Ar_copyOf2_32 : decode b_Ar_copyOf2 32 = .ok (.invokestatic 304, 3) := by decide +kernel
theorem d_Ar_copyOf2_35 : decode b_Ar_copyOf2 35 = .ok (.invokestatic 150, 3) := by decide +kernel
theorem d_Ar_copyOf2_38 : decode b_Ar_copyOf2 38 = .ok (.aload_n 3, 1) := by decide +kernel
theorem d_Ar_copyOf2_39 : decode b_Ar_copyOf2 39 = .ok (.areturn, 1) := by decide +kernel
theorem d_Ma_min_0 : decode b_Ma_min 0 = .ok (.iload_n 0, 1) := by decide +kernel
theorem d_Ma_min_1 : decode b_Ma_min 1 = .ok (.iload_n 1, 1) := by decide +kernel
theorem d_Ma_min_2 : decode b_Ma_min 2 = .ok (.if_icmp .gt 7, 3) := by decide +kernel
theorem d_Ma_min_5 : decode b_Ma_min 5 = .ok (.iload_n 0, 1) := by decide +kernel
theorem d_Ma_min_6 : decode b_Ma_min 6 = .ok (.goto 4, 3) := by decide +kernel
theorem d_Ma_min_9 : decode b_Ma_min 9 = .ok (.iload_n 1, 1) := by decide +kernel
theorem d_Ma_min_10 : decode b_Ma_min 10 = .ok (.ireturn, 1) := by decide +kernel
theorem d_AL_remove_0 : decode b_AL_remove 0 = .ok (.iload_n 1, 1) := by decide +kernel
theorem d_AL_remove_1 : decode b_AL_remove 1 = .ok (.aload_n 0, 1) := by decide +kernel
theorem d_AL_remove_2 : decode b_AL_remove 2 = .ok (.getfield 48, 3) := by decide +kernel
theorem d_AL_remove_5 : decode b_AL_remove 5 = .ok (.invokestatic 118, 3) := by decide +kernel
theorem d_AL_remove_8 : decode b_AL_remove 8 = .ok (.pop, 1) := by decide +kernel
theorem d_AL_remove_9 : decode b_AL_remove 9 = .ok (.aload_n 0, 1) := by decide +kernel
theorem d_AL_remove_10 : decode b_AL_remove 10 = .ok (.getfield 9, 3) := by decide +kernel
theorem d_AL_remove_13 : decode b_AL_remove 13 = .ok (.astore_n 2, 1) := by decide +kernel
theorem d_AL_remove_14 : decode b_AL_remove 14 = .ok (.aload_n 2, 1) := by decide +kernel
theorem d_AL_remove_15 : decode b_AL_remove 15 = .ok (.iload_n 1, 1) := by decide +kernel
theorem d_AL_remove_16 : decode b_AL_remove 16 = .ok (.aaload, 1) := by decide +kernel
theorem d_AL_remove_17 : decode b_AL_remove 17 = .ok (.astore_n 3, 1) := by decide +kernel
theorem d_AL_remove_18 : decode b_AL_remove 18 = .ok (.aload_n 0, 1) := by decide +kernel
theorem d_AL_remove_19 : decode b_AL_remove 19 = .ok (.aload_n 2, 1) := by decide +kernel
theorem d_AL_remove_20 : decode b_AL_remove 20 = .ok (.iload_n 1, 1) := by decide +kernel
theorem d_AL_remove_21 : decode b_AL_remove 21 = .ok (.invokevirtual 144, 3) := by decide +kernel
theorem d_AL_remove_24 : decode b_AL_remove 24 = .ok (.aload_n 3, 1) := by decide +kernel
theorem d_AL_remove_25 : decode b_AL_remove 25 = .ok (.areturn, 1) := by decide +kernel
theorem d_AL_fastRemove_0 : decode b_AL_fastRemove 0 = .ok (.aload_n 0, 1) := by decide +kernel
theorem d_AL_fastRemove_1 : decode b_AL_fastRemove 1 = .ok (.dup, 1) := by decide +kernel
theorem d_AL_fastRemove_2 : decode b_AL_fastRemove 2 = .ok (.getfield 63, 3) := by decide +kernel
theorem d_AL_fastRemove_5 : decode b_AL_fastRemove 5 = .ok (.iconst 1, 1) := by decide +kernel
theorem d_AL_fastRemove_6 : decode b_AL_fastRemove 6 = .ok (.iadd, 1) := by decide +kernel
theorem d_AL_fastRemove_7 : decode b_AL_fastRemove 7 = .ok (.putfield 63, 3) := by decide +kernel
theorem d_AL_fastRemove_10 : decode b_AL_fastRemove 10 = .ok (.aload_n 0, 1) := by decide +kernel
theorem d_AL_fastRemove_11 : decode b_AL_fastRemove 11 = .ok (.getfield 48, 3) := by decide +kernel
theorem d_AL_fastRemove_14 : decode b_AL_fastRemove 14 = .ok (.iconst 1, 1) := by decide +kernel
theorem d_AL_fastRemove_15 : decode b_AL_fastRemove 15 = .ok (.isub, 1) := by decide +kernel
theorem d_AL_fastRemove_16 : decode b_AL_fastRemove 16 = .ok (.dup, 1) := by decide +kernel
theorem d_AL_fastRemove_17 : decode b_AL_fastRemove 17 = .ok (.istore_n 3, 1) := by decide +kernel
theorem d_AL_fastRemove_18 : decode b_AL_fastRemove 18 = .ok (.iload_n 2, 1) := by decide +kernel
theorem d_AL_fastRemove_19 : decode b_AL_fastRemove 19 = .ok (.if_icmp .le 15, 3) := by decide +kernel
theorem d_AL_fastRemove_22 : decode b_AL_fastRemove 22 = .ok (.aload_n 1, 1) := by decide +kernel
theorem d_AL_fastRemove_23 : decode b_AL_fastRemove 23 = .ok (.iload_n 2, 1) := by decide +kernel
theorem d_AL_fastRemove_24 : decode b_AL_fastRemove 24 = .ok (.iconst 1, 1) := by decide +kernel
theorem d_AL_fastRemove_25 : decode b_AL_fastRemove 25 = .ok (.iadd, 1) := by decide +kernel
theorem d_AL_fastRemove_26 : decode b_AL_fastRemove 26 = .ok (.aload_n 1, 1) := by decide +kernel
theorem d_AL_fastRemove_27 : decode b_AL_fastRemove 27 = .ok (.iload_n 2, 1) := by decide +kernel
theorem d_AL_fastRemove_28 : decode b_AL_fastRemove 28 = .ok (.iload_n 3, 1) := by decide +kernel
theorem d_AL_fastRemove_29 : decode b_AL_fastRemove 29 = .ok (.iload_n 2, 1) := by decide +kernel
theorem d_AL_fastRemove_30 : decode b_AL_fastRemove 30 = .ok (.isub, 1) := by decide +kernel
theorem d_AL_fastRemove_31 : decode b_AL_fastRemove 31 = .ok (.invokestatic 112, 3) := by decide +kernel
theorem d_AL_fastRemove_34 : decode b_AL_fastRemove 34 = .ok (.aload_n 1, 1) := by decide +kernel
theorem d_AL_fastRemove_35 : decode b_AL_fastRemove 35 = .ok (.aload_n 0, 1) := by decide +kernel
theorem d_AL_fastRemove_36 : decode b_AL_fastRemove 36 = .ok (.iload_n 3, 1) := by decide +kernel
theorem d_AL_fastRemove_37 : decode b_AL_fastRemove 37 = .ok (.dup_x1, 1) := by decide +kernel
theorem d_AL_fastRemove_38 : decode b_AL_fastRemove 38 = .ok (.putfield 48, 3) := by decide +kernel
theorem d_AL_fastRemove_41 : decode b_AL_fastRemove 41 = .ok (.aconst_null, 1) := by decide +kernel
theorem d_AL_fastRemove_42 : decode b_AL_fastRemove 42 = .ok (.aastore, 1) := by decide +kernel
theorem d_AL_fastRemove_43 : decode b_AL_fastRemove 43 = .ok (.return_, 1) := by decide +kernel
theorem d_AL_rangeCheckForAdd_0 : decode b_AL_rangeCheckForAdd 0 = .ok (.iload_n 1, 1) := by decide +kernel
theorem d_AL_rangeCheckForAdd_1 : decode b_AL_rangeCheckForAdd 1 = .ok (.aload_n 0, 1) := by decide +kernel
theorem d_AL_rangeCheckForAdd_2 : decode b_AL_rangeCheckForAdd 2 = .ok (.getfield 48, 3) := by decide +kernel
theorem d_AL_rangeCheckForAdd_5 : decode b_AL_rangeCheckForAdd 5 = .ok (.if_icmp .gt 7, 3) := by decide +kernel
theorem d_AL_rangeCheckForAdd_8 : decode b_AL_rangeCheckForAdd 8 = .ok (.iload_n 1, 1) := by decide +kernel
theorem d_AL_rangeCheckForAdd_9 : decode b_AL_rangeCheckForAdd 9 = .ok (.ifCond .ge 16, 3) := by decide +kernel
theorem d_AL_rangeCheckForAdd_12 : decode b_AL_rangeCheckForAdd 12 = .ok (.new 187, 3) := by decide +kernel
theorem d_AL_rangeCheckForAdd_15 : decode b_AL_rangeCheckForAdd 15 = .ok (.dup, 1) := by decide +kernel
theorem d_AL_rangeCheckForAdd_16 : decode b_AL_rangeCheckForAdd 16 = .ok (.aload_n 0, 1) := by decide +kernel
theorem d_AL_rangeCheckForAdd_17 : decode b_AL_rangeCheckForAdd 17 = .ok (.iload_n 1, 1) := by decide +kernel
theorem d_AL_rangeCheckForAdd_18 : decode b_AL_rangeCheckForAdd 18 = .ok (.invokevirtual 198, 3) := by decide +kernel
theorem d_AL_rangeCheckForAdd_21 : decode b_AL_rangeCheckForAdd 21 = .ok (.invokespecial 193, 3) := by decide +kernel
theorem d_AL_rangeCheckForAdd_24 : decode b_AL_rangeCheckForAdd 24 = .ok (.athrow, 1) := by decide +kernel
theorem d_AL_rangeCheckForAdd_25 : decode b_AL_rangeCheckForAdd 25 = .ok (.return_, 1) := by decide +kernel
theorem d_AL_clear_0 : decode b_AL_clear 0 = .ok (.aload_n 0, 1) := by decide +kernel
theorem d_AL_clear_1 : decode b_AL_clear 1 = .ok (.dup, 1) := by decide +kernel
theorem d_AL_clear_2 : decode b_AL_clear 2 = .ok (.getfield 63, 3) := by decide +kernel
theorem d_AL_clear_5 : decode b_AL_clear 5 = .ok (.iconst 1, 1) := by decide +kernel
theorem d_AL_clear_6 : decode b_AL_clear 6 = .ok (.iadd, 1) := by decide +kernel
theorem d_AL_clear_7 : decode b_AL_clear 7 = .ok (.putfield 63, 3) := by decide +kernel
theorem d_AL_clear_10 : decode b_AL_clear 10 = .ok (.aload_n 0, 1) := by decide +kernel
theorem d_AL_clear_11 : decode b_AL_clear 11 = .ok (.getfield 9, 3) := by decide +kernel
theorem d_AL_clear_14 : decode b_AL_clear 14 = .ok (.astore_n 1, 1) := by decide +kernel
theorem d_AL_clear_15 : decode b_AL_clear 15 = .ok (.aload_n 0, 1) := by decide +kernel
theorem d_AL_clear_16 : decode b_AL_clear 16 = .ok (.getfield 48, 3) := by decide +kernel
theorem d_AL_clear_19 : decode b_AL_clear 19 = .ok (.istore_n 2, 1) := by decide +kernel
theorem d_AL_clear_20 : decode b_AL_clear 20 = .ok (.aload_n 0, 1) := by decide +kernel
theorem d_AL_clear_21 : decode b_AL_clear 21 = .ok (.iconst 0, 1) := by decide +kernel
theorem d_AL_clear_22 : decode b_AL_clear 22 = .ok (.dup_x1, 1) := by decide +kernel
theorem d_AL_clear_23 : decode b_AL_clear 23 = .ok (.putfield 48, 3) := by decide +kernel
theorem d_AL_clear_26 : decode b_AL_clear 26 = .ok (.istore_n 3, 1) := by decide +kernel
theorem d_AL_clear_27 : decode b_AL_clear 27 = .ok (.iload_n 3, 1) := by decide +kernel
theorem d_AL_clear_28 : decode b_AL_clear 28 = .ok (.iload_n 2, 1) := by decide +kernel
theorem d_AL_clear_29 : decode b_AL_clear 29 = .ok (.if_icmp .ge 13, 3) := by decide +kernel
theorem d_AL_clear_32 : decode b_AL_clear 32 = .ok (.aload_n 1, 1) := by decide +kernel
theorem d_AL_clear_33 : decode b_AL_clear 33 = .ok (.iload_n 3, 1) := by decide +kernel
theorem d_AL_clear_34 : decode b_AL_clear 34 = .ok (.aconst_null, 1) := by decide +kernel
theorem d_AL_clear_35 : decode b_AL_clear 35 = .ok (.aastore, 1) := by decide +kernel
theorem d_AL_clear_36 : decode b_AL_clear 36 = .ok (.iinc 3 1, 3) := by decide +kernel
theorem d_AL_clear_39 : decode b_AL_clear 39 = .ok (.goto (-12), 3) := by decide +kernel
theorem d_AL_clear_42 : decode b_AL_clear 42 = .ok (.return_, 1) := by decide +kernel
theorem d_Ma_floorMod_0 : decode b_Ma_floorMod 0 = .ok (.iload_n 0, 1) := by decide +kernel
theorem d_Ma_floorMod_1 : decode b_Ma_floorMod 1 = .ok (.iload_n 1, 1) := by decide +kernel
theorem d_Ma_floorMod_2 : decode b_Ma_floorMod 2 = .ok (.irem, 1) := by decide +kernel
theorem d_Ma_floorMod_3 : decode b_Ma_floorMod 3 = .ok (.istore_n 2, 1) := by decide +kernel
theorem d_Ma_floorMod_4 : decode b_Ma_floorMod 4 = .ok (.iload_n 0, 1) := by decide +kernel
theorem d_Ma_floorMod_5 : decode b_Ma_floorMod 5 = .ok (.iload_n 1, 1) := by decide +kernel
theorem d_Ma_floorMod_6 : decode b_Ma_floorMod 6 = .ok (.ixor, 1) := by decide +kernel
theorem d_Ma_floorMod_7 : decode b_Ma_floorMod 7 = .ok (.ifCond .ge 11, 3) := by decide +kernel
theorem d_Ma_floorMod_10 : decode b_Ma_floorMod 10 = .ok (.iload_n 2, 1) := by decide +kernel
theorem d_Ma_floorMod_11 : decode b_Ma_floorMod 11 = .ok (.ifCond .eq 7, 3) := by decide +kernel
theorem d_Ma_floorMod_14 : decode b_Ma_floorMod 14 = .ok (.iload_n 2, 1) := by decide +kernel
theorem d_Ma_floorMod_15 : decode b_Ma_floorMod 15 = .ok (.iload_n 1, 1) := by decide +kernel
theorem d_Ma_floorMod_16 : decode b_Ma_floorMod 16 = .ok (.iadd, 1) := by decide +kernel
theorem d_Ma_floorMod_17 : decode b_Ma_floorMod 17 = .ok (.ireturn, 1) := by decide +kernel
theorem d_Ma_floorMod_18 : decode b_Ma_floorMod 18 = .ok (.iload_n 2, 1) := by decide +kernel
theorem d_Ma_floorMod_19 : decode b_Ma_floorMod 19 = .ok (.ireturn, 1) := by decide +kernel
theorem d_Ns_init_0 : decode b_Ns_init 0 = .ok (.aload_n 0, 1) := by decide +kernel
theorem d_Ns_init_1 : decode b_Ns_init 1 = .ok (.aload_n 1, 1) := by decide +kernel
theorem d_Ns_init_2 : decode b_Ns_init 2 = .ok (.invokespecial 13, 3) := by decide +kernel
theorem d_Ns_init_5 : decode b_Ns_init 5 = .ok (.return_, 1) := by decide +kernel
end
section
/-! What each instruction decodes to (wip/tools/names.py). -/
theorem d_Lw_make_0 : decode b_Lw_make 0 = .ok (.aload_n 2, 1) := by decide +kernel
theorem d_Lw_make_1 : decode b_Lw_make 1 = .ok (.iconst 0, 1) := by decide +kernel
theorem d_Lw_make_2 : decode b_Lw_make 2 = .ok (.aload_n 0, 1) := by decide +kernel
theorem d_Lw_make_3 : decode b_Lw_make 3 = .ok (.iload_n 1, 1) := by decide +kernel
theorem d_Lw_make_4 : decode b_Lw_make 4 = .ok (.invokevirtual 7, 3) := by decide +kernel
theorem d_Lw_make_7 : decode b_Lw_make 7 = .ok (.i2l, 1) := by decide +kernel
theorem d_Lw_make_8 : decode b_Lw_make 8 = .ok (.lastore, 1) := by decide +kernel
theorem d_Lw_make_9 : decode b_Lw_make 9 = .ok (.goto 9, 3) := by decide +kernel
theorem d_Lw_make_12 : decode b_Lw_make 12 = .ok (.astore_n 3, 1) := by decide +kernel
theorem d_Lw_make_13 : decode b_Lw_make 13 = .ok (.iconst 1, 1) := by decide +kernel
theorem d_Lw_make_14 : decode b_Lw_make 14 = .ok (.ireturn, 1) := by decide +kernel
theorem d_Lw_make_15 : decode b_Lw_make 15 = .ok (.astore_n 3, 1) := by decide +kernel
theorem d_Lw_make_16 : decode b_Lw_make 16 = .ok (.iconst 2, 1) := by decide +kernel
theorem d_Lw_make_17 : decode b_Lw_make 17 = .ok (.ireturn, 1) := by decide +kernel
theorem d_Lw_make_18 : decode b_Lw_make 18 = .ok (.iconst 0, 1) := by decide +kernel
theorem d_Lw_make_19 : decode b_Lw_make 19 = .ok (.ireturn, 1) := by decide +kernel
theorem d_Lw_refer_0 : decode b_Lw_refer 0 = .ok (.aload 4, 2) := by decide +kernel
theorem d_Lw_refer_2 : decode b_Lw_refer 2 = .ok (.iconst 0, 1) := by decide +kernel
theorem d_Lw_refer_3 : decode b_Lw_refer 3 = .ok (.aload_n 0, 1) := by decide +kernel
theorem d_Lw_refer_4 : decode b_Lw_refer 4 = .ok (.iload_n 1, 1) := by decide +kernel
theorem d_Lw_refer_5 : decode b_Lw_refer 5 = .ok (.iload_n 2, 1) := by decide +kernel
theorem d_Lw_refer_6 : decode b_Lw_refer 6 = .ok (.iload_n 3, 1) := by decide +kernel
theorem d_Lw_refer_7 : decode b_Lw_refer 7 = .ok (.invokevirtual 17, 3) := by decide +kernel
theorem d_Lw_refer_10 : decode b_Lw_refer 10 = .ok (.i2l, 1) := by decide +kernel
theorem d_Lw_refer_11 : decode b_Lw_refer 11 = .ok (.lastore, 1) := by decide +kernel
theorem d_Lw_refer_12 : decode b_Lw_refer 12 = .ok (.goto 7, 3) := by decide +kernel
theorem d_Lw_refer_15 : decode b_Lw_refer 15 = .ok (.astore 5, 2) := by decide +kernel
theorem d_Lw_refer_17 : decode b_Lw_refer 17 = .ok (.iconst 1, 1) := by decide +kernel
theorem d_Lw_refer_18 : decode b_Lw_refer 18 = .ok (.ireturn, 1) := by decide +kernel
theorem d_Lw_refer_19 : decode b_Lw_refer 19 = .ok (.iconst 0, 1) := by decide +kernel
theorem d_Lw_refer_20 : decode b_Lw_refer 20 = .ok (.ireturn, 1) := by decide +kernel
theorem d_Lw_root_0 : decode b_Lw_root 0 = .ok (.aload_n 3, 1) := by decide +kernel
theorem d_Lw_root_1 : decode b_Lw_root 1 = .ok (.iconst 0, 1) := by decide +kernel
theorem d_Lw_root_2 : decode b_Lw_root 2 = .ok (.aload_n 0, 1) := by decide +kernel
theorem d_Lw_root_3 : decode b_Lw_root 3 = .ok (.iload_n 1, 1) := by decide +kernel
theorem d_Lw_root_4 : decode b_Lw_root 4 = .ok (.iload_n 2, 1) := by decide +kernel
theorem d_Lw_root_5 : decode b_Lw_root 5 = .ok (.invokevirtual 21, 3) := by decide +kernel
theorem d_Lw_root_8 : decode b_Lw_root 8 = .ok (.ifCond .eq 7, 3) := by decide +kernel
theorem d_Lw_root_11 : decode b_Lw_root 11 = .ok (.lconst 1, 1) := by decide +kernel
theorem d_Lw_root_12 : decode b_Lw_root 12 = .ok (.goto 4, 3) := by decide +kernel
theorem d_Lw_root_15 : decode b_Lw_root 15 = .ok (.lconst 0, 1) := by decide +kernel
theorem d_Lw_root_16 : decode b_Lw_root 16 = .ok (.lastore, 1) := by decide +kernel
theorem d_Lw_root_17 : decode b_Lw_root 17 = .ok (.goto 7, 3) := by decide +kernel
theorem d_Lw_root_20 : decode b_Lw_root 20 = .ok (.astore 4, 2) := by decide +kernel
theorem d_Lw_root_22 : decode b_Lw_root 22 = .ok (.iconst 1, 1) := by decide +kernel
theorem d_Lw_root_23 : decode b_Lw_root 23 = .ok (.ireturn, 1) := by decide +kernel
theorem d_Lw_root_24 : decode b_Lw_root 24 = .ok (.iconst 0, 1) := by decide +kernel
theorem d_Lw_root_25 : decode b_Lw_root 25 = .ok (.ireturn, 1) := by decide +kernel
theorem d_Lw_put_0 : decode b_Lw_put 0 = .ok (.aload 4, 2) := by decide +kernel
theorem d_Lw_put_2 : decode b_Lw_put 2 = .ok (.iconst 0, 1) := by decide +kernel
theorem d_Lw_put_3 : decode b_Lw_put 3 = .ok (.aload_n 0, 1) := by decide +kernel
theorem d_Lw_put_4 : decode b_Lw_put 4 = .ok (.iload_n 1, 1) := by decide +kernel
theorem d_Lw_put_5 : decode b_Lw_put 5 = .ok (.iload_n 2, 1) := by decide +kernel
theorem d_Lw_put_6 : decode b_Lw_put 6 = .ok (.iload_n 3, 1) := by decide +kernel
theorem d_Lw_put_7 : decode b_Lw_put 7 = .ok (.invokevirtual 25, 3) := by decide +kernel
theorem d_Lw_put_10 : decode b_Lw_put 10 = .ok (.i2l, 1) := by decide +kernel
theorem d_Lw_put_11 : decode b_Lw_put 11 = .ok (.lastore, 1) := by decide +kernel
theorem d_Lw_put_12 : decode b_Lw_put 12 = .ok (.goto 11, 3) := by decide +kernel
theorem d_Lw_put_15 : decode b_Lw_put 15 = .ok (.astore 5, 2) := by decide +kernel
theorem d_Lw_put_17 : decode b_Lw_put 17 = .ok (.iconst 1, 1) := by decide +kernel
theorem d_Lw_put_18 : decode b_Lw_put 18 = .ok (.ireturn, 1) := by decide +kernel
theorem d_Lw_put_19 : decode b_Lw_put 19 = .ok (.astore 5, 2) := by decide +kernel
theorem d_Lw_put_21 : decode b_Lw_put 21 = .ok (.iconst 2, 1) := by decide +kernel
theorem d_Lw_put_22 : decode b_Lw_put 22 = .ok (.ireturn, 1) := by decide +kernel
theorem d_Lw_put_23 : decode b_Lw_put 23 = .ok (.iconst 0, 1) := by decide +kernel
theorem d_Lw_put_24 : decode b_Lw_put 24 = .ok (.ireturn, 1) := by decide +kernel
theorem d_Lw_get_0 : decode b_Lw_get 0 = .ok (.aload_n 3, 1) := by decide +kernel
theorem d_Lw_get_1 : decode b_Lw_get 1 = .ok (.iconst 0, 1) := by decide +kernel
theorem d_Lw_get_2 : decode b_Lw_get 2 = .ok (.aload_n 0, 1) := by decide +kernel
theorem d_Lw_get_3 : decode b_Lw_get 3 = .ok (.iload_n 1, 1) := by decide +kernel
theorem d_Lw_get_4 : decode b_Lw_get 4 = .ok (.iload_n 2, 1) := by decide +kernel
theorem d_Lw_get_5 : decode b_Lw_get 5 = .ok (.invokevirtual 28, 3) := by decide +kernel
theorem d_Lw_get_8 : decode b_Lw_get 8 = .ok (.i2l, 1) := by decide +kernel
theorem d_Lw_get_9 : decode b_Lw_get 9 = .ok (.lastore, 1) := by decide +kernel
theorem d_Lw_get_10 : decode b_Lw_get 10 = .ok (.goto 7, 3) := by decide +kernel
theorem d_Lw_get_13 : decode b_Lw_get 13 = .ok (.astore 4, 2) := by decide +kernel
theorem d_Lw_get_15 : decode b_Lw_get 15 = .ok (.iconst 1, 1) := by decide +kernel
theorem d_Lw_get_16 : decode b_Lw_get 16 = .ok (.ireturn, 1) := by decide +kernel
theorem d_Lw_get_17 : decode b_Lw_get 17 = .ok (.iconst 0, 1) := by decide +kernel
theorem d_Lw_get_18 : decode b_Lw_get 18 = .ok (.ireturn, 1) := by decide +kernel
theorem d_Lw_remove_0 : decode b_Lw_remove 0 = .ok (.aload_n 3, 1) := by decide +kernel
theorem d_Lw_remove_1 : decode b_Lw_remove 1 = .ok (.iconst 0, 1) := by decide +kernel
theorem d_Lw_remove_2 : decode b_Lw_remove 2 = .ok (.aload_n 0, 1) := by decide +kernel
theorem d_Lw_remove_3 : decode b_Lw_remove 3 = .ok (.iload_n 1, 1) := by decide +kernel
theorem d_Lw_remove_4 : decode b_Lw_remove 4 = .ok (.iload_n 2, 1) := by decide +kernel
theorem d_Lw_remove_5 : decode b_Lw_remove 5 = .ok (.invokevirtual 32, 3) := by decide +kernel
theorem d_Lw_remove_8 : decode b_Lw_remove 8 = .ok (.i2l, 1) := by decide +kernel
theorem d_Lw_remove_9 : decode b_Lw_remove 9 = .ok (.lastore, 1) := by decide +kernel
theorem d_Lw_remove_10 : decode b_Lw_remove 10 = .ok (.goto 7, 3) := by decide +kernel
theorem d_Lw_remove_13 : decode b_Lw_remove 13 = .ok (.astore 4, 2) := by decide +kernel
theorem d_Lw_remove_15 : decode b_Lw_remove 15 = .ok (.iconst 1, 1) := by decide +kernel
theorem d_Lw_remove_16 : decode b_Lw_remove 16 = .ok (.ireturn, 1) := by decide +kernel
theorem d_Lw_remove_17 : decode b_Lw_remove 17 = .ok (.iconst 0, 1) := by decide +kernel
theorem d_Lw_remove_18 : decode b_Lw_remove 18 = .ok (.ireturn, 1) := by decide +kernel
theorem d_Lw_entry_0 : decode b_Lw_entry 0 = .ok (.aload 4, 2) := by decide +kernel
theorem d_Lw_entry_2 : decode b_Lw_entry 2 = .ok (.iconst 0, 1) := by decide +kernel
theorem d_Lw_entry_3 : decode b_Lw_entry 3 = .ok (.aload_n 0, 1) := by decide +kernel
theorem d_Lw_entry_4 : decode b_Lw_entry 4 = .ok (.iload_n 1, 1) := by decide +kernel
theorem d_Lw_entry_5 : decode b_Lw_entry 5 = .ok (.iload_n 2, 1) := by decide +kernel
theorem d_Lw_entry_6 : decode b_Lw_entry 6 = .ok (.iload_n 3, 1) := by decide +kernel
theorem d_Lw_entry_7 : decode b_Lw_entry 7 = .ok (.invokevirtual 35, 3) := by decide +kernel
theorem d_Lw_entry_10 : decode b_Lw_entry 10 = .ok (.i2l, 1) := by decide +kernel
theorem d_Lw_entry_11 : decode b_Lw_entry 11 = .ok (.lastore, 1) := by decide +kernel
theorem d_Lw_entry_12 : decode b_Lw_entry 12 = .ok (.goto 7, 3) := by decide +kernel
theorem d_Lw_entry_15 : decode b_Lw_entry 15 = .ok (.astore 5, 2) := by decide +kernel
theorem d_Lw_entry_17 : decode b_Lw_entry 17 = .ok (.iconst 1, 1) := by decide +kernel
theorem d_Lw_entry_18 : decode b_Lw_entry 18 = .ok (.ireturn, 1) := by decide +kernel
theorem d_Lw_entry_19 : decode b_Lw_entry 19 = .ok (.iconst 0, 1) := by decide +kernel
theorem d_Lw_entry_20 : decode b_Lw_entry 20 = .ok (.ireturn, 1) := by decide +kernel
theorem d_Lw_walk_0 : decode b_Lw_walk 0 = .ok (.aload_n 0, 1) := by decide +kernel
theorem d_Lw_walk_1 : decode b_Lw_walk 1 = .ok (.iload_n 1, 1) := by decide +kernel
theorem d_Lw_walk_2 : decode b_Lw_walk 2 = .ok (.invokevirtual 40, 3) := by decide +kernel
theorem d_Lw_walk_5 : decode b_Lw_walk 5 = .ok (.goto 6, 3) := by decide +kernel
theorem d_Lw_walk_8 : decode b_Lw_walk 8 = .ok (.astore_n 2, 1) := by decide +kernel
theorem d_Lw_walk_9 : decode b_Lw_walk 9 = .ok (.iconst 1, 1) := by decide +kernel
theorem d_Lw_walk_10 : decode b_Lw_walk 10 = .ok (.ireturn, 1) := by decide +kernel
theorem d_Lw_walk_11 : decode b_Lw_walk 11 = .ok (.iconst 0, 1) := by decide +kernel
theorem d_Lw_walk_12 : decode b_Lw_walk 12 = .ok (.ireturn, 1) := by decide +kernel
theorem d_Lw_step_0 : decode b_Lw_step 0 = .ok (.aload_n 2, 1) := by decide +kernel
theorem d_Lw_step_1 : decode b_Lw_step 1 = .ok (.iconst 0, 1) := by decide +kernel
theorem d_Lw_step_2 : decode b_Lw_step 2 = .ok (.aload_n 0, 1) := by decide +kernel
theorem d_Lw_step_3 : decode b_Lw_step 3 = .ok (.iload_n 1, 1) := by decide +kernel
theorem d_Lw_step_4 : decode b_Lw_step 4 = .ok (.invokevirtual 44, 3) := by decide +kernel
theorem d_Lw_step_7 : decode b_Lw_step 7 = .ok (.i2l, 1) := by decide +kernel
theorem d_Lw_step_8 : decode b_Lw_step 8 = .ok (.lastore, 1) := by decide +kernel
theorem d_Lw_step_9 : decode b_Lw_step 9 = .ok (.goto 12, 3) := by decide +kernel
theorem d_Lw_step_12 : decode b_Lw_step 12 = .ok (.astore_n 3, 1) := by decide +kernel
theorem d_Lw_step_13 : decode b_Lw_step 13 = .ok (.iconst 1, 1) := by decide +kernel
theorem d_Lw_step_14 : decode b_Lw_step 14 = .ok (.ireturn, 1) := by decide +kernel
theorem d_Lw_step_15 : decode b_Lw_step 15 = .ok (.astore_n 3, 1) := by decide +kernel
theorem d_Lw_step_16 : decode b_Lw_step 16 = .ok (.iconst 2, 1) := by decide +kernel
theorem d_Lw_step_17 : decode b_Lw_step 17 = .ok (.ireturn, 1) := by decide +kernel
theorem d_Lw_step_18 : decode b_Lw_step 18 = .ok (.astore_n 3, 1) := by decide +kernel
theorem d_Lw_step_19 : decode b_Lw_step 19 = .ok (.iconst 3, 1) := by decide +kernel
theorem d_Lw_step_20 : decode b_Lw_step 20 = .ok (.ireturn, 1) := by decide +kernel
theorem d_Lw_step_21 : decode b_Lw_step 21 = .ok (.iconst 0, 1) := by decide +kernel
theorem d_Lw_step_22 : decode b_Lw_step 22 = .ok (.ireturn, 1) := by decide +kernel
theorem d_Lw_collect_0 : decode b_Lw_collect 0 = .ok (.aload_n 2, 1) := by decide +kernel
theorem d_Lw_collect_1 : decode b_Lw_collect 1 = .ok (.iconst 0, 1) := by decide +kernel
theorem d_Lw_collect_2 : decode b_Lw_collect 2 = .ok (.aload_n 0, 1) := by decide +kernel
theorem d_Lw_collect_3 : decode b_Lw_collect 3 = .ok (.iload_n 1, 1) := by decide +kernel
theorem d_Lw_collect_4 : decode b_Lw_collect 4 = .ok (.invokevirtual 47, 3) := by decide +kernel
theorem d_Lw_collect_7 : decode b_Lw_collect 7 = .ok (.i2l, 1) := by decide +kernel
theorem d_Lw_collect_8 : decode b_Lw_collect 8 = .ok (.lastore, 1) := by decide +kernel
theorem d_Lw_collect_9 : decode b_Lw_collect 9 = .ok (.goto 6, 3) := by decide +kernel
theorem d_Lw_collect_12 : decode b_Lw_collect 12 = .ok (.astore_n 3, 1) := by decide +kernel
theorem d_Lw_collect_13 : decode b_Lw_collect 13 = .ok (.iconst 1, 1) := by decide +kernel
theorem d_Lw_collect_14 : decode b_Lw_collect 14 = .ok (.ireturn, 1) := by decide +kernel
theorem d_Lw_collect_15 : decode b_Lw_collect 15 = .ok (.iconst 0, 1) := by decide +kernel
theorem d_Lw_collect_16 : decode b_Lw_collect 16 = .ok (.ireturn, 1) := by decide +kernel
end
section
/-! What each instruction decodes to (wip/tools/names.py). -/
theorem d_Mo_init_0 : decode b_Mo_init 0 = .ok (.aload_n 0, 1) := by decide +kernel
theorem d_Mo_init_1 : decode b_Mo_init 1 = .ok (.invokespecial 1, 3) := by decide +kernel
theorem d_Mo_init_4 : decode b_Mo_init 4 = .ok (.aload_n 0, 1) := by decide +kernel
theorem d_Mo_init_5 : decode b_Mo_init 5 = .ok (.bipush 32, 2) := by decide +kernel
theorem d_Mo_init_7 : decode b_Mo_init 7 = .ok (.newarray .int, 2) := by decide +kernel
theorem d_Mo_init_9 : decode b_Mo_init 9 = .ok (.putfield 7, 3) := by decide +kernel
theorem d_Mo_init_12 : decode b_Mo_init 12 = .ok (.aload_n 0, 1) := by decide +kernel
theorem d_Mo_init_13 : decode b_Mo_init 13 = .ok (.bipush 32, 2) := by decide +kernel
theorem d_Mo_init_15 : decode b_Mo_init 15 = .ok (.newarray .int, 2) := by decide +kernel
theorem d_Mo_init_17 : decode b_Mo_init 17 = .ok (.putfield 13, 3) := by decide +kernel
theorem d_Mo_init_20 : decode b_Mo_init 20 = .ok (.aload_n 0, 1) := by decide +kernel
theorem d_Mo_init_21 : decode b_Mo_init 21 = .ok (.bipush 32, 2) := by decide +kernel
theorem d_Mo_init_23 : decode b_Mo_init 23 = .ok (.newarray .int, 2) := by decide +kernel
theorem d_Mo_init_25 : decode b_Mo_init 25 = .ok (.putfield 16, 3) := by decide +kernel
theorem d_Mo_init_28 : decode b_Mo_init 28 = .ok (.aload_n 0, 1) := by decide +kernel
theorem d_Mo_init_29 : decode b_Mo_init 29 = .ok (.bipush 32, 2) := by decide +kernel
theorem d_Mo_init_31 : decode b_Mo_init 31 = .ok (.newarray .boolean, 2) := by decide +kernel
theorem d_Mo_init_33 : decode b_Mo_init 33 = .ok (.putfield 19, 3) := by decide +kernel
theorem d_Mo_init_36 : decode b_Mo_init 36 = .ok (.aload_n 0, 1) := by decide +kernel
theorem d_Mo_init_37 : decode b_Mo_init 37 = .ok (.bipush 32, 2) := by decide +kernel
theorem d_Mo_init_39 : decode b_Mo_init 39 = .ok (.newarray .boolean, 2) := by decide +kernel
theorem d_Mo_init_41 : decode b_Mo_init 41 = .ok (.putfield 23, 3) := by decide +kernel
theorem d_Mo_init_44 : decode b_Mo_init 44 = .ok (.aload_n 0, 1) := by decide +kernel
theorem d_Mo_init_45 : decode b_Mo_init 45 = .ok (.bipush 32, 2) := by decide +kernel
theorem d_Mo_init_47 : decode b_Mo_init 47 = .ok (.newarray .boolean, 2) := by decide +kernel
theorem d_Mo_init_49 : decode b_Mo_init 49 = .ok (.putfield 26, 3) := by decide +kernel
theorem d_Mo_init_52 : decode b_Mo_init 52 = .ok (.aload_n 0, 1) := by decide +kernel
theorem d_Mo_init_53 : decode b_Mo_init 53 = .ok (.sipush 160, 3) := by decide +kernel
theorem d_Mo_init_56 : decode b_Mo_init 56 = .ok (.newarray .int, 2) := by decide +kernel
theorem d_Mo_init_58 : decode b_Mo_init 58 = .ok (.putfield 29, 3) := by decide +kernel
theorem d_Mo_init_61 : decode b_Mo_init 61 = .ok (.aload_n 0, 1) := by decide +kernel
theorem d_Mo_init_62 : decode b_Mo_init 62 = .ok (.sipush 160, 3) := by decide +kernel
theorem d_Mo_init_65 : decode b_Mo_init 65 = .ok (.newarray .int, 2) := by decide +kernel
theorem d_Mo_init_67 : decode b_Mo_init 67 = .ok (.putfield 32, 3) := by decide +kernel
theorem d_Mo_init_70 : decode b_Mo_init 70 = .ok (.aload_n 0, 1) := by decide +kernel
theorem d_Mo_init_71 : decode b_Mo_init 71 = .ok (.sipush 160, 3) := by decide +kernel
theorem d_Mo_init_74 : decode b_Mo_init 74 = .ok (.newarray .int, 2) := by decide +kernel
theorem d_Mo_init_76 : decode b_Mo_init 76 = .ok (.putfield 35, 3) := by decide +kernel
theorem d_Mo_init_79 : decode b_Mo_init 79 = .ok (.aload_n 0, 1) := by decide +kernel
theorem d_Mo_init_80 : decode b_Mo_init 80 = .ok (.iconst 5, 1) := by decide +kernel
theorem d_Mo_init_81 : decode b_Mo_init 81 = .ok (.newarray .int, 2) := by decide +kernel
theorem d_Mo_init_83 : decode b_Mo_init 83 = .ok (.putfield 38, 3) := by decide +kernel
theorem d_Mo_init_86 : decode b_Mo_init 86 = .ok (.aload_n 0, 1) := by decide +kernel
theorem d_Mo_init_87 : decode b_Mo_init 87 = .ok (.iconst 4, 1) := by decide +kernel
theorem d_Mo_init_88 : decode b_Mo_init 88 = .ok (.putfield 41, 3) := by decide +kernel
theorem d_Mo_init_91 : decode b_Mo_init 91 = .ok (.aload_n 0, 1) := by decide +kernel
theorem d_Mo_init_92 : decode b_Mo_init 92 = .ok (.bipush 64, 2) := by decide +kernel
theorem d_Mo_init_94 : decode b_Mo_init 94 = .ok (.newarray .int, 2) := by decide +kernel
theorem d_Mo_init_96 : decode b_Mo_init 96 = .ok (.putfield 45, 3) := by decide +kernel
theorem d_Mo_init_99 : decode b_Mo_init 99 = .ok (.aload_n 0, 1) := by decide +kernel
theorem d_Mo_init_100 : decode b_Mo_init 100 = .ok (.iconst 5, 1) := by decide +kernel
theorem d_Mo_init_101 : decode b_Mo_init 101 = .ok (.newarray .boolean, 2) := by decide +kernel
theorem d_Mo_init_103 : decode b_Mo_init 103 = .ok (.putfield 48, 3) := by decide +kernel
theorem d_Mo_init_106 : decode b_Mo_init 106 = .ok (.aload_n 0, 1) := by decide +kernel
theorem d_Mo_init_107 : decode b_Mo_init 107 = .ok (.iconst 5, 1) := by decide +kernel
theorem d_Mo_init_108 : decode b_Mo_init 108 = .ok (.newarray .boolean, 2) := by decide +kernel
theorem d_Mo_init_110 : decode b_Mo_init 110 = .ok (.putfield 51, 3) := by decide +kernel
theorem d_Mo_init_113 : decode b_Mo_init 113 = .ok (.aload_n 0, 1) := by decide +kernel
theorem d_Mo_init_114 : decode b_Mo_init 114 = .ok (.iconst 5, 1) := by decide +kernel
theorem d_Mo_init_115 : decode b_Mo_init 115 = .ok (.newarray .int, 2) := by decide +kernel
theorem d_Mo_init_117 : decode b_Mo_init 117 = .ok (.putfield 54, 3) := by decide +kernel
theorem d_Mo_init_120 : decode b_Mo_init 120 = .ok (.iconst 0, 1) := by decide +kernel
theorem d_Mo_init_121 : decode b_Mo_init 121 = .ok (.istore_n 1, 1) := by decide +kernel
theorem d_Mo_init_122 : decode b_Mo_init 122 = .ok (.iload_n 1, 1) := by decide +kernel
theorem d_Mo_init_123 : decode b_Mo_init 123 = .ok (.sipush 160, 3) := by decide +kernel
theorem d_Mo_init_126 : decode b_Mo_init 126 = .ok (.if_icmp .ge 16, 3) := by decide +kernel
theorem d_Mo_init_129 : decode b_Mo_init 129 = .ok (.aload_n 0, 1) := by decide +kernel
theorem d_Mo_init_130 : decode b_Mo_init 130 = .ok (.getfield 29, 3) := by decide +kernel
theorem d_Mo_init_133 : decode b_Mo_init 133 = .ok (.iload_n 1, 1) := by decide +kernel
theorem d_Mo_init_134 : decode b_Mo_init 134 = .ok (.iconst (-1), 1) := by decide +kernel
theorem d_Mo_init_135 : decode b_Mo_init 135 = .ok (.iastore, 1) := by decide +kernel
theorem d_Mo_init_136 : decode b_Mo_init 136 = .ok (.iinc 1 1, 3) := by decide +kernel
theorem d_Mo_init_139 : decode b_Mo_init 139 = .ok (.goto (-17), 3) := by decide +kernel
theorem d_Mo_init_142 : decode b_Mo_init 142 = .ok (.return_, 1) := by decide +kernel
theorem d_Mo_thrown_0 : decode b_Mo_thrown 0 = .ok (.aload_n 0, 1) := by decide +kernel
theorem d_Mo_thrown_1 : decode b_Mo_thrown 1 = .ok (.getfield 57, 3) := by decide +kernel
theorem d_Mo_thrown_4 : decode b_Mo_thrown 4 = .ok (.ireturn, 1) := by decide +kernel
theorem d_Mo_make_0 : decode b_Mo_make 0 = .ok (.aload_n 0, 1) := by decide +kernel
theorem d_Mo_make_1 : decode b_Mo_make 1 = .ok (.iconst 0, 1) := by decide +kernel
theorem d_Mo_make_2 : decode b_Mo_make 2 = .ok (.putfield 57, 3) := by decide +kernel
theorem d_Mo_make_5 : decode b_Mo_make 5 = .ok (.iload_n 1, 1) := by decide +kernel
theorem d_Mo_make_6 : decode b_Mo_make 6 = .ok (.ifCond .lt 9, 3) := by decide +kernel
theorem d_Mo_make_9 : decode b_Mo_make 9 = .ok (.iload_n 1, 1) := by decide +kernel
theorem d_Mo_make_10 : decode b_Mo_make 10 = .ok (.bipush 99, 2) := by decide +kernel
theorem d_Mo_make_12 : decode b_Mo_make 12 = .ok (.if_icmp .le 9, 3) := by decide +kernel
theorem d_Mo_make_15 : decode b_Mo_make 15 = .ok (.aload_n 0, 1) := by decide +kernel
theorem d_Mo_make_16 : decode b_Mo_make 16 = .ok (.iconst 1, 1) := by decide +kernel
theorem d_Mo_make_17 : decode b_Mo_make 17 = .ok (.invokevirtual 60, 3) := by decide +kernel
theorem d_Mo_make_20 : decode b_Mo_make 20 = .ok (.ireturn, 1) := by decide +kernel
theorem d_Mo_make_21 : decode b_Mo_make 21 = .ok (.iconst 0, 1) := by decide +kernel
theorem d_Mo_make_22 : decode b_Mo_make 22 = .ok (.istore_n 2, 1) := by decide +kernel
theorem d_Mo_make_23 : decode b_Mo_make 23 = .ok (.iload_n 2, 1) := by decide +kernel
theorem d_Mo_make_24 : decode b_Mo_make 24 = .ok (.bipush 32, 2) := by decide +kernel
theorem d_Mo_make_26 : decode b_Mo_make 26 = .ok (.if_icmp .ge 18, 3) := by decide +kernel
theorem d_Mo_make_29 : decode b_Mo_make 29 = .ok (.aload_n 0, 1) := by decide +kernel
theorem d_Mo_make_30 : decode b_Mo_make 30 = .ok (.getfield 19, 3) := by decide +kernel
theorem d_Mo_make_33 : decode b_Mo_make 33 = .ok (.iload_n 2, 1) := by decide +kernel
theorem d_Mo_make_34 : decode b_Mo_make 34 = .ok (.baload, 1) := by decide +kernel
theorem d_Mo_make_35 : decode b_Mo_make 35 = .ok (.ifCond .eq 9, 3) := by decide +kernel
theorem d_Mo_make_38 : decode b_Mo_make 38 = .ok (.iinc 2 1, 3) := by decide +kernel
theorem d_Mo_make_41 : decode b_Mo_make 41 = .ok (.goto (-18), 3) := by decide +kernel
theorem d_Mo_make_44 : decode b_Mo_make 44 = .ok (.iload_n 2, 1) := by decide +kernel
theorem d_Mo_make_45 : decode b_Mo_make 45 = .ok (.bipush 32, 2) := by decide +kernel
theorem d_Mo_make_47 : decode b_Mo_make 47 = .ok (.if_icmp .ne 9, 3) := by decide +kernel
theorem d_Mo_make_50 : decode b_Mo_make 50 = .ok (.aload_n 0, 1) := by decide +kernel
theorem d_Mo_make_51 : decode b_Mo_make 51 = .ok (.iconst 2, 1) := by decide +kernel
theorem d_Mo_make_52 : decode b_Mo_make 52 = .ok (.invokevirtual 60, 3) := by decide +kernel
theorem d_Mo_make_55 : decode b_Mo_make 55 = .ok (.ireturn, 1) := by decide +kernel
theorem d_Mo_make_56 : decode b_Mo_make 56 = .ok (.aload_n 0, 1) := by decide +kernel
theorem d_Mo_make_57 : decode b_Mo_make 57 = .ok (.getfield 19, 3) := by decide +kernel
theorem d_Mo_make_60 : decode b_Mo_make 60 = .ok (.iload_n 2, 1) := by decide +kernel
theorem d_Mo_make_61 : decode b_Mo_make 61 = .ok (.iconst 1, 1) := by decide +kernel
theorem d_Mo_make_62 : decode b_Mo_make 62 = .ok (.bastore, 1) := by decide +kernel
theorem d_Mo_make_63 : decode b_Mo_make 63 = .ok (.aload_n 0, 1) := by decide +kernel
theorem d_Mo_make_64 : decode b_Mo_make 64 = .ok (.getfield 23, 3) := by decide +kernel
theorem d_Mo_make_67 : decode b_Mo_make 67 = .ok (.iload_n 2, 1) := by decide +kernel
theorem d_Mo_make_68 : decode b_Mo_make 68 = .ok (.iconst 0, 1) := by decide +kernel
theorem d_Mo_make_69 : decode b_Mo_make 69 = .ok (.bastore, 1) := by decide +kernel
theorem d_Mo_make_70 : decode b_Mo_make 70 = .ok (.aload_n 0, 1) := by decide +kernel
theorem d_Mo_make_71 : decode b_Mo_make 71 = .ok (.getfield 7, 3) := by decide +kernel
theorem d_Mo_make_74 : decode b_Mo_make 74 = .ok (.iload_n 2, 1) := by decide +kernel
theorem d_Mo_make_75 : decode b_Mo_make 75 = .ok (.iload_n 1, 1) := by decide +kernel
theorem d_Mo_make_76 : decode b_Mo_make 76 = .ok (.iastore, 1) := by decide +kernel
theorem d_Mo_make_77 : decode b_Mo_make 77 = .ok (.aload_n 0, 1) := by decide +kernel
theorem d_Mo_make_78 : decode b_Mo_make 78 = .ok (.getfield 13, 3) := by decide +kernel
theorem d_Mo_make_81 : decode b_Mo_make 81 = .ok (.iload_n 2, 1) := by decide +kernel
theorem d_Mo_make_82 : decode b_Mo_make 82 = .ok (.iconst (-1), 1) := by decide +kernel
theorem d_Mo_make_83 : decode b_Mo_make 83 = .ok (.iastore, 1) := by decide +kernel
theorem d_Mo_make_84 : decode b_Mo_make 84 = .ok (.aload_n 0, 1) := by decide +kernel
theorem d_Mo_make_85 : decode b_Mo_make 85 = .ok (.getfield 16, 3) := by decide +kernel
theorem d_Mo_make_88 : decode b_Mo_make 88 = .ok (.iload_n 2, 1) := by decide +kernel
theorem d_Mo_make_89 : decode b_Mo_make 89 = .ok (.iconst (-1), 1) := by decide +kernel
theorem d_Mo_make_90 : decode b_Mo_make 90 = .ok (.iastore, 1) := by decide +kernel
theorem d_Mo_make_91 : decode b_Mo_make 91 = .ok (.iload_n 2, 1) := by decide +kernel
theorem d_Mo_make_92 : decode b_Mo_make 92 = .ok (.ireturn, 1) := by decide +kernel
theorem d_Mo_refuse_0 : decode b_Mo_refuse 0 = .ok (.aload_n 0, 1) := by decide +kernel
theorem d_Mo_refuse_1 : decode b_Mo_refuse 1 = .ok (.iload_n 1, 1) := by decide +kernel
theorem d_Mo_refuse_2 : decode b_Mo_refuse 2 = .ok (.putfield 57, 3) := by decide +kernel
theorem d_Mo_refuse_5 : decode b_Mo_refuse 5 = .ok (.iconst 0, 1) := by decide +kernel
theorem d_Mo_refuse_6 : decode b_Mo_refuse 6 = .ok (.ireturn, 1) := by decide +kernel
theorem d_Mo_refer_0 : decode b_Mo_refer 0 = .ok (.aload_n 0, 1) := by decide +kernel
theorem d_Mo_refer_1 : decode b_Mo_refer 1 = .ok (.iconst 0, 1) := by decide +kernel
theorem d_Mo_refer_2 : decode b_Mo_refer 2 = .ok (.putfield 57, 3) := by decide +kernel
theorem d_Mo_refer_5 : decode b_Mo_refer 5 = .ok (.aload_n 0, 1) := by decide +kernel
theorem d_Mo_refer_6 : decode b_Mo_refer 6 = .ok (.iload_n 1, 1) := by decide +kernel
theorem d_Mo_refer_7 : decode b_Mo_refer 7 = .ok (.invokevirtual 64, 3) := by decide +kernel
theorem d_Mo_refer_10 : decode b_Mo_refer 10 = .ok (.ifCond .eq 25, 3) := by decide +kernel
theorem d_Mo_refer_13 : decode b_Mo_refer 13 = .ok (.iload_n 2, 1) := by decide +kernel
theorem d_Mo_refer_14 : decode b_Mo_refer 14 = .ok (.ifCond .lt 21, 3) := by decide +kernel
theorem d_Mo_refer_17 : decode b_Mo_refer 17 = .ok (.iload_n 2, 1) := by decide +kernel
theorem d_Mo_refer_18 : decode b_Mo_refer 18 = .ok (.iconst 1, 1) := by decide +kernel
theorem d_Mo_refer_19 : decode b_Mo_refer 19 = .ok (.if_icmp .gt 16, 3) := by decide +kernel
theorem d_Mo_refer_22 : decode b_Mo_refer 22 = .ok (.iload_n 3, 1) := by decide +kernel
theorem d_Mo_refer_23 : decode b_Mo_refer 23 = .ok (.iconst (-1), 1) := by decide +kernel
theorem d_Mo_refer_24 : decode b_Mo_refer 24 = .ok (.if_icmp .eq 17, 3) := by decide +kernel
theorem d_Mo_refer_27 : decode b_Mo_refer 27 = .ok (.aload_n 0, 1) := by decide +kernel
theorem d_Mo_refer_28 : decode b_Mo_refer 28 = .ok (.iload_n 3, 1) := by decide +kernel
theorem d_Mo_refer_29 : decode b_Mo_refer 29 = .ok (.invokevirtual 64, 3) := by decide +kernel
theorem d_Mo_refer_32 : decode b_Mo_refer 32 = .ok (.ifCond .ne 9, 3) := by decide +kernel
theorem d_Mo_refer_35 : decode b_Mo_refer 35 = .ok (.aload_n 0, 1) := by decide +kernel
theorem d_Mo_refer_36 : decode b_Mo_refer 36 = .ok (.iconst 1, 1) := by decide +kernel
theorem d_Mo_refer_37 : decode b_Mo_refer 37 = .ok (.invokevirtual 60, 3) := by decide +kernel
theorem d_Mo_refer_40 : decode b_Mo_refer 40 = .ok (.ireturn, 1) := by decide +kernel
theorem d_Mo_refer_41 : decode b_Mo_refer 41 = .ok (.iload_n 2, 1) := by decide +kernel
theorem d_Mo_refer_42 : decode b_Mo_refer 42 = .ok (.ifCond .ne 12, 3) := by decide +kernel
theorem d_Mo_refer_45 : decode b_Mo_refer 45 = .ok (.aload_n 0, 1) := by decide +kernel
theorem d_Mo_refer_46 : decode b_Mo_refer 46 = .ok (.getfield 13, 3) := by decide +kernel
theorem d_Mo_refer_49 : decode b_Mo_refer 49 = .ok (.iload_n 1, 1) := by decide +kernel
theorem d_Mo_refer_50 : decode b_Mo_refer 50 = .ok (.iaload, 1) := by decide +kernel
theorem d_Mo_refer_51 : decode b_Mo_refer 51 = .ok (.goto 9, 3) := by decide +kernel
theorem d_Mo_refer_54 : decode b_Mo_refer 54 = .ok (.aload_n 0, 1) := by decide +kernel
theorem d_Mo_refer_55 : decode b_Mo_refer 55 = .ok (.getfield 16, 3) := by decide +kernel
theorem d_Mo_refer_58 : decode b_Mo_refer 58 = .ok (.iload_n 1, 1) := by decide +kernel
theorem d_Mo_refer_59 : decode b_Mo_refer 59 = .ok (.iaload, 1) := by decide +kernel
theorem d_Mo_refer_60 : decode b_Mo_refer 60 = .ok (.istore 4, 2) := by decide +kernel
theorem d_Mo_refer_62 : decode b_Mo_refer 62 = .ok (.iload_n 2, 1) := by decide +kernel
theorem d_Mo_refer_63 : decode b_Mo_refer 63 = .ok (.ifCond .ne 13, 3) := by decide +kernel
theorem d_Mo_refer_66 : decode b_Mo_refer 66 = .ok (.aload_n 0, 1) := by decide +kernel
theorem d_Mo_refer_67 : decode b_Mo_refer 67 = .ok (.getfield 13, 3) := by decide +kernel
theorem d_Mo_refer_70 : decode b_Mo_refer 70 = .ok (.iload_n 1, 1) := by decide +kernel
theorem d_Mo_refer_71 : decode b_Mo_refer 71 = .ok (.iload_n 3, 1) := by decide +kernel
theorem d_Mo_refer_72 : decode b_Mo_refer 72 = .ok (.iastore, 1) := by decide +kernel
theorem d_Mo_refer_73 : decode b_Mo_refer 73 = .ok (.goto 10, 3) := by decide +kernel
theorem d_Mo_refer_76 : decode b_Mo_refer 76 = .ok (.aload_n 0, 1) := by decide +kernel
theorem d_Mo_refer_77 : decode b_Mo_refer 77 = .ok (.getfield 16, 3) := by decide +kernel
theorem d_Mo_refer_80 : decode b_Mo_refer 80 = .ok (.iload_n 1, 1) := by decide +kernel
theorem d_Mo_refer_81 : decode b_Mo_refer 81 = .ok (.iload_n 3, 1) := by decide +kernel
theorem d_Mo_refer_82 : decode b_Mo_refer 82 = .ok (.iastore, 1) := by decide +kernel
theorem d_Mo_refer_83 : decode b_Mo_refer 83 = .ok (.iload 4, 2) := by decide +kernel
theorem d_Mo_refer_85 : decode b_Mo_refer 85 = .ok (.ireturn, 1) := by decide +kernel
theorem d_Mo_isObject_0 : decode b_Mo_isObject 0 = .ok (.iload_n 1, 1) := by decide +kernel
theorem d_Mo_isObject_1 : decode b_Mo_isObject 1 = .ok (.ifCond .lt 22, 3) := by decide +kernel
theorem d_Mo_isObject_4 : decode b_Mo_isObject 4 = .ok (.iload_n 1, 1) := by decide +kernel
theorem d_Mo_isObject_5 : decode b_Mo_isObject 5 = .ok (.bipush 32, 2) := by decide +kernel
theorem d_Mo_isObject_7 : decode b_Mo_isObject 7 = .ok (.if_icmp .ge 16, 3) := by decide +kernel
theorem d_Mo_isObject_10 : decode b_Mo_isObject 10 = .ok (.aload_n 0, 1) := by decide +kernel
theorem d_Mo_isObject_11 : decode b_Mo_isObject 11 = .ok (.getfield 19, 3) := by decide +kernel
theorem d_Mo_isObject_14 : decode b_Mo_isObject 14 = .ok (.iload_n 1, 1) := by decide +kernel
theorem d_Mo_isObject_15 : decode b_Mo_isObject 15 = .ok (.baload, 1) := by decide +kernel
theorem d_Mo_isObject_16 : decode b_Mo_isObject 16 = .ok (.ifCond .eq 7, 3) := by decide +kernel
theorem d_Mo_isObject_19 : decode b_Mo_isObject 19 = .ok (.iconst 1, 1) := by decide +kernel
theorem d_Mo_isObject_20 : decode b_Mo_isObject 20 = .ok (.goto 4, 3) := by decide +kernel
theorem d_Mo_isObject_23 : decode b_Mo_isObject 23 = .ok (.iconst 0, 1) := by decide +kernel
theorem d_Mo_isObject_24 : decode b_Mo_isObject 24 = .ok (.ireturn, 1) := by decide +kernel
theorem d_Mo_root_0 : decode b_Mo_root 0 = .ok (.aload_n 0, 1) := by decide +kernel
theorem d_Mo_root_1 : decode b_Mo_root 1 = .ok (.iconst 0, 1) := by decide +kernel
theorem d_Mo_root_2 : decode b_Mo_root 2 = .ok (.putfield 57, 3) := by decide +kernel
theorem d_Mo_root_5 : decode b_Mo_root 5 = .ok (.aload_n 0, 1) := by decide +kernel
theorem d_Mo_root_6 : decode b_Mo_root 6 = .ok (.iload_n 1, 1) := by decide +kernel
theorem d_Mo_root_7 : decode b_Mo_root 7 = .ok (.invokevirtual 64, 3) := by decide +kernel
theorem d_Mo_root_10 : decode b_Mo_root 10 = .ok (.ifCond .ne 10, 3) := by decide +kernel
theorem d_Mo_root_13 : decode b_Mo_root 13 = .ok (.aload_n 0, 1) := by decide +kernel
theorem d_Mo_root_14 : decode b_Mo_root 14 = .ok (.iconst 1, 1) := by decide +kernel
theorem d_Mo_root_15 : decode b_Mo_root 15 = .ok (.putfield 57, 3) := by decide +kernel
theorem d_Mo_root_18 : decode b_Mo_root 18 = .ok (.iconst 0, 1) := by decide +kernel
theorem d_Mo_root_19 : decode b_Mo_root 19 = .ok (.ireturn, 1) := by decide +kernel
theorem d_Mo_root_20 : decode b_Mo_root 20 = .ok (.aload_n 0, 1) := by decide +kernel
theorem d_Mo_root_21 : decode b_Mo_root 21 = .ok (.getfield 23, 3) := by decide +kernel
theorem d_Mo_root_24 : decode b_Mo_root 24 = .ok (.iload_n 1, 1) := by decide +kernel
theorem d_Mo_root_25 : decode b_Mo_root 25 = .ok (.baload, 1) := by decide +kernel
theorem d_Mo_root_26 : decode b_Mo_root 26 = .ok (.istore_n 3, 1) := by decide +kernel
theorem d_Mo_root_27 : decode b_Mo_root 27 = .ok (.aload_n 0, 1) := by decide +kernel
theorem d_Mo_root_28 : decode b_Mo_root 28 = .ok (.getfield 23, 3) := by decide +kernel
theorem d_Mo_root_31 : decode b_Mo_root 31 = .ok (.iload_n 1, 1) := by decide +kernel
theorem d_Mo_root_32 : decode b_Mo_root 32 = .ok (.iload_n 2, 1) := by decide +kernel
theorem d_Mo_root_33 : decode b_Mo_root 33 = .ok (.bastore, 1) := by decide +kernel
theorem d_Mo_root_34 : decode b_Mo_root 34 = .ok (.iload_n 3, 1) := by decide +kernel
theorem d_Mo_root_35 : decode b_Mo_root 35 = .ok (.ireturn, 1) := by decide +kernel
theorem d_Mo_put_0 : decode b_Mo_put 0 = .ok (.aload_n 0, 1) := by decide +kernel
theorem d_Mo_put_1 : decode b_Mo_put 1 = .ok (.iconst 0, 1) := by decide +kernel
theorem d_Mo_put_2 : decode b_Mo_put 2 = .ok (.putfield 57, 3) := by decide +kernel
theorem d_Mo_put_5 : decode b_Mo_put 5 = .ok (.aload_n 0, 1) := by decide +kernel
theorem d_Mo_put_6 : decode b_Mo_put 6 = .ok (.iload_n 1, 1) := by decide +kernel
theorem d_Mo_put_7 : decode b_Mo_put 7 = .ok (.invokevirtual 112, 3) := by decide +kernel
theorem d_Mo_put_10 : decode b_Mo_put 10 = .ok (.ifCond .eq 20, 3) := by decide +kernel
theorem d_Mo_put_13 : decode b_Mo_put 13 = .ok (.aload_n 0, 1) := by decide +kernel
theorem d_Mo_put_14 : decode b_Mo_put 14 = .ok (.iload_n 1, 1) := by decide +kernel
theorem d_Mo_put_15 : decode b_Mo_put 15 = .ok (.iload_n 2, 1) := by decide +kernel
theorem d_Mo_put_16 : decode b_Mo_put 16 = .ok (.invokevirtual 115, 3) := by decide +kernel
theorem d_Mo_put_19 : decode b_Mo_put 19 = .ok (.ifCond .eq 11, 3) := by decide +kernel
theorem d_Mo_put_22 : decode b_Mo_put 22 = .ok (.aload_n 0, 1) := by decide +kernel
theorem d_Mo_put_23 : decode b_Mo_put 23 = .ok (.iload_n 3, 1) := by decide +kernel
theorem d_Mo_put_24 : decode b_Mo_put 24 = .ok (.invokevirtual 64, 3) := by decide +kernel
theorem d_Mo_put_27 : decode b_Mo_put 27 = .ok (.ifCond .ne 9, 3) := by decide +kernel
theorem d_Mo_put_30 : decode b_Mo_put 30 = .ok (.aload_n 0, 1) := by decide +kernel
theorem d_Mo_put_31 : decode b_Mo_put 31 = .ok (.iconst 1, 1) := by decide +kernel
theorem d_Mo_put_32 : decode b_Mo_put 32 = .ok (.invokevirtual 60, 3) := by decide +kernel
theorem d_Mo_put_35 : decode b_Mo_put 35 = .ok (.ireturn, 1) := by decide +kernel
theorem d_Mo_put_36 : decode b_Mo_put 36 = .ok (.aload_n 0, 1) := by decide +kernel
theorem d_Mo_put_37 : decode b_Mo_put 37 = .ok (.iload_n 1, 1) := by decide +kernel
theorem d_Mo_put_38 : decode b_Mo_put 38 = .ok (.iload_n 2, 1) := by decide +kernel
theorem d_Mo_put_39 : decode b_Mo_put 39 = .ok (.invokevirtual 119, 3) := by decide +kernel
theorem d_Mo_put_42 : decode b_Mo_put 42 = .ok (.istore 4, 2) := by decide +kernel
theorem d_Mo_put_44 : decode b_Mo_put 44 = .ok (.iload_n 1, 1) := by decide +kernel
theorem d_Mo_put_45 : decode b_Mo_put 45 = .ok (.iconst 2, 1) := by decide +kernel
theorem d_Mo_put_46 : decode b_Mo_put 46 = .ok (.if_icmp .ne 25, 3) := by decide +kernel
theorem d_Mo_put_49 : decode b_Mo_put 49 = .ok (.iload 4, 2) := by decide +kernel
theorem d_Mo_put_51 : decode b_Mo_put 51 = .ok (.ifCond .ge 20, 3) := by decide +kernel
theorem d_Mo_put_54 : decode b_Mo_put 54 = .ok (.aload_n 0, 1) := by decide +kernel
theorem d_Mo_put_55 : decode b_Mo_put 55 = .ok (.getfield 38, 3) := by decide +kernel
theorem d_Mo_put_58 : decode b_Mo_put 58 = .ok (.iconst 2, 1) := by decide +kernel
theorem d_Mo_put_59 : decode b_Mo_put 59 = .ok (.iaload, 1) := by decide +kernel
theorem d_Mo_put_60 : decode b_Mo_put 60 = .ok (.bipush 12, 2) := by decide +kernel
theorem d_Mo_put_62 : decode b_Mo_put 62 = .ok (.if_icmp .ne 9, 3) := by decide +kernel
theorem d_Mo_put_65 : decode b_Mo_put 65 = .ok (.aload_n 0, 1) := by decide +kernel
theorem d_Mo_put_66 : decode b_Mo_put 66 = .ok (.iconst 2, 1) := by decide +kernel
theorem d_Mo_put_67 : decode b_Mo_put 67 = .ok (.invokevirtual 60, 3) := by decide +kernel
theorem d_Mo_put_70 : decode b_Mo_put 70 = .ok (.ireturn, 1) := by decide +kernel
theorem d_Mo_put_71 : decode b_Mo_put 71 = .ok (.aload_n 0, 1) := by decide +kernel
theorem d_Mo_put_72 : decode b_Mo_put 72 = .ok (.dup, 1) := by decide +kernel
theorem d_Mo_put_73 : decode b_Mo_put 73 = .ok (.getfield 93, 3) := by decide +kernel
theorem d_Mo_put_76 : decode b_Mo_put 76 = .ok (.iload_n 1, 1) := by decide +kernel
theorem d_Mo_put_77 : decode b_Mo_put 77 = .ok (.iconst 1, 1) := by decide +kernel
theorem d_Mo_put_78 : decode b_Mo_put 78 = .ok (.if_icmp .ne 7, 3) := by decide +kernel
theorem d_Mo_put_81 : decode b_Mo_put 81 = .ok (.iconst 1, 1) := by decide +kernel
theorem d_Mo_put_82 : decode b_Mo_put 82 = .ok (.goto 4, 3) := by decide +kernel
theorem d_Mo_put_85 : decode b_Mo_put 85 = .ok (.iconst 0, 1) := by decide +kernel
theorem d_Mo_put_86 : decode b_Mo_put 86 = .ok (.iadd, 1) := by decide +kernel
theorem d_Mo_put_87 : decode b_Mo_put 87 = .ok (.putfield 93, 3) := by decide +kernel
theorem d_Mo_put_90 : decode b_Mo_put 90 = .ok (.iload 4, 2) := by decide +kernel
theorem d_Mo_put_92 : decode b_Mo_put 92 = .ok (.ifCond .ge 12, 3) := by decide +kernel
theorem d_Mo_put_95 : decode b_Mo_put 95 = .ok (.aload_n 0, 1) := by decide +kernel
theorem d_Mo_put_96 : decode b_Mo_put 96 = .ok (.iload_n 1, 1) := by decide +kernel
theorem d_Mo_put_97 : decode b_Mo_put 97 = .ok (.iload_n 2, 1) := by decide +kernel
theorem d_Mo_put_98 : decode b_Mo_put 98 = .ok (.iload_n 3, 1) := by decide +kernel
theorem d_Mo_put_99 : decode b_Mo_put 99 = .ok (.invokevirtual 123, 3) := by decide +kernel
theorem d_Mo_put_102 : decode b_Mo_put 102 = .ok (.iconst (-1), 1) := by decide +kernel
theorem d_Mo_put_103 : decode b_Mo_put 103 = .ok (.ireturn, 1) := by decide +kernel
theorem d_Mo_put_104 : decode b_Mo_put 104 = .ok (.aload_n 0, 1) := by decide +kernel
theorem d_Mo_put_105 : decode b_Mo_put 105 = .ok (.getfield 32, 3) := by decide +kernel
theorem d_Mo_put_108 : decode b_Mo_put 108 = .ok (.iload 4, 2) := by decide +kernel
theorem d_Mo_put_110 : decode b_Mo_put 110 = .ok (.iaload, 1) := by decide +kernel
theorem d_Mo_put_111 : decode b_Mo_put 111 = .ok (.istore 5, 2) := by decide +kernel
theorem d_Mo_put_113 : decode b_Mo_put 113 = .ok (.aload_n 0, 1) := by decide +kernel
theorem d_Mo_put_114 : decode b_Mo_put 114 = .ok (.getfield 32, 3) := by decide +kernel
theorem d_Mo_put_117 : decode b_Mo_put 117 = .ok (.iload 4, 2) := by decide +kernel
theorem d_Mo_put_119 : decode b_Mo_put 119 = .ok (.iload_n 3, 1) := by decide +kernel
theorem d_Mo_put_120 : decode b_Mo_put 120 = .ok (.iastore, 1) := by decide +kernel
theorem d_Mo_put_121 : decode b_Mo_put 121 = .ok (.aload_n 0, 1) := by decide +kernel
theorem d_Mo_put_122 : decode b_Mo_put 122 = .ok (.iload_n 1, 1) := by decide +kernel
theorem d_Mo_put_123 : decode b_Mo_put 123 = .ok (.iload 4, 2) := by decide +kernel
theorem d_Mo_put_125 : decode b_Mo_put 125 = .ok (.invokevirtual 126, 3) := by decide +kernel
theorem d_Mo_put_128 : decode b_Mo_put 128 = .ok (.iload 5, 2) := by decide +kernel
theorem d_Mo_put_130 : decode b_Mo_put 130 = .ok (.ireturn, 1) := by decide +kernel
theorem d_Mo_isMap_0 : decode b_Mo_isMap 0 = .ok (.iload_n 1, 1) := by decide +kernel
theorem d_Mo_isMap_1 : decode b_Mo_isMap 1 = .ok (.ifCond .lt 12, 3) := by decide +kernel
theorem d_Mo_isMap_4 : decode b_Mo_isMap 4 = .ok (.iload_n 1, 1) := by decide +kernel
theorem d_Mo_isMap_5 : decode b_Mo_isMap 5 = .ok (.iconst 4, 1) := by decide +kernel
theorem d_Mo_isMap_6 : decode b_Mo_isMap 6 = .ok (.if_icmp .gt 7, 3) := by decide +kernel
theorem d_Mo_isMap_9 : decode b_Mo_isMap 9 = .ok (.iconst 1, 1) := by decide +kernel
theorem d_Mo_isMap_10 : decode b_Mo_isMap 10 = .ok (.goto 4, 3) := by decide +kernel
theorem d_Mo_isMap_13 : decode b_Mo_isMap 13 = .ok (.iconst 0, 1) := by decide +kernel
theorem d_Mo_isMap_14 : decode b_Mo_isMap 14 = .ok (.ireturn, 1) := by decide +kernel
theorem d_Mo_isKey_0 : decode b_Mo_isKey 0 = .ok (.aload_n 0, 1) := by decide +kernel
theorem d_Mo_isKey_1 : decode b_Mo_isKey 1 = .ok (.iload_n 2, 1) := by decide +kernel
theorem d_Mo_isKey_2 : decode b_Mo_isKey 2 = .ok (.invokevirtual 64, 3) := by decide +kernel
theorem d_Mo_isKey_5 : decode b_Mo_isKey 5 = .ok (.ifCond .eq 23, 3) := by decide +kernel
theorem d_Mo_isKey_8 : decode b_Mo_isKey 8 = .ok (.iload_n 1, 1) := by decide +kernel
theorem d_Mo_isKey_9 : decode b_Mo_isKey 9 = .ok (.iconst 3, 1) := by decide +kernel
theorem d_Mo_isKey_10 : decode b_Mo_isKey 10 = .ok (.if_icmp .ne 14, 3) := by decide +kernel
theorem d_Mo_isKey_13 : decode b_Mo_isKey 13 = .ok (.aload_n 0, 1) := by decide +kernel
theorem d_Mo_isKey_14 : decode b_Mo_isKey 14 = .ok (.getfield 7, 3) := by decide +kernel
theorem d_Mo_isKey_17 : decode b_Mo_isKey 17 = .ok (.iload_n 2, 1) := by decide +kernel
theorem d_Mo_isKey_18 : decode b_Mo_isKey 18 = .ok (.iaload, 1) := by decide +kernel
theorem d_Mo_isKey_19 : decode b_Mo_isKey 19 = .ok (.bipush 7, 2) := by decide +kernel
theorem d_Mo_isKey_21 : decode b_Mo_isKey 21 = .ok (.if_icmp .gt 7, 3) := by decide +kernel
theorem d_Mo_isKey_24 : decode b_Mo_isKey 24 = .ok (.iconst 1, 1) := by decide +kernel
theorem d_Mo_isKey_25 : decode b_Mo_isKey 25 = .ok (.goto 4, 3) := by decide +kernel
theorem d_Mo_isKey_28 : decode b_Mo_isKey 28 = .ok (.iconst 0, 1) := by decide +kernel
theorem d_Mo_isKey_29 : decode b_Mo_isKey 29 = .ok (.ireturn, 1) := by decide +kernel
theorem d_Mo_find_0 : decode b_Mo_find 0 = .ok (.iconst (-1), 1) := by decide +kernel
theorem d_Mo_find_1 : decode b_Mo_find 1 = .ok (.istore_n 3, 1) := by decide +kernel
theorem d_Mo_find_2 : decode b_Mo_find 2 = .ok (.bipush 32, 2) := by decide +kernel
theorem d_Mo_find_4 : decode b_Mo_find 4 = .ok (.iload_n 1, 1) := by decide +kernel
theorem d_Mo_find_5 : decode b_Mo_find 5 = .ok (.imul, 1) := by decide +kernel
theorem d_Mo_find_6 : decode b_Mo_find 6 = .ok (.istore 4, 2) := by decide +kernel
theorem d_Mo_find_8 : decode b_Mo_find 8 = .ok (.iload 4, 2) := by decide +kernel
theorem d_Mo_find_10 : decode b_Mo_find 10 = .ok (.aload_n 0, 1) := by decide +kernel
theorem d_Mo_find_11 : decode b_Mo_find 11 = .ok (.iload_n 1, 1) := by decide +kernel
theorem d_Mo_find_12 : decode b_Mo_find 12 = .ok (.invokevirtual 68, 3) := by decide +kernel
theorem d_Mo_find_15 : decode b_Mo_find 15 = .ok (.if_icmp .ge 42, 3) := by decide +kernel
theorem d_Mo_find_18 : decode b_Mo_find 18 = .ok (.aload_n 0, 1) := by decide +kernel
theorem d_Mo_find_19 : decode b_Mo_find 19 = .ok (.getfield 29, 3) := by decide +kernel
theorem d_Mo_find_22 : decode b_Mo_find 22 = .ok (.iload 4, 2) := by decide +kernel
theorem d_Mo_find_24 : decode b_Mo_find 24 = .ok (.iaload, 1) := by decide +kernel
theorem d_Mo_find_25 : decode b_Mo_find 25 = .ok (.ifCond .lt 24, 3) := by decide +kernel
theorem d_Mo_find_28 : decode b_Mo_find 28 = .ok (.aload_n 0, 1) := by decide +kernel
theorem d_Mo_find_29 : decode b_Mo_find 29 = .ok (.iload_n 1, 1) := by decide +kernel
theorem d_Mo_find_30 : decode b_Mo_find 30 = .ok (.aload_n 0, 1) := by decide +kernel
theorem d_Mo_find_31 : decode b_Mo_find 31 = .ok (.getfield 29, 3) := by decide +kernel
theorem d_Mo_find_34 : decode b_Mo_find 34 = .ok (.iload 4, 2) := by decide +kernel
theorem d_Mo_find_36 : decode b_Mo_find 36 = .ok (.iaload, 1) := by decide +kernel
theorem d_Mo_find_37 : decode b_Mo_find 37 = .ok (.iload_n 2, 1) := by decide +kernel
theorem d_Mo_find_38 : decode b_Mo_find 38 = .ok (.invokevirtual 71, 3) := by decide +kernel
theorem d_Mo_find_41 : decode b_Mo_find 41 = .ok (.ifCond .eq 8, 3) := by decide +kernel
theorem d_Mo_find_44 : decode b_Mo_find 44 = .ok (.iload 4, 2) := by decide +kernel
theorem d_Mo_find_46 : decode b_Mo_find 46 = .ok (.goto 4, 3) := by decide +kernel
theorem d_Mo_find_49 : decode b_Mo_find 49 = .ok (.iload_n 3, 1) := by decide +kernel
theorem d_Mo_find_50 : decode b_Mo_find 50 = .ok (.istore_n 3, 1) := by decide +kernel
theorem d_Mo_find_51 : decode b_Mo_find 51 = .ok (.iinc 4 1, 3) := by decide +kernel
theorem d_Mo_find_54 : decode b_Mo_find 54 = .ok (.goto (-46), 3) := by decide +kernel
theorem d_Mo_find_57 : decode b_Mo_find 57 = .ok (.iload_n 3, 1) := by decide +kernel
theorem d_Mo_find_58 : decode b_Mo_find 58 = .ok (.ireturn, 1) := by decide +kernel
theorem d_Mo_endd_0 : decode b_Mo_endd 0 = .ok (.bipush 32, 2) := by decide +kernel
theorem d_Mo_endd_2 : decode b_Mo_endd 2 = .ok (.iload_n 1, 1) := by decide +kernel
theorem d_Mo_endd_3 : decode b_Mo_endd 3 = .ok (.imul, 1) := by decide +kernel
theorem d_Mo_endd_4 : decode b_Mo_endd 4 = .ok (.iload_n 1, 1) := by decide +kernel
theorem d_Mo_endd_5 : decode b_Mo_endd 5 = .ok (.iconst 2, 1) := by decide +kernel
theorem d_Mo_endd_6 : decode b_Mo_endd 6 = .ok (.if_icmp .ne 8, 3) := by decide +kernel
theorem d_Mo_endd_9 : decode b_Mo_endd 9 = .ok (.bipush 16, 2) := by decide +kernel
theorem d_Mo_endd_11 : decode b_Mo_endd 11 = .ok (.goto 19, 3) := by decide +kernel
theorem d_Mo_endd_14 : decode b_Mo_endd 14 = .ok (.iload_n 1, 1) := by decide +kernel
theorem d_Mo_endd_15 : decode b_Mo_endd 15 = .ok (.iconst 3, 1) := by decide +kernel
theorem d_Mo_endd_16 : decode b_Mo_endd 16 = .ok (.if_icmp .ne 8, 3) := by decide +kernel
theorem d_Mo_endd_19 : decode b_Mo_endd 19 = .ok (.bipush 8, 2) := by decide +kernel
theorem d_Mo_endd_21 : decode b_Mo_endd 21 = .ok (.goto 9, 3) := by decide +kernel
theorem d_Mo_endd_24 : decode b_Mo_endd 24 = .ok (.aload_n 0, 1) := by decide +kernel
theorem d_Mo_endd_25 : decode b_Mo_endd 25 = .ok (.getfield 38, 3) := by decide +kernel
theorem d_Mo_endd_28 : decode b_Mo_endd 28 = .ok (.iload_n 1, 1) := by decide +kernel
theorem d_Mo_endd_29 : decode b_Mo_endd 29 = .ok (.iaload, 1) := by decide +kernel
theorem d_Mo_endd_30 : decode b_Mo_endd 30 = .ok (.iadd, 1) := by decide +kernel
theorem d_Mo_endd_31 : decode b_Mo_endd 31 = .ok (.ireturn, 1) := by decide +kernel
theorem d_Mo_isSame_0 : decode b_Mo_isSame 0 = .ok (.iload_n 1, 1) := by decide +kernel
theorem d_Mo_isSame_1 : decode b_Mo_isSame 1 = .ok (.iconst 2, 1) := by decide +kernel
theorem d_Mo_isSame_2 : decode b_Mo_isSame 2 = .ok (.if_icmp .ne 14, 3) := by decide +kernel
theorem d_Mo_isSame_5 : decode b_Mo_isSame 5 = .ok (.iload_n 2, 1) := by decide +kernel
theorem d_Mo_isSame_6 : decode b_Mo_isSame 6 = .ok (.iload_n 3, 1) := by decide +kernel
theorem d_Mo_isSame_7 : decode b_Mo_isSame 7 = .ok (.if_icmp .ne 7, 3) := by decide +kernel
theorem d_Mo_isSame_10 : decode b_Mo_isSame 10 = .ok (.iconst 1, 1) := by decide +kernel
theorem d_Mo_isSame_11 : decode b_Mo_isSame 11 = .ok (.goto 4, 3) := by decide +kernel
theorem d_Mo_isSame_14 : decode b_Mo_isSame 14 = .ok (.iconst 0, 1) := by decide +kernel
theorem d_Mo_isSame_15 : decode b_Mo_isSame 15 = .ok (.ireturn, 1) := by decide +kernel
theorem d_Mo_isSame_16 : decode b_Mo_isSame 16 = .ok (.iload_n 1, 1) := by decide +kernel
theorem d_Mo_isSame_17 : decode b_Mo_isSame 17 = .ok (.iconst 3, 1) := by decide +kernel
theorem d_Mo_isSame_18 : decode b_Mo_isSame 18 = .ok (.if_icmp .ne 21, 3) := by decide +kernel
theorem d_Mo_isSame_21 : decode b_Mo_isSame 21 = .ok (.iload_n 2, 1) := by decide +kernel
theorem d_Mo_isSame_22 : decode b_Mo_isSame 22 = .ok (.aload_n 0, 1) := by decide +kernel
theorem d_Mo_isSame_23 : decode b_Mo_isSame 23 = .ok (.getfield 7, 3) := by decide +kernel
theorem d_Mo_isSame_26 : decode b_Mo_isSame 26 = .ok (.iload_n 3, 1) := by decide +kernel
theorem d_Mo_isSame_27 : decode b_Mo_isSame 27 = .ok (.iaload, 1) := by decide +kernel
theorem d_Mo_isSame_28 : decode b_Mo_isSame 28 = .ok (.if_icmp .ne 7, 3) := by decide +kernel
theorem d_Mo_isSame_31 : decode b_Mo_isSame 31 = .ok (.iconst 1, 1) := by decide +kernel
theorem d_Mo_isSame_32 : decode b_Mo_isSame 32 = .ok (.goto 27, 3) := by decide +kernel
theorem d_Mo_isSame_35 : decode b_Mo_isSame 35 = .ok (.iconst 0, 1) := by decide +kernel
theorem d_Mo_isSame_36 : decode b_Mo_isSame 36 = .ok (.goto 23, 3) := by decide +kernel
theorem d_Mo_isSame_39 : decode b_Mo_isSame 39 = .ok (.aload_n 0, 1) := by decide +kernel
theorem d_Mo_isSame_40 : decode b_Mo_isSame 40 = .ok (.getfield 7, 3) := by decide +kernel
theorem d_Mo_isSame_43 : decode b_Mo_isSame 43 = .ok (.iload_n 2, 1) := by decide +kernel
theorem d_Mo_isSame_44 : decode b_Mo_isSame 44 = .ok (.iaload, 1) := by decide +kernel
theorem d_Mo_isSame_45 : decode b_Mo_isSame 45 = .ok (.aload_n 0, 1) := by decide +kernel
theorem d_Mo_isSame_46 : decode b_Mo_isSame 46 = .ok (.getfield 7, 3) := by decide +kernel
theorem d_Mo_isSame_49 : decode b_Mo_isSame 49 = .ok (.iload_n 3, 1) := by decide +kernel
theorem d_Mo_isSame_50 : decode b_Mo_isSame 50 = .ok (.iaload, 1) := by decide +kernel
theorem d_Mo_isSame_51 : decode b_Mo_isSame 51 = .ok (.if_icmp .ne 7, 3) := by decide +kernel
theorem d_Mo_isSame_54 : decode b_Mo_isSame 54 = .ok (.iconst 1, 1) := by decide +kernel
theorem d_Mo_isSame_55 : decode b_Mo_isSame 55 = .ok (.goto 4, 3) := by decide +kernel
theorem d_Mo_isSame_58 : decode b_Mo_isSame 58 = .ok (.iconst 0, 1) := by decide +kernel
theorem d_Mo_isSame_59 : decode b_Mo_isSame 59 = .ok (.ireturn, 1) := by decide +kernel
theorem d_Mo_comes_0 : decode b_Mo_comes 0 = .ok (.aload_n 0, 1) := by decide +kernel
theorem d_Mo_comes_1 : decode b_Mo_comes 1 = .ok (.iload_n 1, 1) := by decide +kernel
theorem d_Mo_comes_2 : decode b_Mo_comes 2 = .ok (.invokevirtual 99, 3) := by decide +kernel
theorem d_Mo_comes_5 : decode b_Mo_comes 5 = .ok (.iload_n 1, 1) := by decide +kernel
theorem d_Mo_comes_6 : decode b_Mo_comes 6 = .ok (.tableswitch 111 0 3 #[30, 111, 69, 78], 30) := by decide +kernel
theorem d_Mo_comes_36 : decode b_Mo_comes 36 = .ok (.aload_n 0, 1) := by decide +kernel
theorem d_Mo_comes_37 : decode b_Mo_comes 37 = .ok (.iload_n 2, 1) := by decide +kernel
theorem d_Mo_comes_38 : decode b_Mo_comes 38 = .ok (.iload_n 3, 1) := by decide +kernel
theorem d_Mo_comes_39 : decode b_Mo_comes 39 = .ok (.invokevirtual 86, 3) := by decide +kernel
theorem d_Mo_comes_42 : decode b_Mo_comes 42 = .ok (.iconst 4, 1) := by decide +kernel
theorem d_Mo_comes_43 : decode b_Mo_comes 43 = .ok (.aload_n 0, 1) := by decide +kernel
theorem d_Mo_comes_44 : decode b_Mo_comes 44 = .ok (.getfield 38, 3) := by decide +kernel
theorem d_Mo_comes_47 : decode b_Mo_comes 47 = .ok (.iconst 0, 1) := by decide +kernel
theorem d_Mo_comes_48 : decode b_Mo_comes 48 = .ok (.iaload, 1) := by decide +kernel
theorem d_Mo_comes_49 : decode b_Mo_comes 49 = .ok (.imul, 1) := by decide +kernel
theorem d_Mo_comes_50 : decode b_Mo_comes 50 = .ok (.iconst 3, 1) := by decide +kernel
theorem d_Mo_comes_51 : decode b_Mo_comes 51 = .ok (.aload_n 0, 1) := by decide +kernel
theorem d_Mo_comes_52 : decode b_Mo_comes 52 = .ok (.getfield 41, 3) := by decide +kernel
theorem d_Mo_comes_55 : decode b_Mo_comes 55 = .ok (.imul, 1) := by decide +kernel
theorem d_Mo_comes_56 : decode b_Mo_comes 56 = .ok (.if_icmp .le 113, 3) := by decide +kernel
theorem d_Mo_comes_59 : decode b_Mo_comes 59 = .ok (.aload_n 0, 1) := by decide +kernel
theorem d_Mo_comes_60 : decode b_Mo_comes 60 = .ok (.getfield 41, 3) := by decide +kernel
theorem d_Mo_comes_63 : decode b_Mo_comes 63 = .ok (.bipush 32, 2) := by decide +kernel
theorem d_Mo_comes_65 : decode b_Mo_comes 65 = .ok (.if_icmp .ge 104, 3) := by decide +kernel
theorem d_Mo_comes_68 : decode b_Mo_comes 68 = .ok (.aload_n 0, 1) := by decide +kernel
theorem d_Mo_comes_69 : decode b_Mo_comes 69 = .ok (.invokevirtual 103, 3) := by decide +kernel
theorem d_Mo_comes_72 : decode b_Mo_comes 72 = .ok (.goto 97, 3) := by decide +kernel
theorem d_Mo_comes_75 : decode b_Mo_comes 75 = .ok (.aload_n 0, 1) := by decide +kernel
theorem d_Mo_comes_76 : decode b_Mo_comes 76 = .ok (.iload_n 2, 1) := by decide +kernel
theorem d_Mo_comes_77 : decode b_Mo_comes 77 = .ok (.iload_n 3, 1) := by decide +kernel
theorem d_Mo_comes_78 : decode b_Mo_comes 78 = .ok (.invokevirtual 106, 3) := by decide +kernel
theorem d_Mo_comes_81 : decode b_Mo_comes 81 = .ok (.goto 88, 3) := by decide +kernel
theorem d_Mo_comes_84 : decode b_Mo_comes 84 = .ok (.aload_n 0, 1) := by decide +kernel
theorem d_Mo_comes_85 : decode b_Mo_comes 85 = .ok (.bipush 96, 2) := by decide +kernel
theorem d_Mo_comes_87 : decode b_Mo_comes 87 = .ok (.aload_n 0, 1) := by decide +kernel
theorem d_Mo_comes_88 : decode b_Mo_comes 88 = .ok (.getfield 7, 3) := by decide +kernel
theorem d_Mo_comes_91 : decode b_Mo_comes 91 = .ok (.iload_n 2, 1) := by decide +kernel
theorem d_Mo_comes_92 : decode b_Mo_comes 92 = .ok (.iaload, 1) := by decide +kernel
theorem d_Mo_comes_93 : decode b_Mo_comes 93 = .ok (.iadd, 1) := by decide +kernel
theorem d_Mo_comes_94 : decode b_Mo_comes 94 = .ok (.aload_n 0, 1) := by decide +kernel
theorem d_Mo_comes_95 : decode b_Mo_comes 95 = .ok (.getfield 7, 3) := by decide +kernel
theorem d_Mo_comes_98 : decode b_Mo_comes 98 = .ok (.iload_n 2, 1) := by decide +kernel
theorem d_Mo_comes_99 : decode b_Mo_comes 99 = .ok (.iaload, 1) := by decide +kernel
theorem d_Mo_comes_100 : decode b_Mo_comes 100 = .ok (.iload_n 3, 1) := by decide +kernel
theorem d_Mo_comes_101 : decode b_Mo_comes 101 = .ok (.invokevirtual 75, 3) := by decide +kernel
theorem d_Mo_comes_104 : decode b_Mo_comes 104 = .ok (.aload_n 0, 1) := by decide +kernel
theorem d_Mo_comes_105 : decode b_Mo_comes 105 = .ok (.getfield 38, 3) := by decide +kernel
theorem d_Mo_comes_108 : decode b_Mo_comes 108 = .ok (.iconst 3, 1) := by decide +kernel
theorem d_Mo_comes_109 : decode b_Mo_comes 109 = .ok (.dup2, 1) := by decide +kernel
theorem d_Mo_comes_110 : decode b_Mo_comes 110 = .ok (.iaload, 1) := by decide +kernel
theorem d_Mo_comes_111 : decode b_Mo_comes 111 = .ok (.iconst 1, 1) := by decide +kernel
theorem d_Mo_comes_112 : decode b_Mo_comes 112 = .ok (.iadd, 1) := by decide +kernel
theorem d_Mo_comes_113 : decode b_Mo_comes 113 = .ok (.iastore, 1) := by decide +kernel
theorem d_Mo_comes_114 : decode b_Mo_comes 114 = .ok (.goto 55, 3) := by decide +kernel
theorem d_Mo_comes_117 : decode b_Mo_comes 117 = .ok (.aload_n 0, 1) := by decide +kernel
theorem d_Mo_comes_118 : decode b_Mo_comes 118 = .ok (.iload_n 1, 1) := by decide +kernel
theorem d_Mo_comes_119 : decode b_Mo_comes 119 = .ok (.aload_n 0, 1) := by decide +kernel
theorem d_Mo_comes_120 : decode b_Mo_comes 120 = .ok (.iload_n 1, 1) := by decide +kernel
theorem d_Mo_comes_121 : decode b_Mo_comes 121 = .ok (.invokevirtual 68, 3) := by decide +kernel
theorem d_Mo_comes_124 : decode b_Mo_comes 124 = .ok (.iload_n 2, 1) := by decide +kernel
theorem d_Mo_comes_125 : decode b_Mo_comes 125 = .ok (.iload_n 3, 1) := by decide +kernel
theorem d_Mo_comes_126 : decode b_Mo_comes 126 = .ok (.invokevirtual 82, 3) := by decide +kernel
theorem d_Mo_comes_129 : decode b_Mo_comes 129 = .ok (.aload_n 0, 1) := by decide +kernel
theorem d_Mo_comes_130 : decode b_Mo_comes 130 = .ok (.getfield 35, 3) := by decide +kernel
theorem d_Mo_comes_133 : decode b_Mo_comes 133 = .ok (.aload_n 0, 1) := by decide +kernel
theorem d_Mo_comes_134 : decode b_Mo_comes 134 = .ok (.iload_n 1, 1) := by decide +kernel
theorem d_Mo_comes_135 : decode b_Mo_comes 135 = .ok (.invokevirtual 68, 3) := by decide +kernel
theorem d_Mo_comes_138 : decode b_Mo_comes 138 = .ok (.iconst 1, 1) := by decide +kernel
theorem d_Mo_comes_139 : decode b_Mo_comes 139 = .ok (.isub, 1) := by decide +kernel
theorem d_Mo_comes_140 : decode b_Mo_comes 140 = .ok (.aload_n 0, 1) := by decide +kernel
theorem d_Mo_comes_141 : decode b_Mo_comes 141 = .ok (.getfield 93, 3) := by decide +kernel
theorem d_Mo_comes_144 : decode b_Mo_comes 144 = .ok (.iastore, 1) := by decide +kernel
theorem d_Mo_comes_145 : decode b_Mo_comes 145 = .ok (.iload_n 1, 1) := by decide +kernel
theorem d_Mo_comes_146 : decode b_Mo_comes 146 = .ok (.iconst 4, 1) := by decide +kernel
theorem d_Mo_comes_147 : decode b_Mo_comes 147 = .ok (.if_icmp .ne 22, 3) := by decide +kernel
theorem d_Mo_comes_150 : decode b_Mo_comes 150 = .ok (.aload_n 0, 1) := by decide +kernel
theorem d_Mo_comes_151 : decode b_Mo_comes 151 = .ok (.getfield 38, 3) := by decide +kernel
theorem d_Mo_comes_154 : decode b_Mo_comes 154 = .ok (.iconst 4, 1) := by decide +kernel
theorem d_Mo_comes_155 : decode b_Mo_comes 155 = .ok (.iaload, 1) := by decide +kernel
theorem d_Mo_comes_156 : decode b_Mo_comes 156 = .ok (.bipush 6, 2) := by decide +kernel
theorem d_Mo_comes_158 : decode b_Mo_comes 158 = .ok (.if_icmp .le 11, 3) := by decide +kernel
theorem d_Mo_comes_161 : decode b_Mo_comes 161 = .ok (.aload_n 0, 1) := by decide +kernel
theorem d_Mo_comes_162 : decode b_Mo_comes 162 = .ok (.iconst 4, 1) := by decide +kernel
theorem d_Mo_comes_163 : decode b_Mo_comes 163 = .ok (.sipush 128, 3) := by decide +kernel
theorem d_Mo_comes_166 : decode b_Mo_comes 166 = .ok (.invokevirtual 96, 3) := by decide +kernel
theorem d_Mo_comes_169 : decode b_Mo_comes 169 = .ok (.return_, 1) := by decide +kernel
theorem d_Mo_change_0 : decode b_Mo_change 0 = .ok (.aload_n 0, 1) := by decide +kernel
theorem d_Mo_change_1 : decode b_Mo_change 1 = .ok (.getfield 51, 3) := by decide +kernel
theorem d_Mo_change_4 : decode b_Mo_change 4 = .ok (.iload_n 1, 1) := by decide +kernel
theorem d_Mo_change_5 : decode b_Mo_change 5 = .ok (.iconst 1, 1) := by decide +kernel
theorem d_Mo_change_6 : decode b_Mo_change 6 = .ok (.bastore, 1) := by decide +kernel
theorem d_Mo_change_7 : decode b_Mo_change 7 = .ok (.return_, 1) := by decide +kernel
theorem d_Mo_putWeak_0 : decode b_Mo_putWeak 0 = .ok (.aload_n 0, 1) := by decide +kernel
theorem d_Mo_putWeak_1 : decode b_Mo_putWeak 1 = .ok (.iload_n 1, 1) := by decide +kernel
theorem d_Mo_putWeak_2 : decode b_Mo_putWeak 2 = .ok (.invokevirtual 79, 3) := by decide +kernel
theorem d_Mo_putWeak_5 : decode b_Mo_putWeak 5 = .ok (.istore_n 3, 1) := by decide +kernel
theorem d_Mo_putWeak_6 : decode b_Mo_putWeak 6 = .ok (.iconst 0, 1) := by decide +kernel
theorem d_Mo_putWeak_7 : decode b_Mo_putWeak 7 = .ok (.istore 4, 2) := by decide +kernel
theorem d_Mo_putWeak_9 : decode b_Mo_putWeak 9 = .ok (.iload 4, 2) := by decide +kernel
theorem d_Mo_putWeak_11 : decode b_Mo_putWeak 11 = .ok (.aload_n 0, 1) := by decide +kernel
theorem d_Mo_putWeak_12 : decode b_Mo_putWeak 12 = .ok (.getfield 38, 3) := by decide +kernel
theorem d_Mo_putWeak_15 : decode b_Mo_putWeak 15 = .ok (.iconst 0, 1) := by decide +kernel
theorem d_Mo_putWeak_16 : decode b_Mo_putWeak 16 = .ok (.iaload, 1) := by decide +kernel
theorem d_Mo_putWeak_17 : decode b_Mo_putWeak 17 = .ok (.if_icmp .ge 24, 3) := by decide +kernel
theorem d_Mo_putWeak_20 : decode b_Mo_putWeak 20 = .ok (.aload_n 0, 1) := by decide +kernel
theorem d_Mo_putWeak_21 : decode b_Mo_putWeak 21 = .ok (.aload_n 0, 1) := by decide +kernel
theorem d_Mo_putWeak_22 : decode b_Mo_putWeak 22 = .ok (.getfield 29, 3) := by decide +kernel
theorem d_Mo_putWeak_25 : decode b_Mo_putWeak 25 = .ok (.iload 4, 2) := by decide +kernel
theorem d_Mo_putWeak_27 : decode b_Mo_putWeak 27 = .ok (.iaload, 1) := by decide +kernel
theorem d_Mo_putWeak_28 : decode b_Mo_putWeak 28 = .ok (.invokevirtual 79, 3) := by decide +kernel
theorem d_Mo_putWeak_31 : decode b_Mo_putWeak 31 = .ok (.iload_n 3, 1) := by decide +kernel
theorem d_Mo_putWeak_32 : decode b_Mo_putWeak 32 = .ok (.if_icmp .ge 9, 3) := by decide +kernel
theorem d_Mo_putWeak_35 : decode b_Mo_putWeak 35 = .ok (.iinc 4 1, 3) := by decide +kernel
theorem d_Mo_putWeak_38 : decode b_Mo_putWeak 38 = .ok (.goto (-29), 3) := by decide +kernel
theorem d_Mo_putWeak_41 : decode b_Mo_putWeak 41 = .ok (.aload_n 0, 1) := by decide +kernel
theorem d_Mo_putWeak_42 : decode b_Mo_putWeak 42 = .ok (.iconst 0, 1) := by decide +kernel
theorem d_Mo_putWeak_43 : decode b_Mo_putWeak 43 = .ok (.iload 4, 2) := by decide +kernel
theorem d_Mo_putWeak_45 : decode b_Mo_putWeak 45 = .ok (.iload_n 1, 1) := by decide +kernel
theorem d_Mo_putWeak_46 : decode b_Mo_putWeak 46 = .ok (.iload_n 2, 1) := by decide +kernel
theorem d_Mo_putWeak_47 : decode b_Mo_putWeak 47 = .ok (.invokevirtual 82, 3) := by decide +kernel
theorem d_Mo_putWeak_50 : decode b_Mo_putWeak 50 = .ok (.return_, 1) := by decide +kernel
theorem d_Mo_bucketOf_0 : decode b_Mo_bucketOf 0 = .ok (.aload_n 0, 1) := by decide +kernel
theorem d_Mo_bucketOf_1 : decode b_Mo_bucketOf 1 = .ok (.getfield 7, 3) := by decide +kernel
theorem d_Mo_bucketOf_4 : decode b_Mo_bucketOf 4 = .ok (.iload_n 1, 1) := by decide +kernel
theorem d_Mo_bucketOf_5 : decode b_Mo_bucketOf 5 = .ok (.iaload, 1) := by decide +kernel
theorem d_Mo_bucketOf_6 : decode b_Mo_bucketOf 6 = .ok (.aload_n 0, 1) := by decide +kernel
theorem d_Mo_bucketOf_7 : decode b_Mo_bucketOf 7 = .ok (.getfield 7, 3) := by decide +kernel
theorem d_Mo_bucketOf_10 : decode b_Mo_bucketOf 10 = .ok (.iload_n 1, 1) := by decide +kernel
theorem d_Mo_bucketOf_11 : decode b_Mo_bucketOf 11 = .ok (.iaload, 1) := by decide +kernel
theorem d_Mo_bucketOf_12 : decode b_Mo_bucketOf 12 = .ok (.iconst 4, 1) := by decide +kernel
theorem d_Mo_bucketOf_13 : decode b_Mo_bucketOf 13 = .ok (.ishr, 1) := by decide +kernel
theorem d_Mo_bucketOf_14 : decode b_Mo_bucketOf 14 = .ok (.ixor, 1) := by decide +kernel
theorem d_Mo_bucketOf_15 : decode b_Mo_bucketOf 15 = .ok (.aload_n 0, 1) := by decide +kernel
theorem d_Mo_bucketOf_16 : decode b_Mo_bucketOf 16 = .ok (.getfield 41, 3) := by decide +kernel
theorem d_Mo_bucketOf_19 : decode b_Mo_bucketOf 19 = .ok (.iconst 1, 1) := by decide +kernel
theorem d_Mo_bucketOf_20 : decode b_Mo_bucketOf 20 = .ok (.isub, 1) := by decide +kernel
theorem d_Mo_bucketOf_21 : decode b_Mo_bucketOf 21 = .ok (.iand, 1) := by decide +kernel
theorem d_Mo_bucketOf_22 : decode b_Mo_bucketOf 22 = .ok (.ireturn, 1) := by decide +kernel
theorem d_Mo_openn_0 : decode b_Mo_openn 0 = .ok (.aload_n 0, 1) := by decide +kernel
theorem d_Mo_openn_1 : decode b_Mo_openn 1 = .ok (.iload_n 1, 1) := by decide +kernel
theorem d_Mo_openn_2 : decode b_Mo_openn 2 = .ok (.invokevirtual 68, 3) := by decide +kernel
theorem d_Mo_openn_5 : decode b_Mo_openn 5 = .ok (.istore 5, 2) := by decide +kernel
theorem d_Mo_openn_7 : decode b_Mo_openn 7 = .ok (.iload 5, 2) := by decide +kernel
theorem d_Mo_openn_9 : decode b_Mo_openn 9 = .ok (.iload_n 2, 1) := by decide +kernel
theorem d_Mo_openn_10 : decode b_Mo_openn 10 = .ok (.if_icmp .le 49, 3) := by decide +kernel
theorem d_Mo_openn_13 : decode b_Mo_openn 13 = .ok (.aload_n 0, 1) := by decide +kernel
theorem d_Mo_openn_14 : decode b_Mo_openn 14 = .ok (.iload 5, 2) := by decide +kernel
theorem d_Mo_openn_16 : decode b_Mo_openn 16 = .ok (.aload_n 0, 1) := by decide +kernel
theorem d_Mo_openn_17 : decode b_Mo_openn 17 = .ok (.getfield 29, 3) := by decide +kernel
theorem d_Mo_openn_20 : decode b_Mo_openn 20 = .ok (.iload 5, 2) := by decide +kernel
theorem d_Mo_openn_22 : decode b_Mo_openn 22 = .ok (.iconst 1, 1) := by decide +kernel
theorem d_Mo_openn_23 : decode b_Mo_openn 23 = .ok (.isub, 1) := by decide +kernel
theorem d_Mo_openn_24 : decode b_Mo_openn 24 = .ok (.iaload, 1) := by decide +kernel
theorem d_Mo_openn_25 : decode b_Mo_openn 25 = .ok (.aload_n 0, 1) := by decide +kernel
theorem d_Mo_openn_26 : decode b_Mo_openn 26 = .ok (.getfield 32, 3) := by decide +kernel
theorem d_Mo_openn_29 : decode b_Mo_openn 29 = .ok (.iload 5, 2) := by decide +kernel
theorem d_Mo_openn_31 : decode b_Mo_openn 31 = .ok (.iconst 1, 1) := by decide +kernel
theorem d_Mo_openn_32 : decode b_Mo_openn 32 = .ok (.isub, 1) := by decide +kernel
theorem d_Mo_openn_33 : decode b_Mo_openn 33 = .ok (.iaload, 1) := by decide +kernel
theorem d_Mo_openn_34 : decode b_Mo_openn 34 = .ok (.invokevirtual 75, 3) := by decide +kernel
theorem d_Mo_openn_37 : decode b_Mo_openn 37 = .ok (.aload_n 0, 1) := by decide +kernel
theorem d_Mo_openn_38 : decode b_Mo_openn 38 = .ok (.getfield 35, 3) := by decide +kernel
theorem d_Mo_openn_41 : decode b_Mo_openn 41 = .ok (.iload 5, 2) := by decide +kernel
theorem d_Mo_openn_43 : decode b_Mo_openn 43 = .ok (.aload_n 0, 1) := by decide +kernel
theorem d_Mo_openn_44 : decode b_Mo_openn 44 = .ok (.getfield 35, 3) := by decide +kernel
theorem d_Mo_openn_47 : decode b_Mo_openn 47 = .ok (.iload 5, 2) := by decide +kernel
theorem d_Mo_openn_49 : decode b_Mo_openn 49 = .ok (.iconst 1, 1) := by decide +kernel
theorem d_Mo_openn_50 : decode b_Mo_openn 50 = .ok (.isub, 1) := by decide +kernel
theorem d_Mo_openn_51 : decode b_Mo_openn 51 = .ok (.iaload, 1) := by decide +kernel
theorem d_Mo_openn_52 : decode b_Mo_openn 52 = .ok (.iastore, 1) := by decide +kernel
theorem d_Mo_openn_53 : decode b_Mo_openn 53 = .ok (.iinc 5 (-1), 3) := by decide +kernel
theorem d_Mo_openn_56 : decode b_Mo_openn 56 = .ok (.goto (-49), 3) := by decide +kernel
theorem d_Mo_openn_59 : decode b_Mo_openn 59 = .ok (.aload_n 0, 1) := by decide +kernel
theorem d_Mo_openn_60 : decode b_Mo_openn 60 = .ok (.iload_n 2, 1) := by decide +kernel
theorem d_Mo_openn_61 : decode b_Mo_openn 61 = .ok (.iload_n 3, 1) := by decide +kernel
theorem d_Mo_openn_62 : decode b_Mo_openn 62 = .ok (.iload 4, 2) := by decide +kernel
theorem d_Mo_openn_64 : decode b_Mo_openn 64 = .ok (.invokevirtual 75, 3) := by decide +kernel
theorem d_Mo_openn_67 : decode b_Mo_openn 67 = .ok (.aload_n 0, 1) := by decide +kernel
theorem d_Mo_openn_68 : decode b_Mo_openn 68 = .ok (.getfield 38, 3) := by decide +kernel
theorem d_Mo_openn_71 : decode b_Mo_openn 71 = .ok (.iload_n 1, 1) := by decide +kernel
theorem d_Mo_openn_72 : decode b_Mo_openn 72 = .ok (.dup2, 1) := by decide +kernel
theorem d_Mo_openn_73 : decode b_Mo_openn 73 = .ok (.iaload, 1) := by decide +kernel
theorem d_Mo_openn_74 : decode b_Mo_openn 74 = .ok (.iconst 1, 1) := by decide +kernel
theorem d_Mo_openn_75 : decode b_Mo_openn 75 = .ok (.iadd, 1) := by decide +kernel
theorem d_Mo_openn_76 : decode b_Mo_openn 76 = .ok (.iastore, 1) := by decide +kernel
theorem d_Mo_openn_77 : decode b_Mo_openn 77 = .ok (.return_, 1) := by decide +kernel
theorem d_Mo_set_0 : decode b_Mo_set 0 = .ok (.aload_n 0, 1) := by decide +kernel
theorem d_Mo_set_1 : decode b_Mo_set 1 = .ok (.getfield 29, 3) := by decide +kernel
theorem d_Mo_set_4 : decode b_Mo_set 4 = .ok (.iload_n 1, 1) := by decide +kernel
theorem d_Mo_set_5 : decode b_Mo_set 5 = .ok (.iload_n 2, 1) := by decide +kernel
theorem d_Mo_set_6 : decode b_Mo_set 6 = .ok (.iastore, 1) := by decide +kernel
theorem d_Mo_set_7 : decode b_Mo_set 7 = .ok (.aload_n 0, 1) := by decide +kernel
theorem d_Mo_set_8 : decode b_Mo_set 8 = .ok (.getfield 32, 3) := by decide +kernel
theorem d_Mo_set_11 : decode b_Mo_set 11 = .ok (.iload_n 1, 1) := by decide +kernel
theorem d_Mo_set_12 : decode b_Mo_set 12 = .ok (.iload_n 3, 1) := by decide +kernel
theorem d_Mo_set_13 : decode b_Mo_set 13 = .ok (.iastore, 1) := by decide +kernel
theorem d_Mo_set_14 : decode b_Mo_set 14 = .ok (.return_, 1) := by decide +kernel
theorem d_Mo_doubleBuckets_0 : decode b_Mo_doubleBuckets 0 = .ok (.aload_n 0, 1) := by decide +kernel
theorem d_Mo_doubleBuckets_1 : decode b_Mo_doubleBuckets 1 = .ok (.getfield 38, 3) := by decide +kernel
theorem d_Mo_doubleBuckets_4 : decode b_Mo_doubleBuckets 4 = .ok (.iconst 0, 1) := by decide +kernel
theorem d_Mo_doubleBuckets_5 : decode b_Mo_doubleBuckets 5 = .ok (.iaload, 1) := by decide +kernel
theorem d_Mo_doubleBuckets_6 : decode b_Mo_doubleBuckets 6 = .ok (.istore_n 1, 1) := by decide +kernel
theorem d_Mo_doubleBuckets_7 : decode b_Mo_doubleBuckets 7 = .ok (.aload_n 0, 1) := by decide +kernel
theorem d_Mo_doubleBuckets_8 : decode b_Mo_doubleBuckets 8 = .ok (.iconst 2, 1) := by decide +kernel
theorem d_Mo_doubleBuckets_9 : decode b_Mo_doubleBuckets 9 = .ok (.aload_n 0, 1) := by decide +kernel
theorem d_Mo_doubleBuckets_10 : decode b_Mo_doubleBuckets 10 = .ok (.getfield 41, 3) := by decide +kernel
theorem d_Mo_doubleBuckets_13 : decode b_Mo_doubleBuckets 13 = .ok (.imul, 1) := by decide +kernel
theorem d_Mo_doubleBuckets_14 : decode b_Mo_doubleBuckets 14 = .ok (.putfield 41, 3) := by decide +kernel
theorem d_Mo_doubleBuckets_17 : decode b_Mo_doubleBuckets 17 = .ok (.iconst 0, 1) := by decide +kernel
theorem d_Mo_doubleBuckets_18 : decode b_Mo_doubleBuckets 18 = .ok (.istore_n 2, 1) := by decide +kernel
theorem d_Mo_doubleBuckets_19 : decode b_Mo_doubleBuckets 19 = .ok (.iload_n 2, 1) := by decide +kernel
theorem d_Mo_doubleBuckets_20 : decode b_Mo_doubleBuckets 20 = .ok (.iload_n 1, 1) := by decide +kernel
theorem d_Mo_doubleBuckets_21 : decode b_Mo_doubleBuckets 21 = .ok (.if_icmp .ge 36, 3) := by decide +kernel
theorem d_Mo_doubleBuckets_24 : decode b_Mo_doubleBuckets 24 = .ok (.aload_n 0, 1) := by decide +kernel
theorem d_Mo_doubleBuckets_25 : decode b_Mo_doubleBuckets 25 = .ok (.getfield 45, 3) := by decide +kernel
theorem d_Mo_doubleBuckets_28 : decode b_Mo_doubleBuckets 28 = .ok (.iload_n 2, 1) := by decide +kernel
theorem d_Mo_doubleBuckets_29 : decode b_Mo_doubleBuckets 29 = .ok (.aload_n 0, 1) := by decide +kernel
theorem d_Mo_doubleBuckets_30 : decode b_Mo_doubleBuckets 30 = .ok (.getfield 29, 3) := by decide +kernel
theorem d_Mo_doubleBuckets_33 : decode b_Mo_doubleBuckets 33 = .ok (.iload_n 2, 1) := by decide +kernel
theorem d_Mo_doubleBuckets_34 : decode b_Mo_doubleBuckets 34 = .ok (.iaload, 1) := by decide +kernel
theorem d_Mo_doubleBuckets_35 : decode b_Mo_doubleBuckets 35 = .ok (.iastore, 1) := by decide +kernel
theorem d_Mo_doubleBuckets_36 : decode b_Mo_doubleBuckets 36 = .ok (.aload_n 0, 1) := by decide +kernel
theorem d_Mo_doubleBuckets_37 : decode b_Mo_doubleBuckets 37 = .ok (.getfield 45, 3) := by decide +kernel
theorem d_Mo_doubleBuckets_40 : decode b_Mo_doubleBuckets 40 = .ok (.bipush 32, 2) := by decide +kernel
theorem d_Mo_doubleBuckets_42 : decode b_Mo_doubleBuckets 42 = .ok (.iload_n 2, 1) := by decide +kernel
theorem d_Mo_doubleBuckets_43 : decode b_Mo_doubleBuckets 43 = .ok (.iadd, 1) := by decide +kernel
theorem d_Mo_doubleBuckets_44 : decode b_Mo_doubleBuckets 44 = .ok (.aload_n 0, 1) := by decide +kernel
theorem d_Mo_doubleBuckets_45 : decode b_Mo_doubleBuckets 45 = .ok (.getfield 32, 3) := by decide +kernel
theorem d_Mo_doubleBuckets_48 : decode b_Mo_doubleBuckets 48 = .ok (.iload_n 2, 1) := by decide +kernel
theorem d_Mo_doubleBuckets_49 : decode b_Mo_doubleBuckets 49 = .ok (.iaload, 1) := by decide +kernel
theorem d_Mo_doubleBuckets_50 : decode b_Mo_doubleBuckets 50 = .ok (.iastore, 1) := by decide +kernel
theorem d_Mo_doubleBuckets_51 : decode b_Mo_doubleBuckets 51 = .ok (.iinc 2 1, 3) := by decide +kernel
theorem d_Mo_doubleBuckets_54 : decode b_Mo_doubleBuckets 54 = .ok (.goto (-35), 3) := by decide +kernel
theorem d_Mo_doubleBuckets_57 : decode b_Mo_doubleBuckets 57 = .ok (.aload_n 0, 1) := by decide +kernel
theorem d_Mo_doubleBuckets_58 : decode b_Mo_doubleBuckets 58 = .ok (.getfield 38, 3) := by decide +kernel
theorem d_Mo_doubleBuckets_61 : decode b_Mo_doubleBuckets 61 = .ok (.iconst 0, 1) := by decide +kernel
theorem d_Mo_doubleBuckets_62 : decode b_Mo_doubleBuckets 62 = .ok (.iconst 0, 1) := by decide +kernel
theorem d_Mo_doubleBuckets_63 : decode b_Mo_doubleBuckets 63 = .ok (.iastore, 1) := by decide +kernel
theorem d_Mo_doubleBuckets_64 : decode b_Mo_doubleBuckets 64 = .ok (.iconst 0, 1) := by decide +kernel
theorem d_Mo_doubleBuckets_65 : decode b_Mo_doubleBuckets 65 = .ok (.istore_n 2, 1) := by decide +kernel
theorem d_Mo_doubleBuckets_66 : decode b_Mo_doubleBuckets 66 = .ok (.iload_n 2, 1) := by decide +kernel
theorem d_Mo_doubleBuckets_67 : decode b_Mo_doubleBuckets 67 = .ok (.iload_n 1, 1) := by decide +kernel
theorem d_Mo_doubleBuckets_68 : decode b_Mo_doubleBuckets 68 = .ok (.if_icmp .ge 28, 3) := by decide +kernel
theorem d_Mo_doubleBuckets_71 : decode b_Mo_doubleBuckets 71 = .ok (.aload_n 0, 1) := by decide +kernel
theorem d_Mo_doubleBuckets_72 : decode b_Mo_doubleBuckets 72 = .ok (.aload_n 0, 1) := by decide +kernel
theorem d_Mo_doubleBuckets_73 : decode b_Mo_doubleBuckets 73 = .ok (.getfield 45, 3) := by decide +kernel
theorem d_Mo_doubleBuckets_76 : decode b_Mo_doubleBuckets 76 = .ok (.iload_n 2, 1) := by decide +kernel
theorem d_Mo_doubleBuckets_77 : decode b_Mo_doubleBuckets 77 = .ok (.iaload, 1) := by decide +kernel
theorem d_Mo_doubleBuckets_78 : decode b_Mo_doubleBuckets 78 = .ok (.aload_n 0, 1) := by decide +kernel
theorem d_Mo_doubleBuckets_79 : decode b_Mo_doubleBuckets 79 = .ok (.getfield 45, 3) := by decide +kernel
theorem d_Mo_doubleBuckets_82 : decode b_Mo_doubleBuckets 82 = .ok (.bipush 32, 2) := by decide +kernel
theorem d_Mo_doubleBuckets_84 : decode b_Mo_doubleBuckets 84 = .ok (.iload_n 2, 1) := by decide +kernel
theorem d_Mo_doubleBuckets_85 : decode b_Mo_doubleBuckets 85 = .ok (.iadd, 1) := by decide +kernel
theorem d_Mo_doubleBuckets_86 : decode b_Mo_doubleBuckets 86 = .ok (.iaload, 1) := by decide +kernel
theorem d_Mo_doubleBuckets_87 : decode b_Mo_doubleBuckets 87 = .ok (.invokevirtual 86, 3) := by decide +kernel
theorem d_Mo_doubleBuckets_90 : decode b_Mo_doubleBuckets 90 = .ok (.iinc 2 1, 3) := by decide +kernel
theorem d_Mo_doubleBuckets_93 : decode b_Mo_doubleBuckets 93 = .ok (.goto (-27), 3) := by decide +kernel
theorem d_Mo_doubleBuckets_96 : decode b_Mo_doubleBuckets 96 = .ok (.return_, 1) := by decide +kernel
theorem d_Mo_putIdentity_0 : decode b_Mo_putIdentity 0 = .ok (.iload_n 1, 1) := by decide +kernel
theorem d_Mo_putIdentity_1 : decode b_Mo_putIdentity 1 = .ok (.invokestatic 90, 3) := by decide +kernel
theorem d_Mo_putIdentity_4 : decode b_Mo_putIdentity 4 = .ok (.istore_n 3, 1) := by decide +kernel
theorem d_Mo_putIdentity_5 : decode b_Mo_putIdentity 5 = .ok (.aload_n 0, 1) := by decide +kernel
theorem d_Mo_putIdentity_6 : decode b_Mo_putIdentity 6 = .ok (.getfield 29, 3) := by decide +kernel
theorem d_Mo_putIdentity_9 : decode b_Mo_putIdentity 9 = .ok (.bipush 64, 2) := by decide +kernel
theorem d_Mo_putIdentity_11 : decode b_Mo_putIdentity 11 = .ok (.iload_n 3, 1) := by decide +kernel
theorem d_Mo_putIdentity_12 : decode b_Mo_putIdentity 12 = .ok (.iadd, 1) := by decide +kernel
theorem d_Mo_putIdentity_13 : decode b_Mo_putIdentity 13 = .ok (.iaload, 1) := by decide +kernel
theorem d_Mo_putIdentity_14 : decode b_Mo_putIdentity 14 = .ok (.ifCond .lt 13, 3) := by decide +kernel
theorem d_Mo_putIdentity_17 : decode b_Mo_putIdentity 17 = .ok (.iload_n 3, 1) := by decide +kernel
theorem d_Mo_putIdentity_18 : decode b_Mo_putIdentity 18 = .ok (.iconst 1, 1) := by decide +kernel
theorem d_Mo_putIdentity_19 : decode b_Mo_putIdentity 19 = .ok (.iadd, 1) := by decide +kernel
theorem d_Mo_putIdentity_20 : decode b_Mo_putIdentity 20 = .ok (.bipush 16, 2) := by decide +kernel
theorem d_Mo_putIdentity_22 : decode b_Mo_putIdentity 22 = .ok (.irem, 1) := by decide +kernel
theorem d_Mo_putIdentity_23 : decode b_Mo_putIdentity 23 = .ok (.istore_n 3, 1) := by decide +kernel
theorem d_Mo_putIdentity_24 : decode b_Mo_putIdentity 24 = .ok (.goto (-19), 3) := by decide +kernel
theorem d_Mo_putIdentity_27 : decode b_Mo_putIdentity 27 = .ok (.aload_n 0, 1) := by decide +kernel
theorem d_Mo_putIdentity_28 : decode b_Mo_putIdentity 28 = .ok (.bipush 64, 2) := by decide +kernel
theorem d_Mo_putIdentity_30 : decode b_Mo_putIdentity 30 = .ok (.iload_n 3, 1) := by decide +kernel
theorem d_Mo_putIdentity_31 : decode b_Mo_putIdentity 31 = .ok (.iadd, 1) := by decide +kernel
theorem d_Mo_putIdentity_32 : decode b_Mo_putIdentity 32 = .ok (.iload_n 1, 1) := by decide +kernel
theorem d_Mo_putIdentity_33 : decode b_Mo_putIdentity 33 = .ok (.iload_n 2, 1) := by decide +kernel
theorem d_Mo_putIdentity_34 : decode b_Mo_putIdentity 34 = .ok (.invokevirtual 75, 3) := by decide +kernel
theorem d_Mo_putIdentity_37 : decode b_Mo_putIdentity 37 = .ok (.aload_n 0, 1) := by decide +kernel
theorem d_Mo_putIdentity_38 : decode b_Mo_putIdentity 38 = .ok (.getfield 38, 3) := by decide +kernel
theorem d_Mo_putIdentity_41 : decode b_Mo_putIdentity 41 = .ok (.iconst 2, 1) := by decide +kernel
theorem d_Mo_putIdentity_42 : decode b_Mo_putIdentity 42 = .ok (.dup2, 1) := by decide +kernel
theorem d_Mo_putIdentity_43 : decode b_Mo_putIdentity 43 = .ok (.iaload, 1) := by decide +kernel
theorem d_Mo_putIdentity_44 : decode b_Mo_putIdentity 44 = .ok (.iconst 1, 1) := by decide +kernel
theorem d_Mo_putIdentity_45 : decode b_Mo_putIdentity 45 = .ok (.iadd, 1) := by decide +kernel
theorem d_Mo_putIdentity_46 : decode b_Mo_putIdentity 46 = .ok (.iastore, 1) := by decide +kernel
theorem d_Mo_putIdentity_47 : decode b_Mo_putIdentity 47 = .ok (.return_, 1) := by decide +kernel
theorem d_Mo_slotOf_0 : decode b_Mo_slotOf 0 = .ok (.bipush 7, 2) := by decide +kernel
theorem d_Mo_slotOf_2 : decode b_Mo_slotOf 2 = .ok (.iload_n 0, 1) := by decide +kernel
theorem d_Mo_slotOf_3 : decode b_Mo_slotOf 3 = .ok (.imul, 1) := by decide +kernel
theorem d_Mo_slotOf_4 : decode b_Mo_slotOf 4 = .ok (.bipush 16, 2) := by decide +kernel
theorem d_Mo_slotOf_6 : decode b_Mo_slotOf 6 = .ok (.irem, 1) := by decide +kernel
theorem d_Mo_slotOf_7 : decode b_Mo_slotOf 7 = .ok (.ireturn, 1) := by decide +kernel
theorem d_Mo_close_0 : decode b_Mo_close 0 = .ok (.aload_n 0, 1) := by decide +kernel
theorem d_Mo_close_1 : decode b_Mo_close 1 = .ok (.getfield 38, 3) := by decide +kernel
theorem d_Mo_close_4 : decode b_Mo_close 4 = .ok (.iload_n 1, 1) := by decide +kernel
theorem d_Mo_close_5 : decode b_Mo_close 5 = .ok (.dup2, 1) := by decide +kernel
theorem d_Mo_close_6 : decode b_Mo_close 6 = .ok (.iaload, 1) := by decide +kernel
theorem d_Mo_close_7 : decode b_Mo_close 7 = .ok (.iconst 1, 1) := by decide +kernel
theorem d_Mo_close_8 : decode b_Mo_close 8 = .ok (.isub, 1) := by decide +kernel
theorem d_Mo_close_9 : decode b_Mo_close 9 = .ok (.iastore, 1) := by decide +kernel
theorem d_Mo_close_10 : decode b_Mo_close 10 = .ok (.iload_n 2, 1) := by decide +kernel
theorem d_Mo_close_11 : decode b_Mo_close 11 = .ok (.istore_n 3, 1) := by decide +kernel
theorem d_Mo_close_12 : decode b_Mo_close 12 = .ok (.iload_n 3, 1) := by decide +kernel
theorem d_Mo_close_13 : decode b_Mo_close 13 = .ok (.aload_n 0, 1) := by decide +kernel
theorem d_Mo_close_14 : decode b_Mo_close 14 = .ok (.iload_n 1, 1) := by decide +kernel
theorem d_Mo_close_15 : decode b_Mo_close 15 = .ok (.invokevirtual 68, 3) := by decide +kernel
theorem d_Mo_close_18 : decode b_Mo_close 18 = .ok (.if_icmp .ge 44, 3) := by decide +kernel
theorem d_Mo_close_21 : decode b_Mo_close 21 = .ok (.aload_n 0, 1) := by decide +kernel
theorem d_Mo_close_22 : decode b_Mo_close 22 = .ok (.iload_n 3, 1) := by decide +kernel
theorem d_Mo_close_23 : decode b_Mo_close 23 = .ok (.aload_n 0, 1) := by decide +kernel
theorem d_Mo_close_24 : decode b_Mo_close 24 = .ok (.getfield 29, 3) := by decide +kernel
theorem d_Mo_close_27 : decode b_Mo_close 27 = .ok (.iload_n 3, 1) := by decide +kernel
theorem d_Mo_close_28 : decode b_Mo_close 28 = .ok (.iconst 1, 1) := by decide +kernel
theorem d_Mo_close_29 : decode b_Mo_close 29 = .ok (.iadd, 1) := by decide +kernel
theorem d_Mo_close_30 : decode b_Mo_close 30 = .ok (.iaload, 1) := by decide +kernel
theorem d_Mo_close_31 : decode b_Mo_close 31 = .ok (.aload_n 0, 1) := by decide +kernel
theorem d_Mo_close_32 : decode b_Mo_close 32 = .ok (.getfield 32, 3) := by decide +kernel
theorem d_Mo_close_35 : decode b_Mo_close 35 = .ok (.iload_n 3, 1) := by decide +kernel
theorem d_Mo_close_36 : decode b_Mo_close 36 = .ok (.iconst 1, 1) := by decide +kernel
theorem d_Mo_close_37 : decode b_Mo_close 37 = .ok (.iadd, 1) := by decide +kernel
theorem d_Mo_close_38 : decode b_Mo_close 38 = .ok (.iaload, 1) := by decide +kernel
theorem d_Mo_close_39 : decode b_Mo_close 39 = .ok (.invokevirtual 75, 3) := by decide +kernel
theorem d_Mo_close_42 : decode b_Mo_close 42 = .ok (.aload_n 0, 1) := by decide +kernel
theorem d_Mo_close_43 : decode b_Mo_close 43 = .ok (.getfield 35, 3) := by decide +kernel
theorem d_Mo_close_46 : decode b_Mo_close 46 = .ok (.iload_n 3, 1) := by decide +kernel
theorem d_Mo_close_47 : decode b_Mo_close 47 = .ok (.aload_n 0, 1) := by decide +kernel
theorem d_Mo_close_48 : decode b_Mo_close 48 = .ok (.getfield 35, 3) := by decide +kernel
theorem d_Mo_close_51 : decode b_Mo_close 51 = .ok (.iload_n 3, 1) := by decide +kernel
theorem d_Mo_close_52 : decode b_Mo_close 52 = .ok (.iconst 1, 1) := by decide +kernel
theorem d_Mo_close_53 : decode b_Mo_close 53 = .ok (.iadd, 1) := by decide +kernel
theorem d_Mo_close_54 : decode b_Mo_close 54 = .ok (.iaload, 1) := by decide +kernel
theorem d_Mo_close_55 : decode b_Mo_close 55 = .ok (.iastore, 1) := by decide +kernel
theorem d_Mo_close_56 : decode b_Mo_close 56 = .ok (.iinc 3 1, 3) := by decide +kernel
theorem d_Mo_close_59 : decode b_Mo_close 59 = .ok (.goto (-47), 3) := by decide +kernel
theorem d_Mo_close_62 : decode b_Mo_close 62 = .ok (.aload_n 0, 1) := by decide +kernel
theorem d_Mo_close_63 : decode b_Mo_close 63 = .ok (.getfield 29, 3) := by decide +kernel
theorem d_Mo_close_66 : decode b_Mo_close 66 = .ok (.aload_n 0, 1) := by decide +kernel
theorem d_Mo_close_67 : decode b_Mo_close 67 = .ok (.iload_n 1, 1) := by decide +kernel
theorem d_Mo_close_68 : decode b_Mo_close 68 = .ok (.invokevirtual 68, 3) := by decide +kernel
theorem d_Mo_close_71 : decode b_Mo_close 71 = .ok (.iconst (-1), 1) := by decide +kernel
theorem d_Mo_close_72 : decode b_Mo_close 72 = .ok (.iastore, 1) := by decide +kernel
theorem d_Mo_close_73 : decode b_Mo_close 73 = .ok (.return_, 1) := by decide +kernel
theorem d_Mo_use_0 : decode b_Mo_use 0 = .ok (.iload_n 1, 1) := by decide +kernel
theorem d_Mo_use_1 : decode b_Mo_use 1 = .ok (.iconst 1, 1) := by decide +kernel
theorem d_Mo_use_2 : decode b_Mo_use 2 = .ok (.if_icmp .ne 13, 3) := by decide +kernel
theorem d_Mo_use_5 : decode b_Mo_use 5 = .ok (.aload_n 0, 1) := by decide +kernel
theorem d_Mo_use_6 : decode b_Mo_use 6 = .ok (.getfield 35, 3) := by decide +kernel
theorem d_Mo_use_9 : decode b_Mo_use 9 = .ok (.iload_n 2, 1) := by decide +kernel
theorem d_Mo_use_10 : decode b_Mo_use 10 = .ok (.aload_n 0, 1) := by decide +kernel
theorem d_Mo_use_11 : decode b_Mo_use 11 = .ok (.getfield 93, 3) := by decide +kernel
theorem d_Mo_use_14 : decode b_Mo_use 14 = .ok (.iastore, 1) := by decide +kernel
theorem d_Mo_use_15 : decode b_Mo_use 15 = .ok (.iload_n 1, 1) := by decide +kernel
theorem d_Mo_use_16 : decode b_Mo_use 16 = .ok (.iconst 4, 1) := by decide +kernel
theorem d_Mo_use_17 : decode b_Mo_use 17 = .ok (.if_icmp .ne 53, 3) := by decide +kernel
theorem d_Mo_use_20 : decode b_Mo_use 20 = .ok (.iload_n 2, 1) := by decide +kernel
theorem d_Mo_use_21 : decode b_Mo_use 21 = .ok (.iconst 1, 1) := by decide +kernel
theorem d_Mo_use_22 : decode b_Mo_use 22 = .ok (.iadd, 1) := by decide +kernel
theorem d_Mo_use_23 : decode b_Mo_use 23 = .ok (.aload_n 0, 1) := by decide +kernel
theorem d_Mo_use_24 : decode b_Mo_use 24 = .ok (.iload_n 1, 1) := by decide +kernel
theorem d_Mo_use_25 : decode b_Mo_use 25 = .ok (.invokevirtual 68, 3) := by decide +kernel
theorem d_Mo_use_28 : decode b_Mo_use 28 = .ok (.if_icmp .ge 42, 3) := by decide +kernel
theorem d_Mo_use_31 : decode b_Mo_use 31 = .ok (.aload_n 0, 1) := by decide +kernel
theorem d_Mo_use_32 : decode b_Mo_use 32 = .ok (.getfield 29, 3) := by decide +kernel
theorem d_Mo_use_35 : decode b_Mo_use 35 = .ok (.iload_n 2, 1) := by decide +kernel
theorem d_Mo_use_36 : decode b_Mo_use 36 = .ok (.iaload, 1) := by decide +kernel
theorem d_Mo_use_37 : decode b_Mo_use 37 = .ok (.istore_n 3, 1) := by decide +kernel
theorem d_Mo_use_38 : decode b_Mo_use 38 = .ok (.aload_n 0, 1) := by decide +kernel
theorem d_Mo_use_39 : decode b_Mo_use 39 = .ok (.getfield 32, 3) := by decide +kernel
theorem d_Mo_use_42 : decode b_Mo_use 42 = .ok (.iload_n 2, 1) := by decide +kernel
theorem d_Mo_use_43 : decode b_Mo_use 43 = .ok (.iaload, 1) := by decide +kernel
theorem d_Mo_use_44 : decode b_Mo_use 44 = .ok (.istore 4, 2) := by decide +kernel
theorem d_Mo_use_46 : decode b_Mo_use 46 = .ok (.aload_n 0, 1) := by decide +kernel
theorem d_Mo_use_47 : decode b_Mo_use 47 = .ok (.iload_n 1, 1) := by decide +kernel
theorem d_Mo_use_48 : decode b_Mo_use 48 = .ok (.iload_n 2, 1) := by decide +kernel
theorem d_Mo_use_49 : decode b_Mo_use 49 = .ok (.invokevirtual 96, 3) := by decide +kernel
theorem d_Mo_use_52 : decode b_Mo_use 52 = .ok (.aload_n 0, 1) := by decide +kernel
theorem d_Mo_use_53 : decode b_Mo_use 53 = .ok (.iload_n 1, 1) := by decide +kernel
theorem d_Mo_use_54 : decode b_Mo_use 54 = .ok (.aload_n 0, 1) := by decide +kernel
theorem d_Mo_use_55 : decode b_Mo_use 55 = .ok (.iload_n 1, 1) := by decide +kernel
theorem d_Mo_use_56 : decode b_Mo_use 56 = .ok (.invokevirtual 68, 3) := by decide +kernel
theorem d_Mo_use_59 : decode b_Mo_use 59 = .ok (.iload_n 3, 1) := by decide +kernel
theorem d_Mo_use_60 : decode b_Mo_use 60 = .ok (.iload 4, 2) := by decide +kernel
theorem d_Mo_use_62 : decode b_Mo_use 62 = .ok (.invokevirtual 82, 3) := by decide +kernel
theorem d_Mo_use_65 : decode b_Mo_use 65 = .ok (.aload_n 0, 1) := by decide +kernel
theorem d_Mo_use_66 : decode b_Mo_use 66 = .ok (.iload_n 1, 1) := by decide +kernel
theorem d_Mo_use_67 : decode b_Mo_use 67 = .ok (.invokevirtual 99, 3) := by decide +kernel
theorem d_Mo_use_70 : decode b_Mo_use 70 = .ok (.return_, 1) := by decide +kernel
theorem d_Mo_get_0 : decode b_Mo_get 0 = .ok (.aload_n 0, 1) := by decide +kernel
theorem d_Mo_get_1 : decode b_Mo_get 1 = .ok (.iconst 0, 1) := by decide +kernel
theorem d_Mo_get_2 : decode b_Mo_get 2 = .ok (.putfield 57, 3) := by decide +kernel
theorem d_Mo_get_5 : decode b_Mo_get 5 = .ok (.aload_n 0, 1) := by decide +kernel
theorem d_Mo_get_6 : decode b_Mo_get 6 = .ok (.iload_n 1, 1) := by decide +kernel
theorem d_Mo_get_7 : decode b_Mo_get 7 = .ok (.invokevirtual 112, 3) := by decide +kernel
theorem d_Mo_get_10 : decode b_Mo_get 10 = .ok (.ifCond .eq 12, 3) := by decide +kernel
theorem d_Mo_get_13 : decode b_Mo_get 13 = .ok (.aload_n 0, 1) := by decide +kernel
theorem d_Mo_get_14 : decode b_Mo_get 14 = .ok (.iload_n 1, 1) := by decide +kernel
theorem d_Mo_get_15 : decode b_Mo_get 15 = .ok (.iload_n 2, 1) := by decide +kernel
theorem d_Mo_get_16 : decode b_Mo_get 16 = .ok (.invokevirtual 115, 3) := by decide +kernel
theorem d_Mo_get_19 : decode b_Mo_get 19 = .ok (.ifCond .ne 9, 3) := by decide +kernel
theorem d_Mo_get_22 : decode b_Mo_get 22 = .ok (.aload_n 0, 1) := by decide +kernel
theorem d_Mo_get_23 : decode b_Mo_get 23 = .ok (.iconst 1, 1) := by decide +kernel
theorem d_Mo_get_24 : decode b_Mo_get 24 = .ok (.invokevirtual 60, 3) := by decide +kernel
theorem d_Mo_get_27 : decode b_Mo_get 27 = .ok (.ireturn, 1) := by decide +kernel
theorem d_Mo_get_28 : decode b_Mo_get 28 = .ok (.aload_n 0, 1) := by decide +kernel
theorem d_Mo_get_29 : decode b_Mo_get 29 = .ok (.dup, 1) := by decide +kernel
theorem d_Mo_get_30 : decode b_Mo_get 30 = .ok (.getfield 93, 3) := by decide +kernel
theorem d_Mo_get_33 : decode b_Mo_get 33 = .ok (.iload_n 1, 1) := by decide +kernel
theorem d_Mo_get_34 : decode b_Mo_get 34 = .ok (.iconst 1, 1) := by decide +kernel
theorem d_Mo_get_35 : decode b_Mo_get 35 = .ok (.if_icmp .ne 7, 3) := by decide +kernel
theorem d_Mo_get_38 : decode b_Mo_get 38 = .ok (.iconst 1, 1) := by decide +kernel
theorem d_Mo_get_39 : decode b_Mo_get 39 = .ok (.goto 4, 3) := by decide +kernel
theorem d_Mo_get_42 : decode b_Mo_get 42 = .ok (.iconst 0, 1) := by decide +kernel
theorem d_Mo_get_43 : decode b_Mo_get 43 = .ok (.iadd, 1) := by decide +kernel
theorem d_Mo_get_44 : decode b_Mo_get 44 = .ok (.putfield 93, 3) := by decide +kernel
theorem d_Mo_get_47 : decode b_Mo_get 47 = .ok (.aload_n 0, 1) := by decide +kernel
theorem d_Mo_get_48 : decode b_Mo_get 48 = .ok (.iload_n 1, 1) := by decide +kernel
theorem d_Mo_get_49 : decode b_Mo_get 49 = .ok (.iload_n 2, 1) := by decide +kernel
theorem d_Mo_get_50 : decode b_Mo_get 50 = .ok (.invokevirtual 119, 3) := by decide +kernel
theorem d_Mo_get_53 : decode b_Mo_get 53 = .ok (.istore_n 3, 1) := by decide +kernel
theorem d_Mo_get_54 : decode b_Mo_get 54 = .ok (.iload_n 3, 1) := by decide +kernel
theorem d_Mo_get_55 : decode b_Mo_get 55 = .ok (.ifCond .ge 5, 3) := by decide +kernel
theorem d_Mo_get_58 : decode b_Mo_get 58 = .ok (.iconst (-1), 1) := by decide +kernel
theorem d_Mo_get_59 : decode b_Mo_get 59 = .ok (.ireturn, 1) := by decide +kernel
theorem d_Mo_get_60 : decode b_Mo_get 60 = .ok (.aload_n 0, 1) := by decide +kernel
theorem d_Mo_get_61 : decode b_Mo_get 61 = .ok (.getfield 32, 3) := by decide +kernel
theorem d_Mo_get_64 : decode b_Mo_get 64 = .ok (.iload_n 3, 1) := by decide +kernel
theorem d_Mo_get_65 : decode b_Mo_get 65 = .ok (.iaload, 1) := by decide +kernel
theorem d_Mo_get_66 : decode b_Mo_get 66 = .ok (.istore 4, 2) := by decide +kernel
theorem d_Mo_get_68 : decode b_Mo_get 68 = .ok (.aload_n 0, 1) := by decide +kernel
theorem d_Mo_get_69 : decode b_Mo_get 69 = .ok (.iload_n 1, 1) := by decide +kernel
theorem d_Mo_get_70 : decode b_Mo_get 70 = .ok (.iload_n 3, 1) := by decide +kernel
theorem d_Mo_get_71 : decode b_Mo_get 71 = .ok (.invokevirtual 126, 3) := by decide +kernel
theorem d_Mo_get_74 : decode b_Mo_get 74 = .ok (.iload 4, 2) := by decide +kernel
theorem d_Mo_get_76 : decode b_Mo_get 76 = .ok (.ireturn, 1) := by decide +kernel
theorem d_Mo_remove_0 : decode b_Mo_remove 0 = .ok (.aload_n 0, 1) := by decide +kernel
theorem d_Mo_remove_1 : decode b_Mo_remove 1 = .ok (.iconst 0, 1) := by decide +kernel
theorem d_Mo_remove_2 : decode b_Mo_remove 2 = .ok (.putfield 57, 3) := by decide +kernel
theorem d_Mo_remove_5 : decode b_Mo_remove 5 = .ok (.aload_n 0, 1) := by decide +kernel
theorem d_Mo_remove_6 : decode b_Mo_remove 6 = .ok (.iload_n 1, 1) := by decide +kernel
theorem d_Mo_remove_7 : decode b_Mo_remove 7 = .ok (.invokevirtual 112, 3) := by decide +kernel
theorem d_Mo_remove_10 : decode b_Mo_remove 10 = .ok (.ifCond .eq 12, 3) := by decide +kernel
theorem d_Mo_remove_13 : decode b_Mo_remove 13 = .ok (.aload_n 0, 1) := by decide +kernel
theorem d_Mo_remove_14 : decode b_Mo_remove 14 = .ok (.iload_n 1, 1) := by decide +kernel
theorem d_Mo_remove_15 : decode b_Mo_remove 15 = .ok (.iload_n 2, 1) := by decide +kernel
theorem d_Mo_remove_16 : decode b_Mo_remove 16 = .ok (.invokevirtual 115, 3) := by decide +kernel
theorem d_Mo_remove_19 : decode b_Mo_remove 19 = .ok (.ifCond .ne 9, 3) := by decide +kernel
theorem d_Mo_remove_22 : decode b_Mo_remove 22 = .ok (.aload_n 0, 1) := by decide +kernel
theorem d_Mo_remove_23 : decode b_Mo_remove 23 = .ok (.iconst 1, 1) := by decide +kernel
theorem d_Mo_remove_24 : decode b_Mo_remove 24 = .ok (.invokevirtual 60, 3) := by decide +kernel
theorem d_Mo_remove_27 : decode b_Mo_remove 27 = .ok (.ireturn, 1) := by decide +kernel
theorem d_Mo_remove_28 : decode b_Mo_remove 28 = .ok (.aload_n 0, 1) := by decide +kernel
theorem d_Mo_remove_29 : decode b_Mo_remove 29 = .ok (.iload_n 1, 1) := by decide +kernel
theorem d_Mo_remove_30 : decode b_Mo_remove 30 = .ok (.iload_n 2, 1) := by decide +kernel
theorem d_Mo_remove_31 : decode b_Mo_remove 31 = .ok (.invokevirtual 119, 3) := by decide +kernel
theorem d_Mo_remove_34 : decode b_Mo_remove 34 = .ok (.istore_n 3, 1) := by decide +kernel
theorem d_Mo_remove_35 : decode b_Mo_remove 35 = .ok (.iload_n 3, 1) := by decide +kernel
theorem d_Mo_remove_36 : decode b_Mo_remove 36 = .ok (.ifCond .ge 5, 3) := by decide +kernel
theorem d_Mo_remove_39 : decode b_Mo_remove 39 = .ok (.iconst (-1), 1) := by decide +kernel
theorem d_Mo_remove_40 : decode b_Mo_remove 40 = .ok (.ireturn, 1) := by decide +kernel
theorem d_Mo_remove_41 : decode b_Mo_remove 41 = .ok (.aload_n 0, 1) := by decide +kernel
theorem d_Mo_remove_42 : decode b_Mo_remove 42 = .ok (.getfield 32, 3) := by decide +kernel
theorem d_Mo_remove_45 : decode b_Mo_remove 45 = .ok (.iload_n 3, 1) := by decide +kernel
theorem d_Mo_remove_46 : decode b_Mo_remove 46 = .ok (.iaload, 1) := by decide +kernel
theorem d_Mo_remove_47 : decode b_Mo_remove 47 = .ok (.istore 4, 2) := by decide +kernel
theorem d_Mo_remove_49 : decode b_Mo_remove 49 = .ok (.aload_n 0, 1) := by decide +kernel
theorem d_Mo_remove_50 : decode b_Mo_remove 50 = .ok (.iload_n 1, 1) := by decide +kernel
theorem d_Mo_remove_51 : decode b_Mo_remove 51 = .ok (.iload_n 3, 1) := by decide +kernel
theorem d_Mo_remove_52 : decode b_Mo_remove 52 = .ok (.invokevirtual 129, 3) := by decide +kernel
theorem d_Mo_remove_55 : decode b_Mo_remove 55 = .ok (.iload 4, 2) := by decide +kernel
theorem d_Mo_remove_57 : decode b_Mo_remove 57 = .ok (.ireturn, 1) := by decide +kernel
theorem d_Mo_goes_0 : decode b_Mo_goes 0 = .ok (.aload_n 0, 1) := by decide +kernel
theorem d_Mo_goes_1 : decode b_Mo_goes 1 = .ok (.iload_n 1, 1) := by decide +kernel
theorem d_Mo_goes_2 : decode b_Mo_goes 2 = .ok (.invokevirtual 99, 3) := by decide +kernel
theorem d_Mo_goes_5 : decode b_Mo_goes 5 = .ok (.iload_n 1, 1) := by decide +kernel
theorem d_Mo_goes_6 : decode b_Mo_goes 6 = .ok (.iconst 2, 1) := by decide +kernel
theorem d_Mo_goes_7 : decode b_Mo_goes 7 = .ok (.if_icmp .ne 11, 3) := by decide +kernel
theorem d_Mo_goes_10 : decode b_Mo_goes 10 = .ok (.aload_n 0, 1) := by decide +kernel
theorem d_Mo_goes_11 : decode b_Mo_goes 11 = .ok (.iload_n 2, 1) := by decide +kernel
theorem d_Mo_goes_12 : decode b_Mo_goes 12 = .ok (.invokevirtual 109, 3) := by decide +kernel
theorem d_Mo_goes_15 : decode b_Mo_goes 15 = .ok (.goto 34, 3) := by decide +kernel
theorem d_Mo_goes_18 : decode b_Mo_goes 18 = .ok (.iload_n 1, 1) := by decide +kernel
theorem d_Mo_goes_19 : decode b_Mo_goes 19 = .ok (.iconst 3, 1) := by decide +kernel
theorem d_Mo_goes_20 : decode b_Mo_goes 20 = .ok (.if_icmp .ne 23, 3) := by decide +kernel
theorem d_Mo_goes_23 : decode b_Mo_goes 23 = .ok (.aload_n 0, 1) := by decide +kernel
theorem d_Mo_goes_24 : decode b_Mo_goes 24 = .ok (.getfield 29, 3) := by decide +kernel
theorem d_Mo_goes_27 : decode b_Mo_goes 27 = .ok (.iload_n 2, 1) := by decide +kernel
theorem d_Mo_goes_28 : decode b_Mo_goes 28 = .ok (.iconst (-1), 1) := by decide +kernel
theorem d_Mo_goes_29 : decode b_Mo_goes 29 = .ok (.iastore, 1) := by decide +kernel
theorem d_Mo_goes_30 : decode b_Mo_goes 30 = .ok (.aload_n 0, 1) := by decide +kernel
theorem d_Mo_goes_31 : decode b_Mo_goes 31 = .ok (.getfield 38, 3) := by decide +kernel
theorem d_Mo_goes_34 : decode b_Mo_goes 34 = .ok (.iconst 3, 1) := by decide +kernel
theorem d_Mo_goes_35 : decode b_Mo_goes 35 = .ok (.dup2, 1) := by decide +kernel
theorem d_Mo_goes_36 : decode b_Mo_goes 36 = .ok (.iaload, 1) := by decide +kernel
theorem d_Mo_goes_37 : decode b_Mo_goes 37 = .ok (.iconst 1, 1) := by decide +kernel
theorem d_Mo_goes_38 : decode b_Mo_goes 38 = .ok (.isub, 1) := by decide +kernel
theorem d_Mo_goes_39 : decode b_Mo_goes 39 = .ok (.iastore, 1) := by decide +kernel
theorem d_Mo_goes_40 : decode b_Mo_goes 40 = .ok (.goto 9, 3) := by decide +kernel
theorem d_Mo_goes_43 : decode b_Mo_goes 43 = .ok (.aload_n 0, 1) := by decide +kernel
theorem d_Mo_goes_44 : decode b_Mo_goes 44 = .ok (.iload_n 1, 1) := by decide +kernel
theorem d_Mo_goes_45 : decode b_Mo_goes 45 = .ok (.iload_n 2, 1) := by decide +kernel
theorem d_Mo_goes_46 : decode b_Mo_goes 46 = .ok (.invokevirtual 96, 3) := by decide +kernel
theorem d_Mo_goes_49 : decode b_Mo_goes 49 = .ok (.return_, 1) := by decide +kernel
theorem d_Mo_takeIdentity_0 : decode b_Mo_takeIdentity 0 = .ok (.iload_n 1, 1) := by decide +kernel
theorem d_Mo_takeIdentity_1 : decode b_Mo_takeIdentity 1 = .ok (.bipush 64, 2) := by decide +kernel
theorem d_Mo_takeIdentity_3 : decode b_Mo_takeIdentity 3 = .ok (.isub, 1) := by decide +kernel
theorem d_Mo_takeIdentity_4 : decode b_Mo_takeIdentity 4 = .ok (.istore_n 2, 1) := by decide +kernel
theorem d_Mo_takeIdentity_5 : decode b_Mo_takeIdentity 5 = .ok (.aload_n 0, 1) := by decide +kernel
theorem d_Mo_takeIdentity_6 : decode b_Mo_takeIdentity 6 = .ok (.getfield 29, 3) := by decide +kernel
theorem d_Mo_takeIdentity_9 : decode b_Mo_takeIdentity 9 = .ok (.iload_n 1, 1) := by decide +kernel
theorem d_Mo_takeIdentity_10 : decode b_Mo_takeIdentity 10 = .ok (.iconst (-1), 1) := by decide +kernel
theorem d_Mo_takeIdentity_11 : decode b_Mo_takeIdentity 11 = .ok (.iastore, 1) := by decide +kernel
theorem d_Mo_takeIdentity_12 : decode b_Mo_takeIdentity 12 = .ok (.aload_n 0, 1) := by decide +kernel
theorem d_Mo_takeIdentity_13 : decode b_Mo_takeIdentity 13 = .ok (.getfield 38, 3) := by decide +kernel
theorem d_Mo_takeIdentity_16 : decode b_Mo_takeIdentity 16 = .ok (.iconst 2, 1) := by decide +kernel
theorem d_Mo_takeIdentity_17 : decode b_Mo_takeIdentity 17 = .ok (.dup2, 1) := by decide +kernel
theorem d_Mo_takeIdentity_18 : decode b_Mo_takeIdentity 18 = .ok (.iaload, 1) := by decide +kernel
theorem d_Mo_takeIdentity_19 : decode b_Mo_takeIdentity 19 = .ok (.iconst 1, 1) := by decide +kernel
theorem d_Mo_takeIdentity_20 : decode b_Mo_takeIdentity 20 = .ok (.isub, 1) := by decide +kernel
theorem d_Mo_takeIdentity_21 : decode b_Mo_takeIdentity 21 = .ok (.iastore, 1) := by decide +kernel
theorem d_Mo_takeIdentity_22 : decode b_Mo_takeIdentity 22 = .ok (.iload_n 2, 1) := by decide +kernel
theorem d_Mo_takeIdentity_23 : decode b_Mo_takeIdentity 23 = .ok (.iconst 1, 1) := by decide +kernel
theorem d_Mo_takeIdentity_24 : decode b_Mo_takeIdentity 24 = .ok (.iadd, 1) := by decide +kernel
theorem d_Mo_takeIdentity_25 : decode b_Mo_takeIdentity 25 = .ok (.bipush 16, 2) := by decide +kernel
theorem d_Mo_takeIdentity_27 : decode b_Mo_takeIdentity 27 = .ok (.irem, 1) := by decide +kernel
theorem d_Mo_takeIdentity_28 : decode b_Mo_takeIdentity 28 = .ok (.istore_n 3, 1) := by decide +kernel
theorem d_Mo_takeIdentity_29 : decode b_Mo_takeIdentity 29 = .ok (.aload_n 0, 1) := by decide +kernel
theorem d_Mo_takeIdentity_30 : decode b_Mo_takeIdentity 30 = .ok (.getfield 29, 3) := by decide +kernel
theorem d_Mo_takeIdentity_33 : decode b_Mo_takeIdentity 33 = .ok (.bipush 64, 2) := by decide +kernel
theorem d_Mo_takeIdentity_35 : decode b_Mo_takeIdentity 35 = .ok (.iload_n 3, 1) := by decide +kernel
theorem d_Mo_takeIdentity_36 : decode b_Mo_takeIdentity 36 = .ok (.iadd, 1) := by decide +kernel
theorem d_Mo_takeIdentity_37 : decode b_Mo_takeIdentity 37 = .ok (.iaload, 1) := by decide +kernel
theorem d_Mo_takeIdentity_38 : decode b_Mo_takeIdentity 38 = .ok (.ifCond .lt 100, 3) := by decide +kernel
theorem d_Mo_takeIdentity_41 : decode b_Mo_takeIdentity 41 = .ok (.aload_n 0, 1) := by decide +kernel
theorem d_Mo_takeIdentity_42 : decode b_Mo_takeIdentity 42 = .ok (.getfield 29, 3) := by decide +kernel
theorem d_Mo_takeIdentity_45 : decode b_Mo_takeIdentity 45 = .ok (.bipush 64, 2) := by decide +kernel
theorem d_Mo_takeIdentity_47 : decode b_Mo_takeIdentity 47 = .ok (.iload_n 3, 1) := by decide +kernel
theorem d_Mo_takeIdentity_48 : decode b_Mo_takeIdentity 48 = .ok (.iadd, 1) := by decide +kernel
theorem d_Mo_takeIdentity_49 : decode b_Mo_takeIdentity 49 = .ok (.iaload, 1) := by decide +kernel
theorem d_Mo_takeIdentity_50 : decode b_Mo_takeIdentity 50 = .ok (.invokestatic 90, 3) := by decide +kernel
theorem d_Mo_takeIdentity_53 : decode b_Mo_takeIdentity 53 = .ok (.istore 4, 2) := by decide +kernel
theorem d_Mo_takeIdentity_55 : decode b_Mo_takeIdentity 55 = .ok (.iload 4, 2) := by decide +kernel
theorem d_Mo_takeIdentity_57 : decode b_Mo_takeIdentity 57 = .ok (.iload_n 2, 1) := by decide +kernel
theorem d_Mo_takeIdentity_58 : decode b_Mo_takeIdentity 58 = .ok (.isub, 1) := by decide +kernel
theorem d_Mo_takeIdentity_59 : decode b_Mo_takeIdentity 59 = .ok (.bipush 16, 2) := by decide +kernel
theorem d_Mo_takeIdentity_61 : decode b_Mo_takeIdentity 61 = .ok (.iadd, 1) := by decide +kernel
theorem d_Mo_takeIdentity_62 : decode b_Mo_takeIdentity 62 = .ok (.bipush 16, 2) := by decide +kernel
theorem d_Mo_takeIdentity_64 : decode b_Mo_takeIdentity 64 = .ok (.irem, 1) := by decide +kernel
theorem d_Mo_takeIdentity_65 : decode b_Mo_takeIdentity 65 = .ok (.istore 5, 2) := by decide +kernel
theorem d_Mo_takeIdentity_67 : decode b_Mo_takeIdentity 67 = .ok (.iload_n 3, 1) := by decide +kernel
theorem d_Mo_takeIdentity_68 : decode b_Mo_takeIdentity 68 = .ok (.iload_n 2, 1) := by decide +kernel
theorem d_Mo_takeIdentity_69 : decode b_Mo_takeIdentity 69 = .ok (.isub, 1) := by decide +kernel
theorem d_Mo_takeIdentity_70 : decode b_Mo_takeIdentity 70 = .ok (.bipush 16, 2) := by decide +kernel
theorem d_Mo_takeIdentity_72 : decode b_Mo_takeIdentity 72 = .ok (.iadd, 1) := by decide +kernel
theorem d_Mo_takeIdentity_73 : decode b_Mo_takeIdentity 73 = .ok (.bipush 16, 2) := by decide +kernel
theorem d_Mo_takeIdentity_75 : decode b_Mo_takeIdentity 75 = .ok (.irem, 1) := by decide +kernel
theorem d_Mo_takeIdentity_76 : decode b_Mo_takeIdentity 76 = .ok (.istore 6, 2) := by decide +kernel
theorem d_Mo_takeIdentity_78 : decode b_Mo_takeIdentity 78 = .ok (.iload 5, 2) := by decide +kernel
theorem d_Mo_takeIdentity_80 : decode b_Mo_takeIdentity 80 = .ok (.ifCond .eq 10, 3) := by decide +kernel
theorem d_Mo_takeIdentity_83 : decode b_Mo_takeIdentity 83 = .ok (.iload 5, 2) := by decide +kernel
theorem d_Mo_takeIdentity_85 : decode b_Mo_takeIdentity 85 = .ok (.iload 6, 2) := by decide +kernel
theorem d_Mo_takeIdentity_87 : decode b_Mo_takeIdentity 87 = .ok (.if_icmp .le 41, 3) := by decide +kernel
theorem d_Mo_takeIdentity_90 : decode b_Mo_takeIdentity 90 = .ok (.aload_n 0, 1) := by decide +kernel
theorem d_Mo_takeIdentity_91 : decode b_Mo_takeIdentity 91 = .ok (.bipush 64, 2) := by decide +kernel
theorem d_Mo_takeIdentity_93 : decode b_Mo_takeIdentity 93 = .ok (.iload_n 2, 1) := by decide +kernel
theorem d_Mo_takeIdentity_94 : decode b_Mo_takeIdentity 94 = .ok (.iadd, 1) := by decide +kernel
theorem d_Mo_takeIdentity_95 : decode b_Mo_takeIdentity 95 = .ok (.aload_n 0, 1) := by decide +kernel
theorem d_Mo_takeIdentity_96 : decode b_Mo_takeIdentity 96 = .ok (.getfield 29, 3) := by decide +kernel
theorem d_Mo_takeIdentity_99 : decode b_Mo_takeIdentity 99 = .ok (.bipush 64, 2) := by decide +kernel
theorem d_Mo_takeIdentity_101 : decode b_Mo_takeIdentity 101 = .ok (.iload_n 3, 1) := by decide +kernel
theorem d_Mo_takeIdentity_102 : decode b_Mo_takeIdentity 102 = .ok (.iadd, 1) := by decide +kernel
theorem d_Mo_takeIdentity_103 : decode b_Mo_takeIdentity 103 = .ok (.iaload, 1) := by decide +kernel
theorem d_Mo_takeIdentity_104 : decode b_Mo_takeIdentity 104 = .ok (.aload_n 0, 1) := by decide +kernel
theorem d_Mo_takeIdentity_105 : decode b_Mo_takeIdentity 105 = .ok (.getfield 32, 3) := by decide +kernel
theorem d_Mo_takeIdentity_108 : decode b_Mo_takeIdentity 108 = .ok (.bipush 64, 2) := by decide +kernel
theorem d_Mo_takeIdentity_110 : decode b_Mo_takeIdentity 110 = .ok (.iload_n 3, 1) := by decide +kernel
theorem d_Mo_takeIdentity_111 : decode b_Mo_takeIdentity 111 = .ok (.iadd, 1) := by decide +kernel
theorem d_Mo_takeIdentity_112 : decode b_Mo_takeIdentity 112 = .ok (.iaload, 1) := by decide +kernel
theorem d_Mo_takeIdentity_113 : decode b_Mo_takeIdentity 113 = .ok (.invokevirtual 75, 3) := by decide +kernel
theorem d_Mo_takeIdentity_116 : decode b_Mo_takeIdentity 116 = .ok (.aload_n 0, 1) := by decide +kernel
theorem d_Mo_takeIdentity_117 : decode b_Mo_takeIdentity 117 = .ok (.getfield 29, 3) := by decide +kernel
theorem d_Mo_takeIdentity_120 : decode b_Mo_takeIdentity 120 = .ok (.bipush 64, 2) := by decide +kernel
theorem d_Mo_takeIdentity_122 : decode b_Mo_takeIdentity 122 = .ok (.iload_n 3, 1) := by decide +kernel
theorem d_Mo_takeIdentity_123 : decode b_Mo_takeIdentity 123 = .ok (.iadd, 1) := by decide +kernel
theorem d_Mo_takeIdentity_124 : decode b_Mo_takeIdentity 124 = .ok (.iconst (-1), 1) := by decide +kernel
theorem d_Mo_takeIdentity_125 : decode b_Mo_takeIdentity 125 = .ok (.iastore, 1) := by decide +kernel
theorem d_Mo_takeIdentity_126 : decode b_Mo_takeIdentity 126 = .ok (.iload_n 3, 1) := by decide +kernel
theorem d_Mo_takeIdentity_127 : decode b_Mo_takeIdentity 127 = .ok (.istore_n 2, 1) := by decide +kernel
theorem d_Mo_takeIdentity_128 : decode b_Mo_takeIdentity 128 = .ok (.iload_n 3, 1) := by decide +kernel
theorem d_Mo_takeIdentity_129 : decode b_Mo_takeIdentity 129 = .ok (.iconst 1, 1) := by decide +kernel
theorem d_Mo_takeIdentity_130 : decode b_Mo_takeIdentity 130 = .ok (.iadd, 1) := by decide +kernel
theorem d_Mo_takeIdentity_131 : decode b_Mo_takeIdentity 131 = .ok (.bipush 16, 2) := by decide +kernel
theorem d_Mo_takeIdentity_133 : decode b_Mo_takeIdentity 133 = .ok (.irem, 1) := by decide +kernel
theorem d_Mo_takeIdentity_134 : decode b_Mo_takeIdentity 134 = .ok (.istore_n 3, 1) := by decide +kernel
theorem d_Mo_takeIdentity_135 : decode b_Mo_takeIdentity 135 = .ok (.goto (-106), 3) := by decide +kernel
theorem d_Mo_takeIdentity_138 : decode b_Mo_takeIdentity 138 = .ok (.return_, 1) := by decide +kernel
theorem d_Mo_size_0 : decode b_Mo_size 0 = .ok (.aload_n 0, 1) := by decide +kernel
theorem d_Mo_size_1 : decode b_Mo_size 1 = .ok (.iconst 0, 1) := by decide +kernel
theorem d_Mo_size_2 : decode b_Mo_size 2 = .ok (.putfield 57, 3) := by decide +kernel
theorem d_Mo_size_5 : decode b_Mo_size 5 = .ok (.aload_n 0, 1) := by decide +kernel
theorem d_Mo_size_6 : decode b_Mo_size 6 = .ok (.iload_n 1, 1) := by decide +kernel
theorem d_Mo_size_7 : decode b_Mo_size 7 = .ok (.invokevirtual 112, 3) := by decide +kernel
theorem d_Mo_size_10 : decode b_Mo_size 10 = .ok (.ifCond .eq 12, 3) := by decide +kernel
theorem d_Mo_size_13 : decode b_Mo_size 13 = .ok (.aload_n 0, 1) := by decide +kernel
theorem d_Mo_size_14 : decode b_Mo_size 14 = .ok (.getfield 38, 3) := by decide +kernel
theorem d_Mo_size_17 : decode b_Mo_size 17 = .ok (.iload_n 1, 1) := by decide +kernel
theorem d_Mo_size_18 : decode b_Mo_size 18 = .ok (.iaload, 1) := by decide +kernel
theorem d_Mo_size_19 : decode b_Mo_size 19 = .ok (.goto 4, 3) := by decide +kernel
theorem d_Mo_size_22 : decode b_Mo_size 22 = .ok (.iconst (-1), 1) := by decide +kernel
theorem d_Mo_size_23 : decode b_Mo_size 23 = .ok (.ireturn, 1) := by decide +kernel
theorem d_Mo_entry_0 : decode b_Mo_entry 0 = .ok (.aload_n 0, 1) := by decide +kernel
theorem d_Mo_entry_1 : decode b_Mo_entry 1 = .ok (.iconst 0, 1) := by decide +kernel
theorem d_Mo_entry_2 : decode b_Mo_entry 2 = .ok (.putfield 57, 3) := by decide +kernel
theorem d_Mo_entry_5 : decode b_Mo_entry 5 = .ok (.aload_n 0, 1) := by decide +kernel
theorem d_Mo_entry_6 : decode b_Mo_entry 6 = .ok (.iload_n 1, 1) := by decide +kernel
theorem d_Mo_entry_7 : decode b_Mo_entry 7 = .ok (.invokevirtual 112, 3) := by decide +kernel
theorem d_Mo_entry_10 : decode b_Mo_entry 10 = .ok (.ifCond .eq 26, 3) := by decide +kernel
theorem d_Mo_entry_13 : decode b_Mo_entry 13 = .ok (.iload_n 2, 1) := by decide +kernel
theorem d_Mo_entry_14 : decode b_Mo_entry 14 = .ok (.ifCond .lt 22, 3) := by decide +kernel
theorem d_Mo_entry_17 : decode b_Mo_entry 17 = .ok (.iload_n 2, 1) := by decide +kernel
theorem d_Mo_entry_18 : decode b_Mo_entry 18 = .ok (.aload_n 0, 1) := by decide +kernel
theorem d_Mo_entry_19 : decode b_Mo_entry 19 = .ok (.getfield 38, 3) := by decide +kernel
theorem d_Mo_entry_22 : decode b_Mo_entry 22 = .ok (.iload_n 1, 1) := by decide +kernel
theorem d_Mo_entry_23 : decode b_Mo_entry 23 = .ok (.iaload, 1) := by decide +kernel
theorem d_Mo_entry_24 : decode b_Mo_entry 24 = .ok (.if_icmp .ge 12, 3) := by decide +kernel
theorem d_Mo_entry_27 : decode b_Mo_entry 27 = .ok (.iload_n 3, 1) := by decide +kernel
theorem d_Mo_entry_28 : decode b_Mo_entry 28 = .ok (.ifCond .lt 8, 3) := by decide +kernel
theorem d_Mo_entry_31 : decode b_Mo_entry 31 = .ok (.iload_n 3, 1) := by decide +kernel
theorem d_Mo_entry_32 : decode b_Mo_entry 32 = .ok (.iconst 1, 1) := by decide +kernel
theorem d_Mo_entry_33 : decode b_Mo_entry 33 = .ok (.if_icmp .le 9, 3) := by decide +kernel
theorem d_Mo_entry_36 : decode b_Mo_entry 36 = .ok (.aload_n 0, 1) := by decide +kernel
theorem d_Mo_entry_37 : decode b_Mo_entry 37 = .ok (.iconst 1, 1) := by decide +kernel
theorem d_Mo_entry_38 : decode b_Mo_entry 38 = .ok (.invokevirtual 60, 3) := by decide +kernel
theorem d_Mo_entry_41 : decode b_Mo_entry 41 = .ok (.ireturn, 1) := by decide +kernel
theorem d_Mo_entry_42 : decode b_Mo_entry 42 = .ok (.aload_n 0, 1) := by decide +kernel
theorem d_Mo_entry_43 : decode b_Mo_entry 43 = .ok (.iload_n 1, 1) := by decide +kernel
theorem d_Mo_entry_44 : decode b_Mo_entry 44 = .ok (.iload_n 2, 1) := by decide +kernel
theorem d_Mo_entry_45 : decode b_Mo_entry 45 = .ok (.invokevirtual 132, 3) := by decide +kernel
theorem d_Mo_entry_48 : decode b_Mo_entry 48 = .ok (.istore 4, 2) := by decide +kernel
theorem d_Mo_entry_50 : decode b_Mo_entry 50 = .ok (.iload_n 3, 1) := by decide +kernel
theorem d_Mo_entry_51 : decode b_Mo_entry 51 = .ok (.ifCond .ne 13, 3) := by decide +kernel
theorem d_Mo_entry_54 : decode b_Mo_entry 54 = .ok (.aload_n 0, 1) := by decide +kernel
theorem d_Mo_entry_55 : decode b_Mo_entry 55 = .ok (.getfield 29, 3) := by decide +kernel
theorem d_Mo_entry_58 : decode b_Mo_entry 58 = .ok (.iload 4, 2) := by decide +kernel
theorem d_Mo_entry_60 : decode b_Mo_entry 60 = .ok (.iaload, 1) := by decide +kernel
theorem d_Mo_entry_61 : decode b_Mo_entry 61 = .ok (.goto 10, 3) := by decide +kernel
theorem d_Mo_entry_64 : decode b_Mo_entry 64 = .ok (.aload_n 0, 1) := by decide +kernel
theorem d_Mo_entry_65 : decode b_Mo_entry 65 = .ok (.getfield 32, 3) := by decide +kernel
theorem d_Mo_entry_68 : decode b_Mo_entry 68 = .ok (.iload 4, 2) := by decide +kernel
theorem d_Mo_entry_70 : decode b_Mo_entry 70 = .ok (.iaload, 1) := by decide +kernel
theorem d_Mo_entry_71 : decode b_Mo_entry 71 = .ok (.ireturn, 1) := by decide +kernel
theorem d_Mo_placeOf_0 : decode b_Mo_placeOf 0 = .ok (.iconst (-1), 1) := by decide +kernel
theorem d_Mo_placeOf_1 : decode b_Mo_placeOf 1 = .ok (.istore_n 3, 1) := by decide +kernel
theorem d_Mo_placeOf_2 : decode b_Mo_placeOf 2 = .ok (.bipush 32, 2) := by decide +kernel
theorem d_Mo_placeOf_4 : decode b_Mo_placeOf 4 = .ok (.iload_n 1, 1) := by decide +kernel
theorem d_Mo_placeOf_5 : decode b_Mo_placeOf 5 = .ok (.imul, 1) := by decide +kernel
theorem d_Mo_placeOf_6 : decode b_Mo_placeOf 6 = .ok (.iconst 1, 1) := by decide +kernel
theorem d_Mo_placeOf_7 : decode b_Mo_placeOf 7 = .ok (.isub, 1) := by decide +kernel
theorem d_Mo_placeOf_8 : decode b_Mo_placeOf 8 = .ok (.istore 4, 2) := by decide +kernel
theorem d_Mo_placeOf_10 : decode b_Mo_placeOf 10 = .ok (.iload_n 3, 1) := by decide +kernel
theorem d_Mo_placeOf_11 : decode b_Mo_placeOf 11 = .ok (.iload_n 2, 1) := by decide +kernel
theorem d_Mo_placeOf_12 : decode b_Mo_placeOf 12 = .ok (.if_icmp .ge 27, 3) := by decide +kernel
theorem d_Mo_placeOf_15 : decode b_Mo_placeOf 15 = .ok (.iinc 4 1, 3) := by decide +kernel
theorem d_Mo_placeOf_18 : decode b_Mo_placeOf 18 = .ok (.iload_n 3, 1) := by decide +kernel
theorem d_Mo_placeOf_19 : decode b_Mo_placeOf 19 = .ok (.aload_n 0, 1) := by decide +kernel
theorem d_Mo_placeOf_20 : decode b_Mo_placeOf 20 = .ok (.getfield 29, 3) := by decide +kernel
theorem d_Mo_placeOf_23 : decode b_Mo_placeOf 23 = .ok (.iload 4, 2) := by decide +kernel
theorem d_Mo_placeOf_25 : decode b_Mo_placeOf 25 = .ok (.iaload, 1) := by decide +kernel
theorem d_Mo_placeOf_26 : decode b_Mo_placeOf 26 = .ok (.ifCond .lt 7, 3) := by decide +kernel
theorem d_Mo_placeOf_29 : decode b_Mo_placeOf 29 = .ok (.iconst 1, 1) := by decide +kernel
theorem d_Mo_placeOf_30 : decode b_Mo_placeOf 30 = .ok (.goto 4, 3) := by decide +kernel
theorem d_Mo_placeOf_33 : decode b_Mo_placeOf 33 = .ok (.iconst 0, 1) := by decide +kernel
theorem d_Mo_placeOf_34 : decode b_Mo_placeOf 34 = .ok (.iadd, 1) := by decide +kernel
theorem d_Mo_placeOf_35 : decode b_Mo_placeOf 35 = .ok (.istore_n 3, 1) := by decide +kernel
theorem d_Mo_placeOf_36 : decode b_Mo_placeOf 36 = .ok (.goto (-26), 3) := by decide +kernel
theorem d_Mo_placeOf_39 : decode b_Mo_placeOf 39 = .ok (.iload 4, 2) := by decide +kernel
theorem d_Mo_placeOf_41 : decode b_Mo_placeOf 41 = .ok (.ireturn, 1) := by decide +kernel
theorem d_Mo_walk_0 : decode b_Mo_walk 0 = .ok (.aload_n 0, 1) := by decide +kernel
theorem d_Mo_walk_1 : decode b_Mo_walk 1 = .ok (.aload_n 0, 1) := by decide +kernel
theorem d_Mo_walk_2 : decode b_Mo_walk 2 = .ok (.iload_n 1, 1) := by decide +kernel
theorem d_Mo_walk_3 : decode b_Mo_walk 3 = .ok (.invokevirtual 112, 3) := by decide +kernel
theorem d_Mo_walk_6 : decode b_Mo_walk 6 = .ok (.ifCond .eq 7, 3) := by decide +kernel
theorem d_Mo_walk_9 : decode b_Mo_walk 9 = .ok (.iconst 0, 1) := by decide +kernel
theorem d_Mo_walk_10 : decode b_Mo_walk 10 = .ok (.goto 4, 3) := by decide +kernel
theorem d_Mo_walk_13 : decode b_Mo_walk 13 = .ok (.iconst 1, 1) := by decide +kernel
theorem d_Mo_walk_14 : decode b_Mo_walk 14 = .ok (.putfield 57, 3) := by decide +kernel
theorem d_Mo_walk_17 : decode b_Mo_walk 17 = .ok (.aload_n 0, 1) := by decide +kernel
theorem d_Mo_walk_18 : decode b_Mo_walk 18 = .ok (.getfield 57, 3) := by decide +kernel
theorem d_Mo_walk_21 : decode b_Mo_walk 21 = .ok (.ifCond .eq 4, 3) := by decide +kernel
theorem d_Mo_walk_24 : decode b_Mo_walk 24 = .ok (.return_, 1) := by decide +kernel
theorem d_Mo_walk_25 : decode b_Mo_walk 25 = .ok (.aload_n 0, 1) := by decide +kernel
theorem d_Mo_walk_26 : decode b_Mo_walk 26 = .ok (.getfield 48, 3) := by decide +kernel
theorem d_Mo_walk_29 : decode b_Mo_walk 29 = .ok (.iload_n 1, 1) := by decide +kernel
theorem d_Mo_walk_30 : decode b_Mo_walk 30 = .ok (.iconst 1, 1) := by decide +kernel
theorem d_Mo_walk_31 : decode b_Mo_walk 31 = .ok (.bastore, 1) := by decide +kernel
theorem d_Mo_walk_32 : decode b_Mo_walk 32 = .ok (.aload_n 0, 1) := by decide +kernel
theorem d_Mo_walk_33 : decode b_Mo_walk 33 = .ok (.getfield 51, 3) := by decide +kernel
theorem d_Mo_walk_36 : decode b_Mo_walk 36 = .ok (.iload_n 1, 1) := by decide +kernel
theorem d_Mo_walk_37 : decode b_Mo_walk 37 = .ok (.iconst 0, 1) := by decide +kernel
theorem d_Mo_walk_38 : decode b_Mo_walk 38 = .ok (.bastore, 1) := by decide +kernel
theorem d_Mo_walk_39 : decode b_Mo_walk 39 = .ok (.aload_n 0, 1) := by decide +kernel
theorem d_Mo_walk_40 : decode b_Mo_walk 40 = .ok (.getfield 54, 3) := by decide +kernel
theorem d_Mo_walk_43 : decode b_Mo_walk 43 = .ok (.iload_n 1, 1) := by decide +kernel
theorem d_Mo_walk_44 : decode b_Mo_walk 44 = .ok (.iconst 0, 1) := by decide +kernel
theorem d_Mo_walk_45 : decode b_Mo_walk 45 = .ok (.iastore, 1) := by decide +kernel
theorem d_Mo_walk_46 : decode b_Mo_walk 46 = .ok (.return_, 1) := by decide +kernel
theorem d_Mo_step_0 : decode b_Mo_step 0 = .ok (.aload_n 0, 1) := by decide +kernel
theorem d_Mo_step_1 : decode b_Mo_step 1 = .ok (.iconst 0, 1) := by decide +kernel
theorem d_Mo_step_2 : decode b_Mo_step 2 = .ok (.putfield 57, 3) := by decide +kernel
theorem d_Mo_step_5 : decode b_Mo_step 5 = .ok (.aload_n 0, 1) := by decide +kernel
theorem d_Mo_step_6 : decode b_Mo_step 6 = .ok (.iload_n 1, 1) := by decide +kernel
theorem d_Mo_step_7 : decode b_Mo_step 7 = .ok (.invokevirtual 112, 3) := by decide +kernel
theorem d_Mo_step_10 : decode b_Mo_step 10 = .ok (.ifCond .eq 12, 3) := by decide +kernel
theorem d_Mo_step_13 : decode b_Mo_step 13 = .ok (.aload_n 0, 1) := by decide +kernel
theorem d_Mo_step_14 : decode b_Mo_step 14 = .ok (.getfield 48, 3) := by decide +kernel
theorem d_Mo_step_17 : decode b_Mo_step 17 = .ok (.iload_n 1, 1) := by decide +kernel
theorem d_Mo_step_18 : decode b_Mo_step 18 = .ok (.baload, 1) := by decide +kernel
theorem d_Mo_step_19 : decode b_Mo_step 19 = .ok (.ifCond .ne 9, 3) := by decide +kernel
theorem d_Mo_step_22 : decode b_Mo_step 22 = .ok (.aload_n 0, 1) := by decide +kernel
theorem d_Mo_step_23 : decode b_Mo_step 23 = .ok (.iconst 1, 1) := by decide +kernel
theorem d_Mo_step_24 : decode b_Mo_step 24 = .ok (.invokevirtual 60, 3) := by decide +kernel
theorem d_Mo_step_27 : decode b_Mo_step 27 = .ok (.ireturn, 1) := by decide +kernel
theorem d_Mo_step_28 : decode b_Mo_step 28 = .ok (.aload_n 0, 1) := by decide +kernel
theorem d_Mo_step_29 : decode b_Mo_step 29 = .ok (.getfield 51, 3) := by decide +kernel
theorem d_Mo_step_32 : decode b_Mo_step 32 = .ok (.iload_n 1, 1) := by decide +kernel
theorem d_Mo_step_33 : decode b_Mo_step 33 = .ok (.baload, 1) := by decide +kernel
theorem d_Mo_step_34 : decode b_Mo_step 34 = .ok (.ifCond .eq 9, 3) := by decide +kernel
theorem d_Mo_step_37 : decode b_Mo_step 37 = .ok (.aload_n 0, 1) := by decide +kernel
theorem d_Mo_step_38 : decode b_Mo_step 38 = .ok (.iconst 2, 1) := by decide +kernel
theorem d_Mo_step_39 : decode b_Mo_step 39 = .ok (.invokevirtual 60, 3) := by decide +kernel
theorem d_Mo_step_42 : decode b_Mo_step 42 = .ok (.ireturn, 1) := by decide +kernel
theorem d_Mo_step_43 : decode b_Mo_step 43 = .ok (.aload_n 0, 1) := by decide +kernel
theorem d_Mo_step_44 : decode b_Mo_step 44 = .ok (.getfield 54, 3) := by decide +kernel
theorem d_Mo_step_47 : decode b_Mo_step 47 = .ok (.iload_n 1, 1) := by decide +kernel
theorem d_Mo_step_48 : decode b_Mo_step 48 = .ok (.iaload, 1) := by decide +kernel
theorem d_Mo_step_49 : decode b_Mo_step 49 = .ok (.aload_n 0, 1) := by decide +kernel
theorem d_Mo_step_50 : decode b_Mo_step 50 = .ok (.getfield 38, 3) := by decide +kernel
theorem d_Mo_step_53 : decode b_Mo_step 53 = .ok (.iload_n 1, 1) := by decide +kernel
theorem d_Mo_step_54 : decode b_Mo_step 54 = .ok (.iaload, 1) := by decide +kernel
theorem d_Mo_step_55 : decode b_Mo_step 55 = .ok (.if_icmp .lt 9, 3) := by decide +kernel
theorem d_Mo_step_58 : decode b_Mo_step 58 = .ok (.aload_n 0, 1) := by decide +kernel
theorem d_Mo_step_59 : decode b_Mo_step 59 = .ok (.iconst 3, 1) := by decide +kernel
theorem d_Mo_step_60 : decode b_Mo_step 60 = .ok (.invokevirtual 60, 3) := by decide +kernel
theorem d_Mo_step_63 : decode b_Mo_step 63 = .ok (.ireturn, 1) := by decide +kernel
theorem d_Mo_step_64 : decode b_Mo_step 64 = .ok (.aload_n 0, 1) := by decide +kernel
theorem d_Mo_step_65 : decode b_Mo_step 65 = .ok (.getfield 54, 3) := by decide +kernel
theorem d_Mo_step_68 : decode b_Mo_step 68 = .ok (.iload_n 1, 1) := by decide +kernel
theorem d_Mo_step_69 : decode b_Mo_step 69 = .ok (.dup2, 1) := by decide +kernel
theorem d_Mo_step_70 : decode b_Mo_step 70 = .ok (.iaload, 1) := by decide +kernel
theorem d_Mo_step_71 : decode b_Mo_step 71 = .ok (.iconst 1, 1) := by decide +kernel
theorem d_Mo_step_72 : decode b_Mo_step 72 = .ok (.iadd, 1) := by decide +kernel
theorem d_Mo_step_73 : decode b_Mo_step 73 = .ok (.iastore, 1) := by decide +kernel
theorem d_Mo_step_74 : decode b_Mo_step 74 = .ok (.aload_n 0, 1) := by decide +kernel
theorem d_Mo_step_75 : decode b_Mo_step 75 = .ok (.getfield 29, 3) := by decide +kernel
theorem d_Mo_step_78 : decode b_Mo_step 78 = .ok (.aload_n 0, 1) := by decide +kernel
theorem d_Mo_step_79 : decode b_Mo_step 79 = .ok (.iload_n 1, 1) := by decide +kernel
theorem d_Mo_step_80 : decode b_Mo_step 80 = .ok (.aload_n 0, 1) := by decide +kernel
theorem d_Mo_step_81 : decode b_Mo_step 81 = .ok (.getfield 54, 3) := by decide +kernel
theorem d_Mo_step_84 : decode b_Mo_step 84 = .ok (.iload_n 1, 1) := by decide +kernel
theorem d_Mo_step_85 : decode b_Mo_step 85 = .ok (.iaload, 1) := by decide +kernel
theorem d_Mo_step_86 : decode b_Mo_step 86 = .ok (.iconst 1, 1) := by decide +kernel
theorem d_Mo_step_87 : decode b_Mo_step 87 = .ok (.isub, 1) := by decide +kernel
theorem d_Mo_step_88 : decode b_Mo_step 88 = .ok (.invokevirtual 132, 3) := by decide +kernel
theorem d_Mo_step_91 : decode b_Mo_step 91 = .ok (.iaload, 1) := by decide +kernel
theorem d_Mo_step_92 : decode b_Mo_step 92 = .ok (.ireturn, 1) := by decide +kernel
theorem d_Mo_collect_0 : decode b_Mo_collect 0 = .ok (.aload_n 0, 1) := by decide +kernel
theorem d_Mo_collect_1 : decode b_Mo_collect 1 = .ok (.iconst 0, 1) := by decide +kernel
theorem d_Mo_collect_2 : decode b_Mo_collect 2 = .ok (.putfield 57, 3) := by decide +kernel
theorem d_Mo_collect_5 : decode b_Mo_collect 5 = .ok (.iload_n 1, 1) := by decide +kernel
theorem d_Mo_collect_6 : decode b_Mo_collect 6 = .ok (.ifCond .lt 8, 3) := by decide +kernel
theorem d_Mo_collect_9 : decode b_Mo_collect 9 = .ok (.iload_n 1, 1) := by decide +kernel
theorem d_Mo_collect_10 : decode b_Mo_collect 10 = .ok (.iconst 3, 1) := by decide +kernel
theorem d_Mo_collect_11 : decode b_Mo_collect 11 = .ok (.if_icmp .le 9, 3) := by decide +kernel
theorem d_Mo_collect_14 : decode b_Mo_collect 14 = .ok (.aload_n 0, 1) := by decide +kernel
theorem d_Mo_collect_15 : decode b_Mo_collect 15 = .ok (.iconst 1, 1) := by decide +kernel
theorem d_Mo_collect_16 : decode b_Mo_collect 16 = .ok (.invokevirtual 60, 3) := by decide +kernel
theorem d_Mo_collect_19 : decode b_Mo_collect 19 = .ok (.ireturn, 1) := by decide +kernel
theorem d_Mo_collect_20 : decode b_Mo_collect 20 = .ok (.iconst 0, 1) := by decide +kernel
theorem d_Mo_collect_21 : decode b_Mo_collect 21 = .ok (.istore_n 2, 1) := by decide +kernel
theorem d_Mo_collect_22 : decode b_Mo_collect 22 = .ok (.iload_n 2, 1) := by decide +kernel
theorem d_Mo_collect_23 : decode b_Mo_collect 23 = .ok (.bipush 32, 2) := by decide +kernel
theorem d_Mo_collect_25 : decode b_Mo_collect 25 = .ok (.if_icmp .ge 38, 3) := by decide +kernel
theorem d_Mo_collect_28 : decode b_Mo_collect 28 = .ok (.aload_n 0, 1) := by decide +kernel
theorem d_Mo_collect_29 : decode b_Mo_collect 29 = .ok (.getfield 26, 3) := by decide +kernel
theorem d_Mo_collect_32 : decode b_Mo_collect 32 = .ok (.iload_n 2, 1) := by decide +kernel
theorem d_Mo_collect_33 : decode b_Mo_collect 33 = .ok (.aload_n 0, 1) := by decide +kernel
theorem d_Mo_collect_34 : decode b_Mo_collect 34 = .ok (.getfield 19, 3) := by decide +kernel
theorem d_Mo_collect_37 : decode b_Mo_collect 37 = .ok (.iload_n 2, 1) := by decide +kernel
theorem d_Mo_collect_38 : decode b_Mo_collect 38 = .ok (.baload, 1) := by decide +kernel
theorem d_Mo_collect_39 : decode b_Mo_collect 39 = .ok (.ifCond .eq 16, 3) := by decide +kernel
theorem d_Mo_collect_42 : decode b_Mo_collect 42 = .ok (.aload_n 0, 1) := by decide +kernel
theorem d_Mo_collect_43 : decode b_Mo_collect 43 = .ok (.getfield 23, 3) := by decide +kernel
theorem d_Mo_collect_46 : decode b_Mo_collect 46 = .ok (.iload_n 2, 1) := by decide +kernel
theorem d_Mo_collect_47 : decode b_Mo_collect 47 = .ok (.baload, 1) := by decide +kernel
theorem d_Mo_collect_48 : decode b_Mo_collect 48 = .ok (.ifCond .eq 7, 3) := by decide +kernel
theorem d_Mo_collect_51 : decode b_Mo_collect 51 = .ok (.iconst 1, 1) := by decide +kernel
theorem d_Mo_collect_52 : decode b_Mo_collect 52 = .ok (.goto 4, 3) := by decide +kernel
theorem d_Mo_collect_55 : decode b_Mo_collect 55 = .ok (.iconst 0, 1) := by decide +kernel
theorem d_Mo_collect_56 : decode b_Mo_collect 56 = .ok (.bastore, 1) := by decide +kernel
theorem d_Mo_collect_57 : decode b_Mo_collect 57 = .ok (.iinc 2 1, 3) := by decide +kernel
theorem d_Mo_collect_60 : decode b_Mo_collect 60 = .ok (.goto (-38), 3) := by decide +kernel
theorem d_Mo_collect_63 : decode b_Mo_collect 63 = .ok (.aload_n 0, 1) := by decide +kernel
theorem d_Mo_collect_64 : decode b_Mo_collect 64 = .ok (.invokevirtual 141, 3) := by decide +kernel
theorem d_Mo_collect_67 : decode b_Mo_collect 67 = .ok (.aload_n 0, 1) := by decide +kernel
theorem d_Mo_collect_68 : decode b_Mo_collect 68 = .ok (.invokevirtual 138, 3) := by decide +kernel
theorem d_Mo_collect_71 : decode b_Mo_collect 71 = .ok (.aload_n 0, 1) := by decide +kernel
theorem d_Mo_collect_72 : decode b_Mo_collect 72 = .ok (.iload_n 1, 1) := by decide +kernel
theorem d_Mo_collect_73 : decode b_Mo_collect 73 = .ok (.invokevirtual 144, 3) := by decide +kernel
theorem d_Mo_collect_76 : decode b_Mo_collect 76 = .ok (.aload_n 0, 1) := by decide +kernel
theorem d_Mo_collect_77 : decode b_Mo_collect 77 = .ok (.getfield 38, 3) := by decide +kernel
theorem d_Mo_collect_80 : decode b_Mo_collect 80 = .ok (.iconst 0, 1) := by decide +kernel
theorem d_Mo_collect_81 : decode b_Mo_collect 81 = .ok (.iaload, 1) := by decide +kernel
theorem d_Mo_collect_82 : decode b_Mo_collect 82 = .ok (.iconst 1, 1) := by decide +kernel
theorem d_Mo_collect_83 : decode b_Mo_collect 83 = .ok (.isub, 1) := by decide +kernel
theorem d_Mo_collect_84 : decode b_Mo_collect 84 = .ok (.istore_n 2, 1) := by decide +kernel
theorem d_Mo_collect_85 : decode b_Mo_collect 85 = .ok (.iload_n 2, 1) := by decide +kernel
theorem d_Mo_collect_86 : decode b_Mo_collect 86 = .ok (.ifCond .lt 29, 3) := by decide +kernel
theorem d_Mo_collect_89 : decode b_Mo_collect 89 = .ok (.aload_n 0, 1) := by decide +kernel
theorem d_Mo_collect_90 : decode b_Mo_collect 90 = .ok (.getfield 26, 3) := by decide +kernel
theorem d_Mo_collect_93 : decode b_Mo_collect 93 = .ok (.aload_n 0, 1) := by decide +kernel
theorem d_Mo_collect_94 : decode b_Mo_collect 94 = .ok (.getfield 29, 3) := by decide +kernel
theorem d_Mo_collect_97 : decode b_Mo_collect 97 = .ok (.iload_n 2, 1) := by decide +kernel
theorem d_Mo_collect_98 : decode b_Mo_collect 98 = .ok (.iaload, 1) := by decide +kernel
theorem d_Mo_collect_99 : decode b_Mo_collect 99 = .ok (.baload, 1) := by decide +kernel
theorem d_Mo_collect_100 : decode b_Mo_collect 100 = .ok (.ifCond .ne 9, 3) := by decide +kernel
theorem d_Mo_collect_103 : decode b_Mo_collect 103 = .ok (.aload_n 0, 1) := by decide +kernel
theorem d_Mo_collect_104 : decode b_Mo_collect 104 = .ok (.iconst 0, 1) := by decide +kernel
theorem d_Mo_collect_105 : decode b_Mo_collect 105 = .ok (.iload_n 2, 1) := by decide +kernel
theorem d_Mo_collect_106 : decode b_Mo_collect 106 = .ok (.invokevirtual 129, 3) := by decide +kernel
theorem d_Mo_collect_109 : decode b_Mo_collect 109 = .ok (.iinc 2 (-1), 3) := by decide +kernel
theorem d_Mo_collect_112 : decode b_Mo_collect 112 = .ok (.goto (-27), 3) := by decide +kernel
theorem d_Mo_collect_115 : decode b_Mo_collect 115 = .ok (.iconst 0, 1) := by decide +kernel
theorem d_Mo_collect_116 : decode b_Mo_collect 116 = .ok (.istore_n 2, 1) := by decide +kernel
theorem d_Mo_collect_117 : decode b_Mo_collect 117 = .ok (.iconst 0, 1) := by decide +kernel
theorem d_Mo_collect_118 : decode b_Mo_collect 118 = .ok (.istore_n 3, 1) := by decide +kernel
theorem d_Mo_collect_119 : decode b_Mo_collect 119 = .ok (.iload_n 3, 1) := by decide +kernel
theorem d_Mo_collect_120 : decode b_Mo_collect 120 = .ok (.bipush 32, 2) := by decide +kernel
theorem d_Mo_collect_122 : decode b_Mo_collect 122 = .ok (.if_icmp .ge 47, 3) := by decide +kernel
theorem d_Mo_collect_125 : decode b_Mo_collect 125 = .ok (.iload_n 2, 1) := by decide +kernel
theorem d_Mo_collect_126 : decode b_Mo_collect 126 = .ok (.aload_n 0, 1) := by decide +kernel
theorem d_Mo_collect_127 : decode b_Mo_collect 127 = .ok (.getfield 19, 3) := by decide +kernel
theorem d_Mo_collect_130 : decode b_Mo_collect 130 = .ok (.iload_n 3, 1) := by decide +kernel
theorem d_Mo_collect_131 : decode b_Mo_collect 131 = .ok (.baload, 1) := by decide +kernel
theorem d_Mo_collect_132 : decode b_Mo_collect 132 = .ok (.ifCond .eq 16, 3) := by decide +kernel
theorem d_Mo_collect_135 : decode b_Mo_collect 135 = .ok (.aload_n 0, 1) := by decide +kernel
theorem d_Mo_collect_136 : decode b_Mo_collect 136 = .ok (.getfield 26, 3) := by decide +kernel
theorem d_Mo_collect_139 : decode b_Mo_collect 139 = .ok (.iload_n 3, 1) := by decide +kernel
theorem d_Mo_collect_140 : decode b_Mo_collect 140 = .ok (.baload, 1) := by decide +kernel
theorem d_Mo_collect_141 : decode b_Mo_collect 141 = .ok (.ifCond .ne 7, 3) := by decide +kernel
theorem d_Mo_collect_144 : decode b_Mo_collect 144 = .ok (.iconst 1, 1) := by decide +kernel
theorem d_Mo_collect_145 : decode b_Mo_collect 145 = .ok (.goto 4, 3) := by decide +kernel
theorem d_Mo_collect_148 : decode b_Mo_collect 148 = .ok (.iconst 0, 1) := by decide +kernel
theorem d_Mo_collect_149 : decode b_Mo_collect 149 = .ok (.iadd, 1) := by decide +kernel
theorem d_Mo_collect_150 : decode b_Mo_collect 150 = .ok (.istore_n 2, 1) := by decide +kernel
theorem d_Mo_collect_151 : decode b_Mo_collect 151 = .ok (.aload_n 0, 1) := by decide +kernel
theorem d_Mo_collect_152 : decode b_Mo_collect 152 = .ok (.getfield 19, 3) := by decide +kernel
theorem d_Mo_collect_155 : decode b_Mo_collect 155 = .ok (.iload_n 3, 1) := by decide +kernel
theorem d_Mo_collect_156 : decode b_Mo_collect 156 = .ok (.aload_n 0, 1) := by decide +kernel
theorem d_Mo_collect_157 : decode b_Mo_collect 157 = .ok (.getfield 26, 3) := by decide +kernel
theorem d_Mo_collect_160 : decode b_Mo_collect 160 = .ok (.iload_n 3, 1) := by decide +kernel
theorem d_Mo_collect_161 : decode b_Mo_collect 161 = .ok (.baload, 1) := by decide +kernel
theorem d_Mo_collect_162 : decode b_Mo_collect 162 = .ok (.bastore, 1) := by decide +kernel
theorem d_Mo_collect_163 : decode b_Mo_collect 163 = .ok (.iinc 3 1, 3) := by decide +kernel
theorem d_Mo_collect_166 : decode b_Mo_collect 166 = .ok (.goto (-47), 3) := by decide +kernel
theorem d_Mo_collect_169 : decode b_Mo_collect 169 = .ok (.aload_n 0, 1) := by decide +kernel
theorem d_Mo_collect_170 : decode b_Mo_collect 170 = .ok (.dup, 1) := by decide +kernel
theorem d_Mo_collect_171 : decode b_Mo_collect 171 = .ok (.getfield 147, 3) := by decide +kernel
theorem d_Mo_collect_174 : decode b_Mo_collect 174 = .ok (.iload_n 2, 1) := by decide +kernel
theorem d_Mo_collect_175 : decode b_Mo_collect 175 = .ok (.iadd, 1) := by decide +kernel
theorem d_Mo_collect_176 : decode b_Mo_collect 176 = .ok (.putfield 147, 3) := by decide +kernel
theorem d_Mo_collect_179 : decode b_Mo_collect 179 = .ok (.iload_n 2, 1) := by decide +kernel
theorem d_Mo_collect_180 : decode b_Mo_collect 180 = .ok (.ireturn, 1) := by decide +kernel
theorem d_Mo_holdMaps_0 : decode b_Mo_holdMaps 0 = .ok (.iconst 0, 1) := by decide +kernel
theorem d_Mo_holdMaps_1 : decode b_Mo_holdMaps 1 = .ok (.istore_n 1, 1) := by decide +kernel
theorem d_Mo_holdMaps_2 : decode b_Mo_holdMaps 2 = .ok (.iload_n 1, 1) := by decide +kernel
theorem d_Mo_holdMaps_3 : decode b_Mo_holdMaps 3 = .ok (.iconst 5, 1) := by decide +kernel
theorem d_Mo_holdMaps_4 : decode b_Mo_holdMaps 4 = .ok (.if_icmp .ge 72, 3) := by decide +kernel
theorem d_Mo_holdMaps_7 : decode b_Mo_holdMaps 7 = .ok (.bipush 32, 2) := by decide +kernel
theorem d_Mo_holdMaps_9 : decode b_Mo_holdMaps 9 = .ok (.iload_n 1, 1) := by decide +kernel
theorem d_Mo_holdMaps_10 : decode b_Mo_holdMaps 10 = .ok (.imul, 1) := by decide +kernel
theorem d_Mo_holdMaps_11 : decode b_Mo_holdMaps 11 = .ok (.istore_n 2, 1) := by decide +kernel
theorem d_Mo_holdMaps_12 : decode b_Mo_holdMaps 12 = .ok (.iload_n 2, 1) := by decide +kernel
theorem d_Mo_holdMaps_13 : decode b_Mo_holdMaps 13 = .ok (.aload_n 0, 1) := by decide +kernel
theorem d_Mo_holdMaps_14 : decode b_Mo_holdMaps 14 = .ok (.iload_n 1, 1) := by decide +kernel
theorem d_Mo_holdMaps_15 : decode b_Mo_holdMaps 15 = .ok (.invokevirtual 68, 3) := by decide +kernel
theorem d_Mo_holdMaps_18 : decode b_Mo_holdMaps 18 = .ok (.if_icmp .ge 52, 3) := by decide +kernel
theorem d_Mo_holdMaps_21 : decode b_Mo_holdMaps 21 = .ok (.aload_n 0, 1) := by decide +kernel
theorem d_Mo_holdMaps_22 : decode b_Mo_holdMaps 22 = .ok (.getfield 29, 3) := by decide +kernel
theorem d_Mo_holdMaps_25 : decode b_Mo_holdMaps 25 = .ok (.iload_n 2, 1) := by decide +kernel
theorem d_Mo_holdMaps_26 : decode b_Mo_holdMaps 26 = .ok (.iaload, 1) := by decide +kernel
theorem d_Mo_holdMaps_27 : decode b_Mo_holdMaps 27 = .ok (.ifCond .lt 37, 3) := by decide +kernel
theorem d_Mo_holdMaps_30 : decode b_Mo_holdMaps 30 = .ok (.iload_n 1, 1) := by decide +kernel
theorem d_Mo_holdMaps_31 : decode b_Mo_holdMaps 31 = .ok (.ifCond .eq 18, 3) := by decide +kernel
theorem d_Mo_holdMaps_34 : decode b_Mo_holdMaps 34 = .ok (.iload_n 1, 1) := by decide +kernel
theorem d_Mo_holdMaps_35 : decode b_Mo_holdMaps 35 = .ok (.iconst 3, 1) := by decide +kernel
theorem d_Mo_holdMaps_36 : decode b_Mo_holdMaps 36 = .ok (.if_icmp .eq 13, 3) := by decide +kernel
theorem d_Mo_holdMaps_39 : decode b_Mo_holdMaps 39 = .ok (.aload_n 0, 1) := by decide +kernel
theorem d_Mo_holdMaps_40 : decode b_Mo_holdMaps 40 = .ok (.aload_n 0, 1) := by decide +kernel
theorem d_Mo_holdMaps_41 : decode b_Mo_holdMaps 41 = .ok (.getfield 29, 3) := by decide +kernel
theorem d_Mo_holdMaps_44 : decode b_Mo_holdMaps 44 = .ok (.iload_n 2, 1) := by decide +kernel
theorem d_Mo_holdMaps_45 : decode b_Mo_holdMaps 45 = .ok (.iaload, 1) := by decide +kernel
theorem d_Mo_holdMaps_46 : decode b_Mo_holdMaps 46 = .ok (.invokevirtual 135, 3) := by decide +kernel
theorem d_Mo_holdMaps_49 : decode b_Mo_holdMaps 49 = .ok (.iload_n 1, 1) := by decide +kernel
theorem d_Mo_holdMaps_50 : decode b_Mo_holdMaps 50 = .ok (.iconst 1, 1) := by decide +kernel
theorem d_Mo_holdMaps_51 : decode b_Mo_holdMaps 51 = .ok (.if_icmp .eq 13, 3) := by decide +kernel
theorem d_Mo_holdMaps_54 : decode b_Mo_holdMaps 54 = .ok (.aload_n 0, 1) := by decide +kernel
theorem d_Mo_holdMaps_55 : decode b_Mo_holdMaps 55 = .ok (.aload_n 0, 1) := by decide +kernel
theorem d_Mo_holdMaps_56 : decode b_Mo_holdMaps 56 = .ok (.getfield 32, 3) := by decide +kernel
theorem d_Mo_holdMaps_59 : decode b_Mo_holdMaps 59 = .ok (.iload_n 2, 1) := by decide +kernel
theorem d_Mo_holdMaps_60 : decode b_Mo_holdMaps 60 = .ok (.iaload, 1) := by decide +kernel
theorem d_Mo_holdMaps_61 : decode b_Mo_holdMaps 61 = .ok (.invokevirtual 135, 3) := by decide +kernel
theorem d_Mo_holdMaps_64 : decode b_Mo_holdMaps 64 = .ok (.iinc 2 1, 3) := by decide +kernel
theorem d_Mo_holdMaps_67 : decode b_Mo_holdMaps 67 = .ok (.goto (-55), 3) := by decide +kernel
theorem d_Mo_holdMaps_70 : decode b_Mo_holdMaps 70 = .ok (.iinc 1 1, 3) := by decide +kernel
theorem d_Mo_holdMaps_73 : decode b_Mo_holdMaps 73 = .ok (.goto (-71), 3) := by decide +kernel
theorem d_Mo_holdMaps_76 : decode b_Mo_holdMaps 76 = .ok (.return_, 1) := by decide +kernel
theorem d_Mo_hold_0 : decode b_Mo_hold 0 = .ok (.iload_n 1, 1) := by decide +kernel
theorem d_Mo_hold_1 : decode b_Mo_hold 1 = .ok (.ifCond .lt 10, 3) := by decide +kernel
theorem d_Mo_hold_4 : decode b_Mo_hold 4 = .ok (.aload_n 0, 1) := by decide +kernel
theorem d_Mo_hold_5 : decode b_Mo_hold 5 = .ok (.getfield 26, 3) := by decide +kernel
theorem d_Mo_hold_8 : decode b_Mo_hold 8 = .ok (.iload_n 1, 1) := by decide +kernel
theorem d_Mo_hold_9 : decode b_Mo_hold 9 = .ok (.iconst 1, 1) := by decide +kernel
theorem d_Mo_hold_10 : decode b_Mo_hold 10 = .ok (.bastore, 1) := by decide +kernel
theorem d_Mo_hold_11 : decode b_Mo_hold 11 = .ok (.return_, 1) := by decide +kernel
theorem d_Mo_spread_0 : decode b_Mo_spread 0 = .ok (.iconst 0, 1) := by decide +kernel
theorem d_Mo_spread_1 : decode b_Mo_spread 1 = .ok (.istore_n 1, 1) := by decide +kernel
theorem d_Mo_spread_2 : decode b_Mo_spread 2 = .ok (.iload_n 1, 1) := by decide +kernel
theorem d_Mo_spread_3 : decode b_Mo_spread 3 = .ok (.bipush 32, 2) := by decide +kernel
theorem d_Mo_spread_5 : decode b_Mo_spread 5 = .ok (.if_icmp .ge 52, 3) := by decide +kernel
theorem d_Mo_spread_8 : decode b_Mo_spread 8 = .ok (.iconst 0, 1) := by decide +kernel
theorem d_Mo_spread_9 : decode b_Mo_spread 9 = .ok (.istore_n 2, 1) := by decide +kernel
theorem d_Mo_spread_10 : decode b_Mo_spread 10 = .ok (.iload_n 2, 1) := by decide +kernel
theorem d_Mo_spread_11 : decode b_Mo_spread 11 = .ok (.bipush 32, 2) := by decide +kernel
theorem d_Mo_spread_13 : decode b_Mo_spread 13 = .ok (.if_icmp .ge 38, 3) := by decide +kernel
theorem d_Mo_spread_16 : decode b_Mo_spread 16 = .ok (.aload_n 0, 1) := by decide +kernel
theorem d_Mo_spread_17 : decode b_Mo_spread 17 = .ok (.getfield 26, 3) := by decide +kernel
theorem d_Mo_spread_20 : decode b_Mo_spread 20 = .ok (.iload_n 2, 1) := by decide +kernel
theorem d_Mo_spread_21 : decode b_Mo_spread 21 = .ok (.baload, 1) := by decide +kernel
theorem d_Mo_spread_22 : decode b_Mo_spread 22 = .ok (.ifCond .eq 23, 3) := by decide +kernel
theorem d_Mo_spread_25 : decode b_Mo_spread 25 = .ok (.aload_n 0, 1) := by decide +kernel
theorem d_Mo_spread_26 : decode b_Mo_spread 26 = .ok (.aload_n 0, 1) := by decide +kernel
theorem d_Mo_spread_27 : decode b_Mo_spread 27 = .ok (.getfield 13, 3) := by decide +kernel
theorem d_Mo_spread_30 : decode b_Mo_spread 30 = .ok (.iload_n 2, 1) := by decide +kernel
theorem d_Mo_spread_31 : decode b_Mo_spread 31 = .ok (.iaload, 1) := by decide +kernel
theorem d_Mo_spread_32 : decode b_Mo_spread 32 = .ok (.invokevirtual 135, 3) := by decide +kernel
theorem d_Mo_spread_35 : decode b_Mo_spread 35 = .ok (.aload_n 0, 1) := by decide +kernel
theorem d_Mo_spread_36 : decode b_Mo_spread 36 = .ok (.aload_n 0, 1) := by decide +kernel
theorem d_Mo_spread_37 : decode b_Mo_spread 37 = .ok (.getfield 16, 3) := by decide +kernel
theorem d_Mo_spread_40 : decode b_Mo_spread 40 = .ok (.iload_n 2, 1) := by decide +kernel
theorem d_Mo_spread_41 : decode b_Mo_spread 41 = .ok (.iaload, 1) := by decide +kernel
theorem d_Mo_spread_42 : decode b_Mo_spread 42 = .ok (.invokevirtual 135, 3) := by decide +kernel
theorem d_Mo_spread_45 : decode b_Mo_spread 45 = .ok (.iinc 2 1, 3) := by decide +kernel
theorem d_Mo_spread_48 : decode b_Mo_spread 48 = .ok (.goto (-38), 3) := by decide +kernel
theorem d_Mo_spread_51 : decode b_Mo_spread 51 = .ok (.iinc 1 1, 3) := by decide +kernel
theorem d_Mo_spread_54 : decode b_Mo_spread 54 = .ok (.goto (-52), 3) := by decide +kernel
theorem d_Mo_spread_57 : decode b_Mo_spread 57 = .ok (.return_, 1) := by decide +kernel
theorem d_Mo_soften_0 : decode b_Mo_soften 0 = .ok (.iconst (-1), 1) := by decide +kernel
theorem d_Mo_soften_1 : decode b_Mo_soften 1 = .ok (.istore_n 2, 1) := by decide +kernel
theorem d_Mo_soften_2 : decode b_Mo_soften 2 = .ok (.iconst 1, 1) := by decide +kernel
theorem d_Mo_soften_3 : decode b_Mo_soften 3 = .ok (.istore_n 3, 1) := by decide +kernel
theorem d_Mo_soften_4 : decode b_Mo_soften 4 = .ok (.iload_n 3, 1) := by decide +kernel
theorem d_Mo_soften_5 : decode b_Mo_soften 5 = .ok (.ifCond .eq 144, 3) := by decide +kernel
theorem d_Mo_soften_8 : decode b_Mo_soften 8 = .ok (.iconst (-1), 1) := by decide +kernel
theorem d_Mo_soften_9 : decode b_Mo_soften 9 = .ok (.istore 4, 2) := by decide +kernel
theorem d_Mo_soften_11 : decode b_Mo_soften 11 = .ok (.bipush 32, 2) := by decide +kernel
theorem d_Mo_soften_13 : decode b_Mo_soften 13 = .ok (.istore 5, 2) := by decide +kernel
theorem d_Mo_soften_15 : decode b_Mo_soften 15 = .ok (.iload 5, 2) := by decide +kernel
theorem d_Mo_soften_17 : decode b_Mo_soften 17 = .ok (.aload_n 0, 1) := by decide +kernel
theorem d_Mo_soften_18 : decode b_Mo_soften 18 = .ok (.iconst 1, 1) := by decide +kernel
theorem d_Mo_soften_19 : decode b_Mo_soften 19 = .ok (.invokevirtual 68, 3) := by decide +kernel
theorem d_Mo_soften_22 : decode b_Mo_soften 22 = .ok (.if_icmp .ge 46, 3) := by decide +kernel
theorem d_Mo_soften_25 : decode b_Mo_soften 25 = .ok (.aload_n 0, 1) := by decide +kernel
theorem d_Mo_soften_26 : decode b_Mo_soften 26 = .ok (.getfield 35, 3) := by decide +kernel
theorem d_Mo_soften_29 : decode b_Mo_soften 29 = .ok (.iload 5, 2) := by decide +kernel
theorem d_Mo_soften_31 : decode b_Mo_soften 31 = .ok (.iaload, 1) := by decide +kernel
theorem d_Mo_soften_32 : decode b_Mo_soften 32 = .ok (.iload_n 2, 1) := by decide +kernel
theorem d_Mo_soften_33 : decode b_Mo_soften 33 = .ok (.if_icmp .le 29, 3) := by decide +kernel
theorem d_Mo_soften_36 : decode b_Mo_soften 36 = .ok (.iload 4, 2) := by decide +kernel
theorem d_Mo_soften_38 : decode b_Mo_soften 38 = .ok (.ifCond .lt 20, 3) := by decide +kernel
theorem d_Mo_soften_41 : decode b_Mo_soften 41 = .ok (.aload_n 0, 1) := by decide +kernel
theorem d_Mo_soften_42 : decode b_Mo_soften 42 = .ok (.getfield 35, 3) := by decide +kernel
theorem d_Mo_soften_45 : decode b_Mo_soften 45 = .ok (.iload 5, 2) := by decide +kernel
theorem d_Mo_soften_47 : decode b_Mo_soften 47 = .ok (.iaload, 1) := by decide +kernel
theorem d_Mo_soften_48 : decode b_Mo_soften 48 = .ok (.aload_n 0, 1) := by decide +kernel
theorem d_Mo_soften_49 : decode b_Mo_soften 49 = .ok (.getfield 35, 3) := by decide +kernel
theorem d_Mo_soften_52 : decode b_Mo_soften 52 = .ok (.iload 4, 2) := by decide +kernel
theorem d_Mo_soften_54 : decode b_Mo_soften 54 = .ok (.iaload, 1) := by decide +kernel
theorem d_Mo_soften_55 : decode b_Mo_soften 55 = .ok (.if_icmp .ge 7, 3) := by decide +kernel
theorem d_Mo_soften_58 : decode b_Mo_soften 58 = .ok (.iload 5, 2) := by decide +kernel
theorem d_Mo_soften_60 : decode b_Mo_soften 60 = .ok (.istore 4, 2) := by decide +kernel
theorem d_Mo_soften_62 : decode b_Mo_soften 62 = .ok (.iinc 5 1, 3) := by decide +kernel
theorem d_Mo_soften_65 : decode b_Mo_soften 65 = .ok (.goto (-50), 3) := by decide +kernel
theorem d_Mo_soften_68 : decode b_Mo_soften 68 = .ok (.iload 4, 2) := by decide +kernel
theorem d_Mo_soften_70 : decode b_Mo_soften 70 = .ok (.ifCond .lt 7, 3) := by decide +kernel
theorem d_Mo_soften_73 : decode b_Mo_soften 73 = .ok (.iconst 1, 1) := by decide +kernel
theorem d_Mo_soften_74 : decode b_Mo_soften 74 = .ok (.goto 4, 3) := by decide +kernel
theorem d_Mo_soften_77 : decode b_Mo_soften 77 = .ok (.iconst 0, 1) := by decide +kernel
theorem d_Mo_soften_78 : decode b_Mo_soften 78 = .ok (.istore_n 3, 1) := by decide +kernel
theorem d_Mo_soften_79 : decode b_Mo_soften 79 = .ok (.iload_n 3, 1) := by decide +kernel
theorem d_Mo_soften_80 : decode b_Mo_soften 80 = .ok (.ifCond .eq 66, 3) := by decide +kernel
theorem d_Mo_soften_83 : decode b_Mo_soften 83 = .ok (.aload_n 0, 1) := by decide +kernel
theorem d_Mo_soften_84 : decode b_Mo_soften 84 = .ok (.getfield 35, 3) := by decide +kernel
theorem d_Mo_soften_87 : decode b_Mo_soften 87 = .ok (.iload 4, 2) := by decide +kernel
theorem d_Mo_soften_89 : decode b_Mo_soften 89 = .ok (.iaload, 1) := by decide +kernel
theorem d_Mo_soften_90 : decode b_Mo_soften 90 = .ok (.istore_n 2, 1) := by decide +kernel
theorem d_Mo_soften_91 : decode b_Mo_soften 91 = .ok (.aload_n 0, 1) := by decide +kernel
theorem d_Mo_soften_92 : decode b_Mo_soften 92 = .ok (.getfield 26, 3) := by decide +kernel
theorem d_Mo_soften_95 : decode b_Mo_soften 95 = .ok (.aload_n 0, 1) := by decide +kernel
theorem d_Mo_soften_96 : decode b_Mo_soften 96 = .ok (.getfield 32, 3) := by decide +kernel
theorem d_Mo_soften_99 : decode b_Mo_soften 99 = .ok (.iload 4, 2) := by decide +kernel
theorem d_Mo_soften_101 : decode b_Mo_soften 101 = .ok (.iaload, 1) := by decide +kernel
theorem d_Mo_soften_102 : decode b_Mo_soften 102 = .ok (.baload, 1) := by decide +kernel
theorem d_Mo_soften_103 : decode b_Mo_soften 103 = .ok (.ifCond .ne 28, 3) := by decide +kernel
theorem d_Mo_soften_106 : decode b_Mo_soften 106 = .ok (.aload_n 0, 1) := by decide +kernel
theorem d_Mo_soften_107 : decode b_Mo_soften 107 = .ok (.getfield 93, 3) := by decide +kernel
theorem d_Mo_soften_110 : decode b_Mo_soften 110 = .ok (.iload_n 2, 1) := by decide +kernel
theorem d_Mo_soften_111 : decode b_Mo_soften 111 = .ok (.isub, 1) := by decide +kernel
theorem d_Mo_soften_112 : decode b_Mo_soften 112 = .ok (.bipush 12, 2) := by decide +kernel
theorem d_Mo_soften_114 : decode b_Mo_soften 114 = .ok (.iconst 4, 1) := by decide +kernel
theorem d_Mo_soften_115 : decode b_Mo_soften 115 = .ok (.iload_n 1, 1) := by decide +kernel
theorem d_Mo_soften_116 : decode b_Mo_soften 116 = .ok (.imul, 1) := by decide +kernel
theorem d_Mo_soften_117 : decode b_Mo_soften 117 = .ok (.isub, 1) := by decide +kernel
theorem d_Mo_soften_118 : decode b_Mo_soften 118 = .ok (.if_icmp .lt 13, 3) := by decide +kernel
theorem d_Mo_soften_121 : decode b_Mo_soften 121 = .ok (.aload_n 0, 1) := by decide +kernel
theorem d_Mo_soften_122 : decode b_Mo_soften 122 = .ok (.iconst 1, 1) := by decide +kernel
theorem d_Mo_soften_123 : decode b_Mo_soften 123 = .ok (.iload 4, 2) := by decide +kernel
theorem d_Mo_soften_125 : decode b_Mo_soften 125 = .ok (.invokevirtual 129, 3) := by decide +kernel
theorem d_Mo_soften_128 : decode b_Mo_soften 128 = .ok (.goto 18, 3) := by decide +kernel
theorem d_Mo_soften_131 : decode b_Mo_soften 131 = .ok (.aload_n 0, 1) := by decide +kernel
theorem d_Mo_soften_132 : decode b_Mo_soften 132 = .ok (.aload_n 0, 1) := by decide +kernel
theorem d_Mo_soften_133 : decode b_Mo_soften 133 = .ok (.getfield 32, 3) := by decide +kernel
theorem d_Mo_soften_136 : decode b_Mo_soften 136 = .ok (.iload 4, 2) := by decide +kernel
theorem d_Mo_soften_138 : decode b_Mo_soften 138 = .ok (.iaload, 1) := by decide +kernel
theorem d_Mo_soften_139 : decode b_Mo_soften 139 = .ok (.invokevirtual 135, 3) := by decide +kernel
theorem d_Mo_soften_142 : decode b_Mo_soften 142 = .ok (.aload_n 0, 1) := by decide +kernel
theorem d_Mo_soften_143 : decode b_Mo_soften 143 = .ok (.invokevirtual 138, 3) := by decide +kernel
theorem d_Mo_soften_146 : decode b_Mo_soften 146 = .ok (.goto (-142), 3) := by decide +kernel
theorem d_Mo_soften_149 : decode b_Mo_soften 149 = .ok (.return_, 1) := by decide +kernel
theorem d_Mo_value_0 : decode b_Mo_value 0 = .ok (.aload_n 0, 1) := by decide +kernel
theorem d_Mo_value_1 : decode b_Mo_value 1 = .ok (.iconst 0, 1) := by decide +kernel
theorem d_Mo_value_2 : decode b_Mo_value 2 = .ok (.putfield 57, 3) := by decide +kernel
theorem d_Mo_value_5 : decode b_Mo_value 5 = .ok (.aload_n 0, 1) := by decide +kernel
theorem d_Mo_value_6 : decode b_Mo_value 6 = .ok (.iload_n 1, 1) := by decide +kernel
theorem d_Mo_value_7 : decode b_Mo_value 7 = .ok (.invokevirtual 64, 3) := by decide +kernel
theorem d_Mo_value_10 : decode b_Mo_value 10 = .ok (.ifCond .eq 12, 3) := by decide +kernel
theorem d_Mo_value_13 : decode b_Mo_value 13 = .ok (.aload_n 0, 1) := by decide +kernel
theorem d_Mo_value_14 : decode b_Mo_value 14 = .ok (.getfield 7, 3) := by decide +kernel
theorem d_Mo_value_17 : decode b_Mo_value 17 = .ok (.iload_n 1, 1) := by decide +kernel
theorem d_Mo_value_18 : decode b_Mo_value 18 = .ok (.iaload, 1) := by decide +kernel
theorem d_Mo_value_19 : decode b_Mo_value 19 = .ok (.goto 4, 3) := by decide +kernel
theorem d_Mo_value_22 : decode b_Mo_value 22 = .ok (.iconst (-1), 1) := by decide +kernel
theorem d_Mo_value_23 : decode b_Mo_value 23 = .ok (.ireturn, 1) := by decide +kernel
theorem d_Mo_count_0 : decode b_Mo_count 0 = .ok (.aload_n 0, 1) := by decide +kernel
theorem d_Mo_count_1 : decode b_Mo_count 1 = .ok (.iconst 0, 1) := by decide +kernel
theorem d_Mo_count_2 : decode b_Mo_count 2 = .ok (.putfield 57, 3) := by decide +kernel
theorem d_Mo_count_5 : decode b_Mo_count 5 = .ok (.iconst 0, 1) := by decide +kernel
theorem d_Mo_count_6 : decode b_Mo_count 6 = .ok (.istore_n 2, 1) := by decide +kernel
theorem d_Mo_count_7 : decode b_Mo_count 7 = .ok (.iconst 0, 1) := by decide +kernel
theorem d_Mo_count_8 : decode b_Mo_count 8 = .ok (.istore_n 3, 1) := by decide +kernel
theorem d_Mo_count_9 : decode b_Mo_count 9 = .ok (.iload_n 3, 1) := by decide +kernel
theorem d_Mo_count_10 : decode b_Mo_count 10 = .ok (.bipush 32, 2) := by decide +kernel
theorem d_Mo_count_12 : decode b_Mo_count 12 = .ok (.if_icmp .ge 26, 3) := by decide +kernel
theorem d_Mo_count_15 : decode b_Mo_count 15 = .ok (.iload_n 2, 1) := by decide +kernel
theorem d_Mo_count_16 : decode b_Mo_count 16 = .ok (.aload_n 0, 1) := by decide +kernel
theorem d_Mo_count_17 : decode b_Mo_count 17 = .ok (.getfield 19, 3) := by decide +kernel
theorem d_Mo_count_20 : decode b_Mo_count 20 = .ok (.iload_n 3, 1) := by decide +kernel
theorem d_Mo_count_21 : decode b_Mo_count 21 = .ok (.baload, 1) := by decide +kernel
theorem d_Mo_count_22 : decode b_Mo_count 22 = .ok (.ifCond .eq 7, 3) := by decide +kernel
theorem d_Mo_count_25 : decode b_Mo_count 25 = .ok (.iconst 1, 1) := by decide +kernel
theorem d_Mo_count_26 : decode b_Mo_count 26 = .ok (.goto 4, 3) := by decide +kernel
theorem d_Mo_count_29 : decode b_Mo_count 29 = .ok (.iconst 0, 1) := by decide +kernel
theorem d_Mo_count_30 : decode b_Mo_count 30 = .ok (.iadd, 1) := by decide +kernel
theorem d_Mo_count_31 : decode b_Mo_count 31 = .ok (.istore_n 2, 1) := by decide +kernel
theorem d_Mo_count_32 : decode b_Mo_count 32 = .ok (.iinc 3 1, 3) := by decide +kernel
theorem d_Mo_count_35 : decode b_Mo_count 35 = .ok (.goto (-26), 3) := by decide +kernel
theorem d_Mo_count_38 : decode b_Mo_count 38 = .ok (.iload_n 1, 1) := by decide +kernel
theorem d_Mo_count_39 : decode b_Mo_count 39 = .ok (.ifCond .ne 7, 3) := by decide +kernel
theorem d_Mo_count_42 : decode b_Mo_count 42 = .ok (.iload_n 2, 1) := by decide +kernel
theorem d_Mo_count_43 : decode b_Mo_count 43 = .ok (.goto 40, 3) := by decide +kernel
theorem d_Mo_count_46 : decode b_Mo_count 46 = .ok (.iload_n 1, 1) := by decide +kernel
theorem d_Mo_count_47 : decode b_Mo_count 47 = .ok (.iconst 1, 1) := by decide +kernel
theorem d_Mo_count_48 : decode b_Mo_count 48 = .ok (.if_icmp .ne 10, 3) := by decide +kernel
theorem d_Mo_count_51 : decode b_Mo_count 51 = .ok (.aload_n 0, 1) := by decide +kernel
theorem d_Mo_count_52 : decode b_Mo_count 52 = .ok (.getfield 147, 3) := by decide +kernel
theorem d_Mo_count_55 : decode b_Mo_count 55 = .ok (.goto 28, 3) := by decide +kernel
theorem d_Mo_count_58 : decode b_Mo_count 58 = .ok (.iload_n 1, 1) := by decide +kernel
theorem d_Mo_count_59 : decode b_Mo_count 59 = .ok (.iconst 2, 1) := by decide +kernel
theorem d_Mo_count_60 : decode b_Mo_count 60 = .ok (.if_icmp .ne 10, 3) := by decide +kernel
theorem d_Mo_count_63 : decode b_Mo_count 63 = .ok (.aload_n 0, 1) := by decide +kernel
theorem d_Mo_count_64 : decode b_Mo_count 64 = .ok (.getfield 41, 3) := by decide +kernel
theorem d_Mo_count_67 : decode b_Mo_count 67 = .ok (.goto 16, 3) := by decide +kernel
theorem d_Mo_count_70 : decode b_Mo_count 70 = .ok (.iload_n 1, 1) := by decide +kernel
theorem d_Mo_count_71 : decode b_Mo_count 71 = .ok (.iconst 3, 1) := by decide +kernel
theorem d_Mo_count_72 : decode b_Mo_count 72 = .ok (.if_icmp .ne 10, 3) := by decide +kernel
theorem d_Mo_count_75 : decode b_Mo_count 75 = .ok (.aload_n 0, 1) := by decide +kernel
theorem d_Mo_count_76 : decode b_Mo_count 76 = .ok (.getfield 93, 3) := by decide +kernel
theorem d_Mo_count_79 : decode b_Mo_count 79 = .ok (.goto 4, 3) := by decide +kernel
theorem d_Mo_count_82 : decode b_Mo_count 82 = .ok (.iconst (-1), 1) := by decide +kernel
theorem d_Mo_count_83 : decode b_Mo_count 83 = .ok (.ireturn, 1) := by decide +kernel
end
section
/-! What each instruction decodes to (wip/tools/names.py). -/
theorem d_HM_init_0 : decode b_HM_init 0 = .ok (.aload_n 0, 1) := by decide +kernel
theorem d_HM_init_1 : decode b_HM_init 1 = .ok (.invokespecial 1, 3) := by decide +kernel
theorem d_HM_init_4 : decode b_HM_init 4 = .ok (.aload_n 0, 1) := by decide +kernel
theorem d_HM_init_5 : decode b_HM_init 5 = .ok (.new 7, 3) := by decide +kernel
theorem d_HM_init_8 : decode b_HM_init 8 = .ok (.dup, 1) := by decide +kernel
theorem d_HM_init_9 : decode b_HM_init 9 = .ok (.invokespecial 9, 3) := by decide +kernel
theorem d_HM_init_12 : decode b_HM_init 12 = .ok (.putfield 10, 3) := by decide +kernel
theorem d_HM_init_15 : decode b_HM_init 15 = .ok (.aload_n 0, 1) := by decide +kernel
theorem d_HM_init_16 : decode b_HM_init 16 = .ok (.new 16, 3) := by decide +kernel
theorem d_HM_init_19 : decode b_HM_init 19 = .ok (.dup, 1) := by decide +kernel
theorem d_HM_init_20 : decode b_HM_init 20 = .ok (.invokespecial 18, 3) := by decide +kernel
theorem d_HM_init_23 : decode b_HM_init 23 = .ok (.putfield 19, 3) := by decide +kernel
theorem d_HM_init_26 : decode b_HM_init 26 = .ok (.aload_n 0, 1) := by decide +kernel
theorem d_HM_init_27 : decode b_HM_init 27 = .ok (.new 23, 3) := by decide +kernel
theorem d_HM_init_30 : decode b_HM_init 30 = .ok (.dup, 1) := by decide +kernel
theorem d_HM_init_31 : decode b_HM_init 31 = .ok (.invokespecial 25, 3) := by decide +kernel
theorem d_HM_init_34 : decode b_HM_init 34 = .ok (.putfield 26, 3) := by decide +kernel
theorem d_HM_init_37 : decode b_HM_init 37 = .ok (.aload_n 0, 1) := by decide +kernel
theorem d_HM_init_38 : decode b_HM_init 38 = .ok (.iconst 5, 1) := by decide +kernel
theorem d_HM_init_39 : decode b_HM_init 39 = .ok (.anewarray 30, 3) := by decide +kernel
theorem d_HM_init_42 : decode b_HM_init 42 = .ok (.putfield 32, 3) := by decide +kernel
theorem d_HM_init_45 : decode b_HM_init 45 = .ok (.aload_n 0, 1) := by decide +kernel
theorem d_HM_init_46 : decode b_HM_init 46 = .ok (.getfield 32, 3) := by decide +kernel
theorem d_HM_init_49 : decode b_HM_init 49 = .ok (.iconst 0, 1) := by decide +kernel
theorem d_HM_init_50 : decode b_HM_init 50 = .ok (.aload_n 0, 1) := by decide +kernel
theorem d_HM_init_51 : decode b_HM_init 51 = .ok (.getfield 19, 3) := by decide +kernel
theorem d_HM_init_54 : decode b_HM_init 54 = .ok (.aastore, 1) := by decide +kernel
theorem d_HM_init_55 : decode b_HM_init 55 = .ok (.aload_n 0, 1) := by decide +kernel
theorem d_HM_init_56 : decode b_HM_init 56 = .ok (.getfield 32, 3) := by decide +kernel
theorem d_HM_init_59 : decode b_HM_init 59 = .ok (.iconst 1, 1) := by decide +kernel
theorem d_HM_init_60 : decode b_HM_init 60 = .ok (.aload_n 0, 1) := by decide +kernel
theorem d_HM_init_61 : decode b_HM_init 61 = .ok (.getfield 26, 3) := by decide +kernel
theorem d_HM_init_64 : decode b_HM_init 64 = .ok (.aastore, 1) := by decide +kernel
theorem d_HM_init_65 : decode b_HM_init 65 = .ok (.aload_n 0, 1) := by decide +kernel
theorem d_HM_init_66 : decode b_HM_init 66 = .ok (.getfield 32, 3) := by decide +kernel
theorem d_HM_init_69 : decode b_HM_init 69 = .ok (.iconst 2, 1) := by decide +kernel
theorem d_HM_init_70 : decode b_HM_init 70 = .ok (.new 36, 3) := by decide +kernel
theorem d_HM_init_73 : decode b_HM_init 73 = .ok (.dup, 1) := by decide +kernel
theorem d_HM_init_74 : decode b_HM_init 74 = .ok (.invokespecial 38, 3) := by decide +kernel
theorem d_HM_init_77 : decode b_HM_init 77 = .ok (.aastore, 1) := by decide +kernel
theorem d_HM_init_78 : decode b_HM_init 78 = .ok (.aload_n 0, 1) := by decide +kernel
theorem d_HM_init_79 : decode b_HM_init 79 = .ok (.getfield 32, 3) := by decide +kernel
theorem d_HM_init_82 : decode b_HM_init 82 = .ok (.iconst 3, 1) := by decide +kernel
theorem d_HM_init_83 : decode b_HM_init 83 = .ok (.new 39, 3) := by decide +kernel
theorem d_HM_init_86 : decode b_HM_init 86 = .ok (.dup, 1) := by decide +kernel
theorem d_HM_init_87 : decode b_HM_init 87 = .ok (.invokespecial 41, 3) := by decide +kernel
theorem d_HM_init_90 : decode b_HM_init 90 = .ok (.aastore, 1) := by decide +kernel
theorem d_HM_init_91 : decode b_HM_init 91 = .ok (.aload_n 0, 1) := by decide +kernel
theorem d_HM_init_92 : decode b_HM_init 92 = .ok (.getfield 32, 3) := by decide +kernel
theorem d_HM_init_95 : decode b_HM_init 95 = .ok (.iconst 4, 1) := by decide +kernel
theorem d_HM_init_96 : decode b_HM_init 96 = .ok (.new 42, 3) := by decide +kernel
theorem d_HM_init_99 : decode b_HM_init 99 = .ok (.dup, 1) := by decide +kernel
theorem d_HM_init_100 : decode b_HM_init 100 = .ok (.invokespecial 44, 3) := by decide +kernel
theorem d_HM_init_103 : decode b_HM_init 103 = .ok (.aastore, 1) := by decide +kernel
theorem d_HM_init_104 : decode b_HM_init 104 = .ok (.return_, 1) := by decide +kernel
theorem d_He_init_0 : decode b_He_init 0 = .ok (.aload_n 0, 1) := by decide +kernel
theorem d_He_init_1 : decode b_He_init 1 = .ok (.invokespecial 3, 3) := by decide +kernel
theorem d_He_init_4 : decode b_He_init 4 = .ok (.aload_n 0, 1) := by decide +kernel
theorem d_He_init_5 : decode b_He_init 5 = .ok (.bipush 32, 2) := by decide +kernel
theorem d_He_init_7 : decode b_He_init 7 = .ok (.anewarray 9, 3) := by decide +kernel
theorem d_He_init_10 : decode b_He_init 10 = .ok (.putfield 11, 3) := by decide +kernel
theorem d_He_init_13 : decode b_He_init 13 = .ok (.aload_n 0, 1) := by decide +kernel
theorem d_He_init_14 : decode b_He_init 14 = .ok (.bipush 32, 2) := by decide +kernel
theorem d_He_init_16 : decode b_He_init 16 = .ok (.newarray .int, 2) := by decide +kernel
theorem d_He_init_18 : decode b_He_init 18 = .ok (.putfield 17, 3) := by decide +kernel
theorem d_He_init_21 : decode b_He_init 21 = .ok (.return_, 1) := by decide +kernel
theorem d_We_init_0 : decode b_We_init 0 = .ok (.aload_n 0, 1) := by decide +kernel
theorem d_We_init_1 : decode b_We_init 1 = .ok (.invokespecial 3, 3) := by decide +kernel
theorem d_We_init_4 : decode b_We_init 4 = .ok (.aload_n 0, 1) := by decide +kernel
theorem d_We_init_5 : decode b_We_init 5 = .ok (.new 9, 3) := by decide +kernel
theorem d_We_init_8 : decode b_We_init 8 = .ok (.dup, 1) := by decide +kernel
theorem d_We_init_9 : decode b_We_init 9 = .ok (.invokespecial 11, 3) := by decide +kernel
theorem d_We_init_12 : decode b_We_init 12 = .ok (.putfield 12, 3) := by decide +kernel
theorem d_We_init_15 : decode b_We_init 15 = .ok (.aload_n 0, 1) := by decide +kernel
theorem d_We_init_16 : decode b_We_init 16 = .ok (.iconst 4, 1) := by decide +kernel
theorem d_We_init_17 : decode b_We_init 17 = .ok (.putfield 18, 3) := by decide +kernel
theorem d_We_init_20 : decode b_We_init 20 = .ok (.return_, 1) := by decide +kernel
theorem d_Ro_init_0 : decode b_Ro_init 0 = .ok (.aload_n 0, 1) := by decide +kernel
theorem d_Ro_init_1 : decode b_Ro_init 1 = .ok (.invokespecial 1, 3) := by decide +kernel
theorem d_Ro_init_4 : decode b_Ro_init 4 = .ok (.aload_n 0, 1) := by decide +kernel
theorem d_Ro_init_5 : decode b_Ro_init 5 = .ok (.new 7, 3) := by decide +kernel
theorem d_Ro_init_8 : decode b_Ro_init 8 = .ok (.dup, 1) := by decide +kernel
theorem d_Ro_init_9 : decode b_Ro_init 9 = .ok (.invokespecial 9, 3) := by decide +kernel
theorem d_Ro_init_12 : decode b_Ro_init 12 = .ok (.putfield 10, 3) := by decide +kernel
theorem d_Ro_init_15 : decode b_Ro_init 15 = .ok (.return_, 1) := by decide +kernel
theorem d_Ta_init_0 : decode b_Ta_init 0 = .ok (.aload_n 0, 1) := by decide +kernel
theorem d_Ta_init_1 : decode b_Ta_init 1 = .ok (.invokespecial 3, 3) := by decide +kernel
theorem d_Ta_init_4 : decode b_Ta_init 4 = .ok (.return_, 1) := by decide +kernel
theorem d_So_init_0 : decode b_So_init 0 = .ok (.aload_n 0, 1) := by decide +kernel
theorem d_So_init_1 : decode b_So_init 1 = .ok (.invokespecial 3, 3) := by decide +kernel
theorem d_So_init_4 : decode b_So_init 4 = .ok (.return_, 1) := by decide +kernel
theorem d_Id_init_0 : decode b_Id_init 0 = .ok (.aload_n 0, 1) := by decide +kernel
theorem d_Id_init_1 : decode b_Id_init 1 = .ok (.invokespecial 3, 3) := by decide +kernel
theorem d_Id_init_4 : decode b_Id_init 4 = .ok (.aload_n 0, 1) := by decide +kernel
theorem d_Id_init_5 : decode b_Id_init 5 = .ok (.bipush 16, 2) := by decide +kernel
theorem d_Id_init_7 : decode b_Id_init 7 = .ok (.anewarray 9, 3) := by decide +kernel
theorem d_Id_init_10 : decode b_Id_init 10 = .ok (.putfield 11, 3) := by decide +kernel
theorem d_Id_init_13 : decode b_Id_init 13 = .ok (.return_, 1) := by decide +kernel
theorem d_Pl_init_0 : decode b_Pl_init 0 = .ok (.aload_n 0, 1) := by decide +kernel
theorem d_Pl_init_1 : decode b_Pl_init 1 = .ok (.invokespecial 3, 3) := by decide +kernel
theorem d_Pl_init_4 : decode b_Pl_init 4 = .ok (.return_, 1) := by decide +kernel
theorem d_La_init_0 : decode b_La_init 0 = .ok (.aload_n 0, 1) := by decide +kernel
theorem d_La_init_1 : decode b_La_init 1 = .ok (.invokespecial 3, 3) := by decide +kernel
theorem d_La_init_4 : decode b_La_init 4 = .ok (.return_, 1) := by decide +kernel
theorem d_HM_size_0 : decode b_HM_size 0 = .ok (.iload_n 1, 1) := by decide +kernel
theorem d_HM_size_1 : decode b_HM_size 1 = .ok (.invokestatic 143, 3) := by decide +kernel
theorem d_HM_size_4 : decode b_HM_size 4 = .ok (.ifCond .eq 15, 3) := by decide +kernel
theorem d_HM_size_7 : decode b_HM_size 7 = .ok (.aload_n 0, 1) := by decide +kernel
theorem d_HM_size_8 : decode b_HM_size 8 = .ok (.getfield 32, 3) := by decide +kernel
theorem d_HM_size_11 : decode b_HM_size 11 = .ok (.iload_n 1, 1) := by decide +kernel
theorem d_HM_size_12 : decode b_HM_size 12 = .ok (.aaload, 1) := by decide +kernel
theorem d_HM_size_13 : decode b_HM_size 13 = .ok (.invokevirtual 146, 3) := by decide +kernel
theorem d_HM_size_16 : decode b_HM_size 16 = .ok (.goto 4, 3) := by decide +kernel
theorem d_HM_size_19 : decode b_HM_size 19 = .ok (.iconst (-1), 1) := by decide +kernel
theorem d_HM_size_20 : decode b_HM_size 20 = .ok (.ireturn, 1) := by decide +kernel
theorem d_HM_isMap_0 : decode b_HM_isMap 0 = .ok (.iload_n 0, 1) := by decide +kernel
theorem d_HM_isMap_1 : decode b_HM_isMap 1 = .ok (.ifCond .lt 12, 3) := by decide +kernel
theorem d_HM_isMap_4 : decode b_HM_isMap 4 = .ok (.iload_n 0, 1) := by decide +kernel
theorem d_HM_isMap_5 : decode b_HM_isMap 5 = .ok (.iconst 5, 1) := by decide +kernel
theorem d_HM_isMap_6 : decode b_HM_isMap 6 = .ok (.if_icmp .ge 7, 3) := by decide +kernel
theorem d_HM_isMap_9 : decode b_HM_isMap 9 = .ok (.iconst 1, 1) := by decide +kernel
theorem d_HM_isMap_10 : decode b_HM_isMap 10 = .ok (.goto 4, 3) := by decide +kernel
theorem d_HM_isMap_13 : decode b_HM_isMap 13 = .ok (.iconst 0, 1) := by decide +kernel
theorem d_HM_isMap_14 : decode b_HM_isMap 14 = .ok (.ireturn, 1) := by decide +kernel
theorem d_Id_length_0 : decode b_Id_length 0 = .ok (.aload_n 0, 1) := by decide +kernel
theorem d_Id_length_1 : decode b_Id_length 1 = .ok (.getfield 17, 3) := by decide +kernel
theorem d_Id_length_4 : decode b_Id_length 4 = .ok (.ireturn, 1) := by decide +kernel
theorem d_Ro_length_0 : decode b_Ro_length 0 = .ok (.aload_n 0, 1) := by decide +kernel
theorem d_Ro_length_1 : decode b_Ro_length 1 = .ok (.getfield 10, 3) := by decide +kernel
theorem d_Ro_length_4 : decode b_Ro_length 4 = .ok (.invokevirtual 16, 3) := by decide +kernel
theorem d_Ro_length_7 : decode b_Ro_length 7 = .ok (.ireturn, 1) := by decide +kernel
theorem d_HM_value_0 : decode b_HM_value 0 = .ok (.aload_n 0, 1) := by decide +kernel
theorem d_HM_value_1 : decode b_HM_value 1 = .ok (.getfield 10, 3) := by decide +kernel
theorem d_HM_value_4 : decode b_HM_value 4 = .ok (.iload_n 1, 1) := by decide +kernel
theorem d_HM_value_5 : decode b_HM_value 5 = .ok (.invokevirtual 70, 3) := by decide +kernel
theorem d_HM_value_8 : decode b_HM_value 8 = .ok (.ifCond .eq 18, 3) := by decide +kernel
theorem d_HM_value_11 : decode b_HM_value 11 = .ok (.aload_n 0, 1) := by decide +kernel
theorem d_HM_value_12 : decode b_HM_value 12 = .ok (.getfield 10, 3) := by decide +kernel
theorem d_HM_value_15 : decode b_HM_value 15 = .ok (.getfield 61, 3) := by decide +kernel
theorem d_HM_value_18 : decode b_HM_value 18 = .ok (.iload_n 1, 1) := by decide +kernel
theorem d_HM_value_19 : decode b_HM_value 19 = .ok (.aaload, 1) := by decide +kernel
theorem d_HM_value_20 : decode b_HM_value 20 = .ok (.getfield 94, 3) := by decide +kernel
theorem d_HM_value_23 : decode b_HM_value 23 = .ok (.goto 4, 3) := by decide +kernel
theorem d_HM_value_26 : decode b_HM_value 26 = .ok (.iconst (-1), 1) := by decide +kernel
theorem d_HM_value_27 : decode b_HM_value 27 = .ok (.ireturn, 1) := by decide +kernel
theorem d_He_has_0 : decode b_He_has 0 = .ok (.iload_n 1, 1) := by decide +kernel
theorem d_He_has_1 : decode b_He_has 1 = .ok (.ifCond .lt 22, 3) := by decide +kernel
theorem d_He_has_4 : decode b_He_has 4 = .ok (.iload_n 1, 1) := by decide +kernel
theorem d_He_has_5 : decode b_He_has 5 = .ok (.bipush 32, 2) := by decide +kernel
theorem d_He_has_7 : decode b_He_has 7 = .ok (.if_icmp .ge 16, 3) := by decide +kernel
theorem d_He_has_10 : decode b_He_has 10 = .ok (.aload_n 0, 1) := by decide +kernel
theorem d_He_has_11 : decode b_He_has 11 = .ok (.getfield 11, 3) := by decide +kernel
theorem d_He_has_14 : decode b_He_has 14 = .ok (.iload_n 1, 1) := by decide +kernel
theorem d_He_has_15 : decode b_He_has 15 = .ok (.aaload, 1) := by decide +kernel
theorem d_He_has_16 : decode b_He_has 16 = .ok (.ifnull 7, 3) := by decide +kernel
theorem d_He_has_19 : decode b_He_has 19 = .ok (.iconst 1, 1) := by decide +kernel
theorem d_He_has_20 : decode b_He_has 20 = .ok (.goto 4, 3) := by decide +kernel
theorem d_He_has_23 : decode b_He_has 23 = .ok (.iconst 0, 1) := by decide +kernel
theorem d_He_has_24 : decode b_He_has 24 = .ok (.ireturn, 1) := by decide +kernel
theorem d_HM_count_0 : decode b_HM_count 0 = .ok (.iload_n 1, 1) := by decide +kernel
theorem d_HM_count_1 : decode b_HM_count 1 = .ok (.tableswitch 63 0 3 #[31, 39, 47, 55], 31) := by decide +kernel
theorem d_HM_count_32 : decode b_HM_count 32 = .ok (.aload_n 0, 1) := by decide +kernel
theorem d_HM_count_33 : decode b_HM_count 33 = .ok (.getfield 10, 3) := by decide +kernel
theorem d_HM_count_36 : decode b_HM_count 36 = .ok (.invokevirtual 193, 3) := by decide +kernel
theorem d_HM_count_39 : decode b_HM_count 39 = .ok (.ireturn, 1) := by decide +kernel
theorem d_HM_count_40 : decode b_HM_count 40 = .ok (.aload_n 0, 1) := by decide +kernel
theorem d_HM_count_41 : decode b_HM_count 41 = .ok (.getfield 10, 3) := by decide +kernel
theorem d_HM_count_44 : decode b_HM_count 44 = .ok (.getfield 196, 3) := by decide +kernel
theorem d_HM_count_47 : decode b_HM_count 47 = .ok (.ireturn, 1) := by decide +kernel
theorem d_HM_count_48 : decode b_HM_count 48 = .ok (.aload_n 0, 1) := by decide +kernel
theorem d_HM_count_49 : decode b_HM_count 49 = .ok (.getfield 19, 3) := by decide +kernel
theorem d_HM_count_52 : decode b_HM_count 52 = .ok (.getfield 199, 3) := by decide +kernel
theorem d_HM_count_55 : decode b_HM_count 55 = .ok (.ireturn, 1) := by decide +kernel
theorem d_HM_count_56 : decode b_HM_count 56 = .ok (.aload_n 0, 1) := by decide +kernel
theorem d_HM_count_57 : decode b_HM_count 57 = .ok (.getfield 26, 3) := by decide +kernel
theorem d_HM_count_60 : decode b_HM_count 60 = .ok (.getfield 202, 3) := by decide +kernel
theorem d_HM_count_63 : decode b_HM_count 63 = .ok (.ireturn, 1) := by decide +kernel
theorem d_HM_count_64 : decode b_HM_count 64 = .ok (.iconst (-1), 1) := by decide +kernel
theorem d_HM_count_65 : decode b_HM_count 65 = .ok (.ireturn, 1) := by decide +kernel
theorem d_He_living_0 : decode b_He_living 0 = .ok (.iconst 0, 1) := by decide +kernel
theorem d_He_living_1 : decode b_He_living 1 = .ok (.istore_n 1, 1) := by decide +kernel
theorem d_He_living_2 : decode b_He_living 2 = .ok (.iconst 0, 1) := by decide +kernel
theorem d_He_living_3 : decode b_He_living 3 = .ok (.istore_n 2, 1) := by decide +kernel
theorem d_He_living_4 : decode b_He_living 4 = .ok (.iload_n 2, 1) := by decide +kernel
theorem d_He_living_5 : decode b_He_living 5 = .ok (.bipush 32, 2) := by decide +kernel
theorem d_He_living_7 : decode b_He_living 7 = .ok (.if_icmp .ge 21, 3) := by decide +kernel
theorem d_He_living_10 : decode b_He_living 10 = .ok (.aload_n 0, 1) := by decide +kernel
theorem d_He_living_11 : decode b_He_living 11 = .ok (.getfield 11, 3) := by decide +kernel
theorem d_He_living_14 : decode b_He_living 14 = .ok (.iload_n 2, 1) := by decide +kernel
theorem d_He_living_15 : decode b_He_living 15 = .ok (.aaload, 1) := by decide +kernel
theorem d_He_living_16 : decode b_He_living 16 = .ok (.ifnull 6, 3) := by decide +kernel
theorem d_He_living_19 : decode b_He_living 19 = .ok (.iinc 1 1, 3) := by decide +kernel
theorem d_He_living_22 : decode b_He_living 22 = .ok (.iinc 2 1, 3) := by decide +kernel
theorem d_He_living_25 : decode b_He_living 25 = .ok (.goto (-21), 3) := by decide +kernel
theorem d_He_living_28 : decode b_He_living 28 = .ok (.iload_n 1, 1) := by decide +kernel
theorem d_He_living_29 : decode b_He_living 29 = .ok (.ireturn, 1) := by decide +kernel
theorem d_HM_make_0 : decode b_HM_make 0 = .ok (.iload_n 1, 1) := by decide +kernel
theorem d_HM_make_1 : decode b_HM_make 1 = .ok (.ifCond .lt 9, 3) := by decide +kernel
theorem d_HM_make_4 : decode b_HM_make 4 = .ok (.iload_n 1, 1) := by decide +kernel
theorem d_HM_make_5 : decode b_HM_make 5 = .ok (.bipush 99, 2) := by decide +kernel
theorem d_HM_make_7 : decode b_HM_make 7 = .ok (.if_icmp .le 13, 3) := by decide +kernel
theorem d_HM_make_10 : decode b_HM_make 10 = .ok (.new 45, 3) := by decide +kernel
theorem d_HM_make_13 : decode b_HM_make 13 = .ok (.dup, 1) := by decide +kernel
theorem d_HM_make_14 : decode b_HM_make 14 = .ok (.ldc 47, 2) := by decide +kernel
theorem d_HM_make_16 : decode b_HM_make 16 = .ok (.invokespecial 49, 3) := by decide +kernel
theorem d_HM_make_19 : decode b_HM_make 19 = .ok (.athrow, 1) := by decide +kernel
theorem d_HM_make_20 : decode b_HM_make 20 = .ok (.aload_n 0, 1) := by decide +kernel
theorem d_HM_make_21 : decode b_HM_make 21 = .ok (.getfield 10, 3) := by decide +kernel
theorem d_HM_make_24 : decode b_HM_make 24 = .ok (.invokevirtual 52, 3) := by decide +kernel
theorem d_HM_make_27 : decode b_HM_make 27 = .ok (.istore_n 2, 1) := by decide +kernel
theorem d_HM_make_28 : decode b_HM_make 28 = .ok (.iload_n 2, 1) := by decide +kernel
theorem d_HM_make_29 : decode b_HM_make 29 = .ok (.iconst (-1), 1) := by decide +kernel
theorem d_HM_make_30 : decode b_HM_make 30 = .ok (.if_icmp .ne 13, 3) := by decide +kernel
theorem d_HM_make_33 : decode b_HM_make 33 = .ok (.new 56, 3) := by decide +kernel
theorem d_HM_make_36 : decode b_HM_make 36 = .ok (.dup, 1) := by decide +kernel
theorem d_HM_make_37 : decode b_HM_make 37 = .ok (.ldc 58, 2) := by decide +kernel
theorem d_HM_make_39 : decode b_HM_make 39 = .ok (.invokespecial 60, 3) := by decide +kernel
theorem d_HM_make_42 : decode b_HM_make 42 = .ok (.athrow, 1) := by decide +kernel
theorem d_HM_make_43 : decode b_HM_make 43 = .ok (.aload_n 0, 1) := by decide +kernel
theorem d_HM_make_44 : decode b_HM_make 44 = .ok (.getfield 10, 3) := by decide +kernel
theorem d_HM_make_47 : decode b_HM_make 47 = .ok (.getfield 61, 3) := by decide +kernel
theorem d_HM_make_50 : decode b_HM_make 50 = .ok (.iload_n 2, 1) := by decide +kernel
theorem d_HM_make_51 : decode b_HM_make 51 = .ok (.new 65, 3) := by decide +kernel
theorem d_HM_make_54 : decode b_HM_make 54 = .ok (.dup, 1) := by decide +kernel
theorem d_HM_make_55 : decode b_HM_make 55 = .ok (.iload_n 1, 1) := by decide +kernel
theorem d_HM_make_56 : decode b_HM_make 56 = .ok (.invokespecial 67, 3) := by decide +kernel
theorem d_HM_make_59 : decode b_HM_make 59 = .ok (.aastore, 1) := by decide +kernel
theorem d_HM_make_60 : decode b_HM_make 60 = .ok (.iload_n 2, 1) := by decide +kernel
theorem d_HM_make_61 : decode b_HM_make 61 = .ok (.ireturn, 1) := by decide +kernel
theorem d_He_lowestFree_0 : decode b_He_lowestFree 0 = .ok (.iconst 0, 1) := by decide +kernel
theorem d_He_lowestFree_1 : decode b_He_lowestFree 1 = .ok (.istore_n 1, 1) := by decide +kernel
theorem d_He_lowestFree_2 : decode b_He_lowestFree 2 = .ok (.iload_n 1, 1) := by decide +kernel
theorem d_He_lowestFree_3 : decode b_He_lowestFree 3 = .ok (.bipush 32, 2) := by decide +kernel
theorem d_He_lowestFree_5 : decode b_He_lowestFree 5 = .ok (.if_icmp .ge 20, 3) := by decide +kernel
theorem d_He_lowestFree_8 : decode b_He_lowestFree 8 = .ok (.aload_n 0, 1) := by decide +kernel
theorem d_He_lowestFree_9 : decode b_He_lowestFree 9 = .ok (.getfield 11, 3) := by decide +kernel
theorem d_He_lowestFree_12 : decode b_He_lowestFree 12 = .ok (.iload_n 1, 1) := by decide +kernel
theorem d_He_lowestFree_13 : decode b_He_lowestFree 13 = .ok (.aaload, 1) := by decide +kernel
theorem d_He_lowestFree_14 : decode b_He_lowestFree 14 = .ok (.ifnonnull 5, 3) := by decide +kernel
theorem d_He_lowestFree_17 : decode b_He_lowestFree 17 = .ok (.iload_n 1, 1) := by decide +kernel
theorem d_He_lowestFree_18 : decode b_He_lowestFree 18 = .ok (.ireturn, 1) := by decide +kernel
theorem d_He_lowestFree_19 : decode b_He_lowestFree 19 = .ok (.iinc 1 1, 3) := by decide +kernel
theorem d_He_lowestFree_22 : decode b_He_lowestFree 22 = .ok (.goto (-20), 3) := by decide +kernel
theorem d_He_lowestFree_25 : decode b_He_lowestFree 25 = .ok (.iconst (-1), 1) := by decide +kernel
theorem d_He_lowestFree_26 : decode b_He_lowestFree 26 = .ok (.ireturn, 1) := by decide +kernel
theorem d_Th_init_0 : decode b_Th_init 0 = .ok (.aload_n 0, 1) := by decide +kernel
theorem d_Th_init_1 : decode b_Th_init 1 = .ok (.invokespecial 3, 3) := by decide +kernel
theorem d_Th_init_4 : decode b_Th_init 4 = .ok (.aload_n 0, 1) := by decide +kernel
theorem d_Th_init_5 : decode b_Th_init 5 = .ok (.iload_n 1, 1) := by decide +kernel
theorem d_Th_init_6 : decode b_Th_init 6 = .ok (.putfield 9, 3) := by decide +kernel
theorem d_Th_init_9 : decode b_Th_init 9 = .ok (.aload_n 0, 1) := by decide +kernel
theorem d_Th_init_10 : decode b_Th_init 10 = .ok (.iconst 2, 1) := by decide +kernel
theorem d_Th_init_11 : decode b_Th_init 11 = .ok (.newarray .int, 2) := by decide +kernel
theorem d_Th_init_13 : decode b_Th_init 13 = .ok (.dup, 1) := by decide +kernel
theorem d_Th_init_14 : decode b_Th_init 14 = .ok (.iconst 0, 1) := by decide +kernel
theorem d_Th_init_15 : decode b_Th_init 15 = .ok (.iconst (-1), 1) := by decide +kernel
theorem d_Th_init_16 : decode b_Th_init 16 = .ok (.iastore, 1) := by decide +kernel
theorem d_Th_init_17 : decode b_Th_init 17 = .ok (.dup, 1) := by decide +kernel
theorem d_Th_init_18 : decode b_Th_init 18 = .ok (.iconst 1, 1) := by decide +kernel
theorem d_Th_init_19 : decode b_Th_init 19 = .ok (.iconst (-1), 1) := by decide +kernel
theorem d_Th_init_20 : decode b_Th_init 20 = .ok (.iastore, 1) := by decide +kernel
theorem d_Th_init_21 : decode b_Th_init 21 = .ok (.putfield 15, 3) := by decide +kernel
theorem d_Th_init_24 : decode b_Th_init 24 = .ok (.return_, 1) := by decide +kernel
theorem d_HM_refer_0 : decode b_HM_refer 0 = .ok (.aload_n 0, 1) := by decide +kernel
theorem d_HM_refer_1 : decode b_HM_refer 1 = .ok (.getfield 10, 3) := by decide +kernel
theorem d_HM_refer_4 : decode b_HM_refer 4 = .ok (.iload_n 1, 1) := by decide +kernel
theorem d_HM_refer_5 : decode b_HM_refer 5 = .ok (.invokevirtual 70, 3) := by decide +kernel
theorem d_HM_refer_8 : decode b_HM_refer 8 = .ok (.ifCond .eq 12, 3) := by decide +kernel
theorem d_HM_refer_11 : decode b_HM_refer 11 = .ok (.iload_n 2, 1) := by decide +kernel
theorem d_HM_refer_12 : decode b_HM_refer 12 = .ok (.ifCond .lt 8, 3) := by decide +kernel
theorem d_HM_refer_15 : decode b_HM_refer 15 = .ok (.iload_n 2, 1) := by decide +kernel
theorem d_HM_refer_16 : decode b_HM_refer 16 = .ok (.iconst 2, 1) := by decide +kernel
theorem d_HM_refer_17 : decode b_HM_refer 17 = .ok (.if_icmp .lt 13, 3) := by decide +kernel
theorem d_HM_refer_20 : decode b_HM_refer 20 = .ok (.new 45, 3) := by decide +kernel
theorem d_HM_refer_23 : decode b_HM_refer 23 = .ok (.dup, 1) := by decide +kernel
theorem d_HM_refer_24 : decode b_HM_refer 24 = .ok (.ldc 74, 2) := by decide +kernel
theorem d_HM_refer_26 : decode b_HM_refer 26 = .ok (.invokespecial 49, 3) := by decide +kernel
theorem d_HM_refer_29 : decode b_HM_refer 29 = .ok (.athrow, 1) := by decide +kernel
theorem d_HM_refer_30 : decode b_HM_refer 30 = .ok (.iload_n 3, 1) := by decide +kernel
theorem d_HM_refer_31 : decode b_HM_refer 31 = .ok (.iconst (-1), 1) := by decide +kernel
theorem d_HM_refer_32 : decode b_HM_refer 32 = .ok (.if_icmp .eq 24, 3) := by decide +kernel
theorem d_HM_refer_35 : decode b_HM_refer 35 = .ok (.aload_n 0, 1) := by decide +kernel
theorem d_HM_refer_36 : decode b_HM_refer 36 = .ok (.getfield 10, 3) := by decide +kernel
theorem d_HM_refer_39 : decode b_HM_refer 39 = .ok (.iload_n 3, 1) := by decide +kernel
theorem d_HM_refer_40 : decode b_HM_refer 40 = .ok (.invokevirtual 70, 3) := by decide +kernel
theorem d_HM_refer_43 : decode b_HM_refer 43 = .ok (.ifCond .ne 13, 3) := by decide +kernel
theorem d_HM_refer_46 : decode b_HM_refer 46 = .ok (.new 45, 3) := by decide +kernel
theorem d_HM_refer_49 : decode b_HM_refer 49 = .ok (.dup, 1) := by decide +kernel
theorem d_HM_refer_50 : decode b_HM_refer 50 = .ok (.ldc 76, 2) := by decide +kernel
theorem d_HM_refer_52 : decode b_HM_refer 52 = .ok (.invokespecial 49, 3) := by decide +kernel
theorem d_HM_refer_55 : decode b_HM_refer 55 = .ok (.athrow, 1) := by decide +kernel
theorem d_HM_refer_56 : decode b_HM_refer 56 = .ok (.aload_n 0, 1) := by decide +kernel
theorem d_HM_refer_57 : decode b_HM_refer 57 = .ok (.getfield 10, 3) := by decide +kernel
theorem d_HM_refer_60 : decode b_HM_refer 60 = .ok (.getfield 61, 3) := by decide +kernel
theorem d_HM_refer_63 : decode b_HM_refer 63 = .ok (.iload_n 1, 1) := by decide +kernel
theorem d_HM_refer_64 : decode b_HM_refer 64 = .ok (.aaload, 1) := by decide +kernel
theorem d_HM_refer_65 : decode b_HM_refer 65 = .ok (.getfield 78, 3) := by decide +kernel
theorem d_HM_refer_68 : decode b_HM_refer 68 = .ok (.astore 4, 2) := by decide +kernel
theorem d_HM_refer_70 : decode b_HM_refer 70 = .ok (.aload 4, 2) := by decide +kernel
theorem d_HM_refer_72 : decode b_HM_refer 72 = .ok (.iload_n 2, 1) := by decide +kernel
theorem d_HM_refer_73 : decode b_HM_refer 73 = .ok (.iaload, 1) := by decide +kernel
theorem d_HM_refer_74 : decode b_HM_refer 74 = .ok (.istore 5, 2) := by decide +kernel
theorem d_HM_refer_76 : decode b_HM_refer 76 = .ok (.aload 4, 2) := by decide +kernel
theorem d_HM_refer_78 : decode b_HM_refer 78 = .ok (.iload_n 2, 1) := by decide +kernel
theorem d_HM_refer_79 : decode b_HM_refer 79 = .ok (.iload_n 3, 1) := by decide +kernel
theorem d_HM_refer_80 : decode b_HM_refer 80 = .ok (.iastore, 1) := by decide +kernel
theorem d_HM_refer_81 : decode b_HM_refer 81 = .ok (.iload 5, 2) := by decide +kernel
theorem d_HM_refer_83 : decode b_HM_refer 83 = .ok (.ireturn, 1) := by decide +kernel
theorem d_HM_root_0 : decode b_HM_root 0 = .ok (.aload_n 0, 1) := by decide +kernel
theorem d_HM_root_1 : decode b_HM_root 1 = .ok (.getfield 10, 3) := by decide +kernel
theorem d_HM_root_4 : decode b_HM_root 4 = .ok (.iload_n 1, 1) := by decide +kernel
theorem d_HM_root_5 : decode b_HM_root 5 = .ok (.invokevirtual 70, 3) := by decide +kernel
theorem d_HM_root_8 : decode b_HM_root 8 = .ok (.ifCond .ne 13, 3) := by decide +kernel
theorem d_HM_root_11 : decode b_HM_root 11 = .ok (.new 45, 3) := by decide +kernel
theorem d_HM_root_14 : decode b_HM_root 14 = .ok (.dup, 1) := by decide +kernel
theorem d_HM_root_15 : decode b_HM_root 15 = .ok (.ldc 82, 2) := by decide +kernel
theorem d_HM_root_17 : decode b_HM_root 17 = .ok (.invokespecial 49, 3) := by decide +kernel
theorem d_HM_root_20 : decode b_HM_root 20 = .ok (.athrow, 1) := by decide +kernel
theorem d_HM_root_21 : decode b_HM_root 21 = .ok (.aload_n 0, 1) := by decide +kernel
theorem d_HM_root_22 : decode b_HM_root 22 = .ok (.getfield 10, 3) := by decide +kernel
theorem d_HM_root_25 : decode b_HM_root 25 = .ok (.getfield 61, 3) := by decide +kernel
theorem d_HM_root_28 : decode b_HM_root 28 = .ok (.iload_n 1, 1) := by decide +kernel
theorem d_HM_root_29 : decode b_HM_root 29 = .ok (.aaload, 1) := by decide +kernel
theorem d_HM_root_30 : decode b_HM_root 30 = .ok (.astore_n 3, 1) := by decide +kernel
theorem d_HM_root_31 : decode b_HM_root 31 = .ok (.aload_n 3, 1) := by decide +kernel
theorem d_HM_root_32 : decode b_HM_root 32 = .ok (.getfield 84, 3) := by decide +kernel
theorem d_HM_root_35 : decode b_HM_root 35 = .ok (.istore 4, 2) := by decide +kernel
theorem d_HM_root_37 : decode b_HM_root 37 = .ok (.aload_n 3, 1) := by decide +kernel
theorem d_HM_root_38 : decode b_HM_root 38 = .ok (.iload_n 2, 1) := by decide +kernel
theorem d_HM_root_39 : decode b_HM_root 39 = .ok (.putfield 84, 3) := by decide +kernel
theorem d_HM_root_42 : decode b_HM_root 42 = .ok (.iload 4, 2) := by decide +kernel
theorem d_HM_root_44 : decode b_HM_root 44 = .ok (.ireturn, 1) := by decide +kernel
theorem d_HM_put_0 : decode b_HM_put 0 = .ok (.aload_n 0, 1) := by decide +kernel
theorem d_HM_put_1 : decode b_HM_put 1 = .ok (.iload_n 1, 1) := by decide +kernel
theorem d_HM_put_2 : decode b_HM_put 2 = .ok (.iload_n 2, 1) := by decide +kernel
theorem d_HM_put_3 : decode b_HM_put 3 = .ok (.invokevirtual 88, 3) := by decide +kernel
theorem d_HM_put_6 : decode b_HM_put 6 = .ok (.ifCond .eq 14, 3) := by decide +kernel
theorem d_HM_put_9 : decode b_HM_put 9 = .ok (.aload_n 0, 1) := by decide +kernel
theorem d_HM_put_10 : decode b_HM_put 10 = .ok (.getfield 10, 3) := by decide +kernel
theorem d_HM_put_13 : decode b_HM_put 13 = .ok (.iload_n 3, 1) := by decide +kernel
theorem d_HM_put_14 : decode b_HM_put 14 = .ok (.invokevirtual 70, 3) := by decide +kernel
theorem d_HM_put_17 : decode b_HM_put 17 = .ok (.ifCond .ne 13, 3) := by decide +kernel
theorem d_HM_put_20 : decode b_HM_put 20 = .ok (.new 45, 3) := by decide +kernel
theorem d_HM_put_23 : decode b_HM_put 23 = .ok (.dup, 1) := by decide +kernel
theorem d_HM_put_24 : decode b_HM_put 24 = .ok (.ldc 92, 2) := by decide +kernel
theorem d_HM_put_26 : decode b_HM_put 26 = .ok (.invokespecial 49, 3) := by decide +kernel
theorem d_HM_put_29 : decode b_HM_put 29 = .ok (.athrow, 1) := by decide +kernel
theorem d_HM_put_30 : decode b_HM_put 30 = .ok (.aload_n 0, 1) := by decide +kernel
theorem d_HM_put_31 : decode b_HM_put 31 = .ok (.getfield 32, 3) := by decide +kernel
theorem d_HM_put_34 : decode b_HM_put 34 = .ok (.iload_n 1, 1) := by decide +kernel
theorem d_HM_put_35 : decode b_HM_put 35 = .ok (.aaload, 1) := by decide +kernel
theorem d_HM_put_36 : decode b_HM_put 36 = .ok (.astore 4, 2) := by decide +kernel
theorem d_HM_put_38 : decode b_HM_put 38 = .ok (.aload_n 0, 1) := by decide +kernel
theorem d_HM_put_39 : decode b_HM_put 39 = .ok (.getfield 10, 3) := by decide +kernel
theorem d_HM_put_42 : decode b_HM_put 42 = .ok (.getfield 61, 3) := by decide +kernel
theorem d_HM_put_45 : decode b_HM_put 45 = .ok (.iload_n 2, 1) := by decide +kernel
theorem d_HM_put_46 : decode b_HM_put 46 = .ok (.aaload, 1) := by decide +kernel
theorem d_HM_put_47 : decode b_HM_put 47 = .ok (.getfield 94, 3) := by decide +kernel
theorem d_HM_put_50 : decode b_HM_put 50 = .ok (.istore 5, 2) := by decide +kernel
theorem d_HM_put_52 : decode b_HM_put 52 = .ok (.aload 4, 2) := by decide +kernel
theorem d_HM_put_54 : decode b_HM_put 54 = .ok (.iload_n 2, 1) := by decide +kernel
theorem d_HM_put_55 : decode b_HM_put 55 = .ok (.iload 5, 2) := by decide +kernel
theorem d_HM_put_57 : decode b_HM_put 57 = .ok (.invokevirtual 98, 3) := by decide +kernel
theorem d_HM_put_60 : decode b_HM_put 60 = .ok (.istore 6, 2) := by decide +kernel
theorem d_HM_put_62 : decode b_HM_put 62 = .ok (.aload 4, 2) := by decide +kernel
theorem d_HM_put_64 : decode b_HM_put 64 = .ok (.iload 6, 2) := by decide +kernel
theorem d_HM_put_66 : decode b_HM_put 66 = .ok (.invokevirtual 102, 3) := by decide +kernel
theorem d_HM_put_69 : decode b_HM_put 69 = .ok (.istore 7, 2) := by decide +kernel
theorem d_HM_put_71 : decode b_HM_put 71 = .ok (.aload 4, 2) := by decide +kernel
theorem d_HM_put_73 : decode b_HM_put 73 = .ok (.iload 7, 2) := by decide +kernel
theorem d_HM_put_75 : decode b_HM_put 75 = .ok (.invokevirtual 106, 3) := by decide +kernel
theorem d_HM_put_78 : decode b_HM_put 78 = .ok (.astore 8, 2) := by decide +kernel
theorem d_HM_put_80 : decode b_HM_put 80 = .ok (.aload 8, 2) := by decide +kernel
theorem d_HM_put_82 : decode b_HM_put 82 = .ok (.ifnonnull 21, 3) := by decide +kernel
theorem d_HM_put_85 : decode b_HM_put 85 = .ok (.aload 4, 2) := by decide +kernel
theorem d_HM_put_87 : decode b_HM_put 87 = .ok (.invokevirtual 110, 3) := by decide +kernel
theorem d_HM_put_90 : decode b_HM_put 90 = .ok (.ifCond .eq 13, 3) := by decide +kernel
theorem d_HM_put_93 : decode b_HM_put 93 = .ok (.new 56, 3) := by decide +kernel
theorem d_HM_put_96 : decode b_HM_put 96 = .ok (.dup, 1) := by decide +kernel
theorem d_HM_put_97 : decode b_HM_put 97 = .ok (.ldc 114, 2) := by decide +kernel
theorem d_HM_put_99 : decode b_HM_put 99 = .ok (.invokespecial 60, 3) := by decide +kernel
theorem d_HM_put_102 : decode b_HM_put 102 = .ok (.athrow, 1) := by decide +kernel
theorem d_HM_put_103 : decode b_HM_put 103 = .ok (.aload 4, 2) := by decide +kernel
theorem d_HM_put_105 : decode b_HM_put 105 = .ok (.invokevirtual 116, 3) := by decide +kernel
theorem d_HM_put_108 : decode b_HM_put 108 = .ok (.aload 8, 2) := by decide +kernel
theorem d_HM_put_110 : decode b_HM_put 110 = .ok (.ifnonnull 28, 3) := by decide +kernel
theorem d_HM_put_113 : decode b_HM_put 113 = .ok (.aload 4, 2) := by decide +kernel
theorem d_HM_put_115 : decode b_HM_put 115 = .ok (.new 119, 3) := by decide +kernel
theorem d_HM_put_118 : decode b_HM_put 118 = .ok (.dup, 1) := by decide +kernel
theorem d_HM_put_119 : decode b_HM_put 119 = .ok (.aload 4, 2) := by decide +kernel
theorem d_HM_put_121 : decode b_HM_put 121 = .ok (.iload_n 2, 1) := by decide +kernel
theorem d_HM_put_122 : decode b_HM_put 122 = .ok (.iload 5, 2) := by decide +kernel
theorem d_HM_put_124 : decode b_HM_put 124 = .ok (.invokevirtual 121, 3) := by decide +kernel
theorem d_HM_put_127 : decode b_HM_put 127 = .ok (.iload 6, 2) := by decide +kernel
theorem d_HM_put_129 : decode b_HM_put 129 = .ok (.iload_n 3, 1) := by decide +kernel
theorem d_HM_put_130 : decode b_HM_put 130 = .ok (.invokespecial 124, 3) := by decide +kernel
theorem d_HM_put_133 : decode b_HM_put 133 = .ok (.invokevirtual 127, 3) := by decide +kernel
theorem d_HM_put_136 : decode b_HM_put 136 = .ok (.iconst (-1), 1) := by decide +kernel
theorem d_HM_put_137 : decode b_HM_put 137 = .ok (.ireturn, 1) := by decide +kernel
theorem d_HM_put_138 : decode b_HM_put 138 = .ok (.aload 8, 2) := by decide +kernel
theorem d_HM_put_140 : decode b_HM_put 140 = .ok (.getfield 131, 3) := by decide +kernel
theorem d_HM_put_143 : decode b_HM_put 143 = .ok (.istore 9, 2) := by decide +kernel
theorem d_HM_put_145 : decode b_HM_put 145 = .ok (.aload 8, 2) := by decide +kernel
theorem d_HM_put_147 : decode b_HM_put 147 = .ok (.iload_n 3, 1) := by decide +kernel
theorem d_HM_put_148 : decode b_HM_put 148 = .ok (.putfield 131, 3) := by decide +kernel
theorem d_HM_put_151 : decode b_HM_put 151 = .ok (.aload 4, 2) := by decide +kernel
theorem d_HM_put_153 : decode b_HM_put 153 = .ok (.iload 7, 2) := by decide +kernel
theorem d_HM_put_155 : decode b_HM_put 155 = .ok (.invokevirtual 132, 3) := by decide +kernel
theorem d_HM_put_158 : decode b_HM_put 158 = .ok (.iload 9, 2) := by decide +kernel
theorem d_HM_put_160 : decode b_HM_put 160 = .ok (.ireturn, 1) := by decide +kernel
theorem d_HM_isKeyOf_0 : decode b_HM_isKeyOf 0 = .ok (.iload_n 1, 1) := by decide +kernel
theorem d_HM_isKeyOf_1 : decode b_HM_isKeyOf 1 = .ok (.invokestatic 143, 3) := by decide +kernel
theorem d_HM_isKeyOf_4 : decode b_HM_isKeyOf 4 = .ok (.ifCond .eq 42, 3) := by decide +kernel
theorem d_HM_isKeyOf_7 : decode b_HM_isKeyOf 7 = .ok (.aload_n 0, 1) := by decide +kernel
theorem d_HM_isKeyOf_8 : decode b_HM_isKeyOf 8 = .ok (.getfield 10, 3) := by decide +kernel
theorem d_HM_isKeyOf_11 : decode b_HM_isKeyOf 11 = .ok (.iload_n 2, 1) := by decide +kernel
theorem d_HM_isKeyOf_12 : decode b_HM_isKeyOf 12 = .ok (.invokevirtual 70, 3) := by decide +kernel
theorem d_HM_isKeyOf_15 : decode b_HM_isKeyOf 15 = .ok (.ifCond .eq 31, 3) := by decide +kernel
theorem d_HM_isKeyOf_18 : decode b_HM_isKeyOf 18 = .ok (.aload_n 0, 1) := by decide +kernel
theorem d_HM_isKeyOf_19 : decode b_HM_isKeyOf 19 = .ok (.getfield 32, 3) := by decide +kernel
theorem d_HM_isKeyOf_22 : decode b_HM_isKeyOf 22 = .ok (.iload_n 1, 1) := by decide +kernel
theorem d_HM_isKeyOf_23 : decode b_HM_isKeyOf 23 = .ok (.aaload, 1) := by decide +kernel
theorem d_HM_isKeyOf_24 : decode b_HM_isKeyOf 24 = .ok (.aload_n 0, 1) := by decide +kernel
theorem d_HM_isKeyOf_25 : decode b_HM_isKeyOf 25 = .ok (.getfield 10, 3) := by decide +kernel
theorem d_HM_isKeyOf_28 : decode b_HM_isKeyOf 28 = .ok (.getfield 61, 3) := by decide +kernel
theorem d_HM_isKeyOf_31 : decode b_HM_isKeyOf 31 = .ok (.iload_n 2, 1) := by decide +kernel
theorem d_HM_isKeyOf_32 : decode b_HM_isKeyOf 32 = .ok (.aaload, 1) := by decide +kernel
theorem d_HM_isKeyOf_33 : decode b_HM_isKeyOf 33 = .ok (.getfield 94, 3) := by decide +kernel
theorem d_HM_isKeyOf_36 : decode b_HM_isKeyOf 36 = .ok (.invokevirtual 205, 3) := by decide +kernel
theorem d_HM_isKeyOf_39 : decode b_HM_isKeyOf 39 = .ok (.ifCond .eq 7, 3) := by decide +kernel
theorem d_HM_isKeyOf_42 : decode b_HM_isKeyOf 42 = .ok (.iconst 1, 1) := by decide +kernel
theorem d_HM_isKeyOf_43 : decode b_HM_isKeyOf 43 = .ok (.goto 4, 3) := by decide +kernel
theorem d_HM_isKeyOf_46 : decode b_HM_isKeyOf 46 = .ok (.iconst 0, 1) := by decide +kernel
theorem d_HM_isKeyOf_47 : decode b_HM_isKeyOf 47 = .ok (.ireturn, 1) := by decide +kernel
theorem d_Pl_takes_0 : decode b_Pl_takes 0 = .ok (.iload_n 1, 1) := by decide +kernel
theorem d_Pl_takes_1 : decode b_Pl_takes 1 = .ok (.bipush 8, 2) := by decide +kernel
theorem d_Pl_takes_3 : decode b_Pl_takes 3 = .ok (.if_icmp .ge 7, 3) := by decide +kernel
theorem d_Pl_takes_6 : decode b_Pl_takes 6 = .ok (.iconst 1, 1) := by decide +kernel
theorem d_Pl_takes_7 : decode b_Pl_takes 7 = .ok (.goto 4, 3) := by decide +kernel
theorem d_Pl_takes_10 : decode b_Pl_takes 10 = .ok (.iconst 0, 1) := by decide +kernel
theorem d_Pl_takes_11 : decode b_Pl_takes 11 = .ok (.ireturn, 1) := by decide +kernel
theorem d_Ta_takes_0 : decode b_Ta_takes 0 = .ok (.iconst 1, 1) := by decide +kernel
theorem d_Ta_takes_1 : decode b_Ta_takes 1 = .ok (.ireturn, 1) := by decide +kernel
theorem d_Id_markOf_0 : decode b_Id_markOf 0 = .ok (.iload_n 1, 1) := by decide +kernel
theorem d_Id_markOf_1 : decode b_Id_markOf 1 = .ok (.ireturn, 1) := by decide +kernel
theorem d_Ta_markOf_0 : decode b_Ta_markOf 0 = .ok (.iload_n 2, 1) := by decide +kernel
theorem d_Ta_markOf_1 : decode b_Ta_markOf 1 = .ok (.ireturn, 1) := by decide +kernel
theorem d_Ta_find_0 : decode b_Ta_find 0 = .ok (.iconst 0, 1) := by decide +kernel
theorem d_Ta_find_1 : decode b_Ta_find 1 = .ok (.istore_n 2, 1) := by decide +kernel
theorem d_Ta_find_2 : decode b_Ta_find 2 = .ok (.iload_n 2, 1) := by decide +kernel
theorem d_Ta_find_3 : decode b_Ta_find 3 = .ok (.aload_n 0, 1) := by decide +kernel
theorem d_Ta_find_4 : decode b_Ta_find 4 = .ok (.invokevirtual 24, 3) := by decide +kernel
theorem d_Ta_find_7 : decode b_Ta_find 7 = .ok (.if_icmp .ge 29, 3) := by decide +kernel
theorem d_Ta_find_10 : decode b_Ta_find 10 = .ok (.aload_n 0, 1) := by decide +kernel
theorem d_Ta_find_11 : decode b_Ta_find 11 = .ok (.iload_n 2, 1) := by decide +kernel
theorem d_Ta_find_12 : decode b_Ta_find 12 = .ok (.invokevirtual 9, 3) := by decide +kernel
theorem d_Ta_find_15 : decode b_Ta_find 15 = .ok (.astore_n 3, 1) := by decide +kernel
theorem d_Ta_find_16 : decode b_Ta_find 16 = .ok (.aload_n 3, 1) := by decide +kernel
theorem d_Ta_find_17 : decode b_Ta_find 17 = .ok (.ifnull 13, 3) := by decide +kernel
theorem d_Ta_find_20 : decode b_Ta_find 20 = .ok (.aload_n 3, 1) := by decide +kernel
theorem d_Ta_find_21 : decode b_Ta_find 21 = .ok (.getfield 28, 3) := by decide +kernel
theorem d_Ta_find_24 : decode b_Ta_find 24 = .ok (.iload_n 1, 1) := by decide +kernel
theorem d_Ta_find_25 : decode b_Ta_find 25 = .ok (.if_icmp .ne 5, 3) := by decide +kernel
theorem d_Ta_find_28 : decode b_Ta_find 28 = .ok (.iload_n 2, 1) := by decide +kernel
theorem d_Ta_find_29 : decode b_Ta_find 29 = .ok (.ireturn, 1) := by decide +kernel
theorem d_Ta_find_30 : decode b_Ta_find 30 = .ok (.iinc 2 1, 3) := by decide +kernel
theorem d_Ta_find_33 : decode b_Ta_find 33 = .ok (.goto (-31), 3) := by decide +kernel
theorem d_Ta_find_36 : decode b_Ta_find 36 = .ok (.iconst (-1), 1) := by decide +kernel
theorem d_Ta_find_37 : decode b_Ta_find 37 = .ok (.ireturn, 1) := by decide +kernel
theorem d_Id_entryAt_0 : decode b_Id_entryAt 0 = .ok (.aload_n 0, 1) := by decide +kernel
theorem d_Id_entryAt_1 : decode b_Id_entryAt 1 = .ok (.iload_n 1, 1) := by decide +kernel
theorem d_Id_entryAt_2 : decode b_Id_entryAt 2 = .ok (.invokevirtual 21, 3) := by decide +kernel
theorem d_Id_entryAt_5 : decode b_Id_entryAt 5 = .ok (.istore_n 2, 1) := by decide +kernel
theorem d_Id_entryAt_6 : decode b_Id_entryAt 6 = .ok (.iload_n 2, 1) := by decide +kernel
theorem d_Id_entryAt_7 : decode b_Id_entryAt 7 = .ok (.iconst (-1), 1) := by decide +kernel
theorem d_Id_entryAt_8 : decode b_Id_entryAt 8 = .ok (.if_icmp .ne 7, 3) := by decide +kernel
theorem d_Id_entryAt_11 : decode b_Id_entryAt 11 = .ok (.aconst_null, 1) := by decide +kernel
theorem d_Id_entryAt_12 : decode b_Id_entryAt 12 = .ok (.goto 9, 3) := by decide +kernel
theorem d_Id_entryAt_15 : decode b_Id_entryAt 15 = .ok (.aload_n 0, 1) := by decide +kernel
theorem d_Id_entryAt_16 : decode b_Id_entryAt 16 = .ok (.getfield 11, 3) := by decide +kernel
theorem d_Id_entryAt_19 : decode b_Id_entryAt 19 = .ok (.iload_n 2, 1) := by decide +kernel
theorem d_Id_entryAt_20 : decode b_Id_entryAt 20 = .ok (.aaload, 1) := by decide +kernel
theorem d_Id_entryAt_21 : decode b_Id_entryAt 21 = .ok (.areturn, 1) := by decide +kernel
theorem d_Id_slotOf_0 : decode b_Id_slotOf 0 = .ok (.iconst 0, 1) := by decide +kernel
theorem d_Id_slotOf_1 : decode b_Id_slotOf 1 = .ok (.istore_n 2, 1) := by decide +kernel
theorem d_Id_slotOf_2 : decode b_Id_slotOf 2 = .ok (.iconst 0, 1) := by decide +kernel
theorem d_Id_slotOf_3 : decode b_Id_slotOf 3 = .ok (.istore_n 3, 1) := by decide +kernel
theorem d_Id_slotOf_4 : decode b_Id_slotOf 4 = .ok (.iload_n 3, 1) := by decide +kernel
theorem d_Id_slotOf_5 : decode b_Id_slotOf 5 = .ok (.bipush 16, 2) := by decide +kernel
theorem d_Id_slotOf_7 : decode b_Id_slotOf 7 = .ok (.if_icmp .ge 28, 3) := by decide +kernel
theorem d_Id_slotOf_10 : decode b_Id_slotOf 10 = .ok (.aload_n 0, 1) := by decide +kernel
theorem d_Id_slotOf_11 : decode b_Id_slotOf 11 = .ok (.getfield 11, 3) := by decide +kernel
theorem d_Id_slotOf_14 : decode b_Id_slotOf 14 = .ok (.iload_n 3, 1) := by decide +kernel
theorem d_Id_slotOf_15 : decode b_Id_slotOf 15 = .ok (.aaload, 1) := by decide +kernel
theorem d_Id_slotOf_16 : decode b_Id_slotOf 16 = .ok (.ifnull 13, 3) := by decide +kernel
theorem d_Id_slotOf_19 : decode b_Id_slotOf 19 = .ok (.iload_n 2, 1) := by decide +kernel
theorem d_Id_slotOf_20 : decode b_Id_slotOf 20 = .ok (.iload_n 1, 1) := by decide +kernel
theorem d_Id_slotOf_21 : decode b_Id_slotOf 21 = .ok (.if_icmp .ne 5, 3) := by decide +kernel
theorem d_Id_slotOf_24 : decode b_Id_slotOf 24 = .ok (.iload_n 3, 1) := by decide +kernel
theorem d_Id_slotOf_25 : decode b_Id_slotOf 25 = .ok (.ireturn, 1) := by decide +kernel
theorem d_Id_slotOf_26 : decode b_Id_slotOf 26 = .ok (.iinc 2 1, 3) := by decide +kernel
theorem d_Id_slotOf_29 : decode b_Id_slotOf 29 = .ok (.iinc 3 1, 3) := by decide +kernel
theorem d_Id_slotOf_32 : decode b_Id_slotOf 32 = .ok (.goto (-28), 3) := by decide +kernel
theorem d_Id_slotOf_35 : decode b_Id_slotOf 35 = .ok (.iconst (-1), 1) := by decide +kernel
theorem d_Id_slotOf_36 : decode b_Id_slotOf 36 = .ok (.ireturn, 1) := by decide +kernel
theorem d_Ro_entryAt_0 : decode b_Ro_entryAt 0 = .ok (.iload_n 1, 1) := by decide +kernel
theorem d_Ro_entryAt_1 : decode b_Ro_entryAt 1 = .ok (.ifCond .lt 28, 3) := by decide +kernel
theorem d_Ro_entryAt_4 : decode b_Ro_entryAt 4 = .ok (.iload_n 1, 1) := by decide +kernel
theorem d_Ro_entryAt_5 : decode b_Ro_entryAt 5 = .ok (.aload_n 0, 1) := by decide +kernel
theorem d_Ro_entryAt_6 : decode b_Ro_entryAt 6 = .ok (.getfield 10, 3) := by decide +kernel
theorem d_Ro_entryAt_9 : decode b_Ro_entryAt 9 = .ok (.invokevirtual 16, 3) := by decide +kernel
theorem d_Ro_entryAt_12 : decode b_Ro_entryAt 12 = .ok (.if_icmp .ge 17, 3) := by decide +kernel
theorem d_Ro_entryAt_15 : decode b_Ro_entryAt 15 = .ok (.aload_n 0, 1) := by decide +kernel
theorem d_Ro_entryAt_16 : decode b_Ro_entryAt 16 = .ok (.getfield 10, 3) := by decide +kernel
theorem d_Ro_entryAt_19 : decode b_Ro_entryAt 19 = .ok (.iload_n 1, 1) := by decide +kernel
theorem d_Ro_entryAt_20 : decode b_Ro_entryAt 20 = .ok (.invokevirtual 20, 3) := by decide +kernel
theorem d_Ro_entryAt_23 : decode b_Ro_entryAt 23 = .ok (.checkcast 24, 3) := by decide +kernel
theorem d_Ro_entryAt_26 : decode b_Ro_entryAt 26 = .ok (.goto 4, 3) := by decide +kernel
theorem d_Ro_entryAt_29 : decode b_Ro_entryAt 29 = .ok (.aconst_null, 1) := by decide +kernel
theorem d_Ro_entryAt_30 : decode b_Ro_entryAt 30 = .ok (.areturn, 1) := by decide +kernel
theorem d_Id_isFull_0 : decode b_Id_isFull 0 = .ok (.aload_n 0, 1) := by decide +kernel
theorem d_Id_isFull_1 : decode b_Id_isFull 1 = .ok (.getfield 17, 3) := by decide +kernel
theorem d_Id_isFull_4 : decode b_Id_isFull 4 = .ok (.bipush 12, 2) := by decide +kernel
theorem d_Id_isFull_6 : decode b_Id_isFull 6 = .ok (.if_icmp .lt 7, 3) := by decide +kernel
theorem d_Id_isFull_9 : decode b_Id_isFull 9 = .ok (.iconst 1, 1) := by decide +kernel
theorem d_Id_isFull_10 : decode b_Id_isFull 10 = .ok (.goto 4, 3) := by decide +kernel
theorem d_Id_isFull_13 : decode b_Id_isFull 13 = .ok (.iconst 0, 1) := by decide +kernel
theorem d_Id_isFull_14 : decode b_Id_isFull 14 = .ok (.ireturn, 1) := by decide +kernel
theorem d_Ta_isFull_0 : decode b_Ta_isFull 0 = .ok (.iconst 0, 1) := by decide +kernel
theorem d_Ta_isFull_1 : decode b_Ta_isFull 1 = .ok (.ireturn, 1) := by decide +kernel
theorem d_So_tick_0 : decode b_So_tick 0 = .ok (.aload_n 0, 1) := by decide +kernel
theorem d_So_tick_1 : decode b_So_tick 1 = .ok (.dup, 1) := by decide +kernel
theorem d_So_tick_2 : decode b_So_tick 2 = .ok (.getfield 9, 3) := by decide +kernel
theorem d_So_tick_5 : decode b_So_tick 5 = .ok (.iconst 1, 1) := by decide +kernel
theorem d_So_tick_6 : decode b_So_tick 6 = .ok (.iadd, 1) := by decide +kernel
theorem d_So_tick_7 : decode b_So_tick 7 = .ok (.putfield 9, 3) := by decide +kernel
theorem d_So_tick_10 : decode b_So_tick 10 = .ok (.return_, 1) := by decide +kernel
theorem d_Ta_tick_0 : decode b_Ta_tick 0 = .ok (.return_, 1) := by decide +kernel
theorem d_Pl_keyOf_0 : decode b_Pl_keyOf 0 = .ok (.iload_n 2, 1) := by decide +kernel
theorem d_Pl_keyOf_1 : decode b_Pl_keyOf 1 = .ok (.ireturn, 1) := by decide +kernel
theorem d_Ta_keyOf_0 : decode b_Ta_keyOf 0 = .ok (.iload_n 1, 1) := by decide +kernel
theorem d_Ta_keyOf_1 : decode b_Ta_keyOf 1 = .ok (.ireturn, 1) := by decide +kernel
theorem d_En_init_0 : decode b_En_init 0 = .ok (.aload_n 0, 1) := by decide +kernel
theorem d_En_init_1 : decode b_En_init 1 = .ok (.invokespecial 1, 3) := by decide +kernel
theorem d_En_init_4 : decode b_En_init 4 = .ok (.aload_n 0, 1) := by decide +kernel
theorem d_En_init_5 : decode b_En_init 5 = .ok (.iload_n 1, 1) := by decide +kernel
theorem d_En_init_6 : decode b_En_init 6 = .ok (.putfield 7, 3) := by decide +kernel
theorem d_En_init_9 : decode b_En_init 9 = .ok (.aload_n 0, 1) := by decide +kernel
theorem d_En_init_10 : decode b_En_init 10 = .ok (.iload_n 2, 1) := by decide +kernel
theorem d_En_init_11 : decode b_En_init 11 = .ok (.putfield 13, 3) := by decide +kernel
theorem d_En_init_14 : decode b_En_init 14 = .ok (.aload_n 0, 1) := by decide +kernel
theorem d_En_init_15 : decode b_En_init 15 = .ok (.iload_n 3, 1) := by decide +kernel
theorem d_En_init_16 : decode b_En_init 16 = .ok (.putfield 16, 3) := by decide +kernel
theorem d_En_init_19 : decode b_En_init 19 = .ok (.return_, 1) := by decide +kernel
theorem d_Id_add_0 : decode b_Id_add 0 = .ok (.aload_n 1, 1) := by decide +kernel
theorem d_Id_add_1 : decode b_Id_add 1 = .ok (.invokestatic 25, 3) := by decide +kernel
theorem d_Id_add_4 : decode b_Id_add 4 = .ok (.istore_n 2, 1) := by decide +kernel
theorem d_Id_add_5 : decode b_Id_add 5 = .ok (.iconst 0, 1) := by decide +kernel
theorem d_Id_add_6 : decode b_Id_add 6 = .ok (.istore_n 3, 1) := by decide +kernel
theorem d_Id_add_7 : decode b_Id_add 7 = .ok (.iload_n 3, 1) := by decide +kernel
theorem d_Id_add_8 : decode b_Id_add 8 = .ok (.bipush 16, 2) := by decide +kernel
theorem d_Id_add_10 : decode b_Id_add 10 = .ok (.if_icmp .ge 51, 3) := by decide +kernel
theorem d_Id_add_13 : decode b_Id_add 13 = .ok (.iload_n 2, 1) := by decide +kernel
theorem d_Id_add_14 : decode b_Id_add 14 = .ok (.iload_n 3, 1) := by decide +kernel
theorem d_Id_add_15 : decode b_Id_add 15 = .ok (.iadd, 1) := by decide +kernel
theorem d_Id_add_16 : decode b_Id_add 16 = .ok (.bipush 16, 2) := by decide +kernel
theorem d_Id_add_18 : decode b_Id_add 18 = .ok (.irem, 1) := by decide +kernel
theorem d_Id_add_19 : decode b_Id_add 19 = .ok (.istore 4, 2) := by decide +kernel
theorem d_Id_add_21 : decode b_Id_add 21 = .ok (.aload_n 0, 1) := by decide +kernel
theorem d_Id_add_22 : decode b_Id_add 22 = .ok (.getfield 11, 3) := by decide +kernel
theorem d_Id_add_25 : decode b_Id_add 25 = .ok (.iload 4, 2) := by decide +kernel
theorem d_Id_add_27 : decode b_Id_add 27 = .ok (.aaload, 1) := by decide +kernel
theorem d_Id_add_28 : decode b_Id_add 28 = .ok (.ifnonnull 27, 3) := by decide +kernel
theorem d_Id_add_31 : decode b_Id_add 31 = .ok (.aload_n 0, 1) := by decide +kernel
theorem d_Id_add_32 : decode b_Id_add 32 = .ok (.getfield 11, 3) := by decide +kernel
theorem d_Id_add_35 : decode b_Id_add 35 = .ok (.iload 4, 2) := by decide +kernel
theorem d_Id_add_37 : decode b_Id_add 37 = .ok (.aload_n 1, 1) := by decide +kernel
theorem d_Id_add_38 : decode b_Id_add 38 = .ok (.aastore, 1) := by decide +kernel
theorem d_Id_add_39 : decode b_Id_add 39 = .ok (.aload_n 0, 1) := by decide +kernel
theorem d_Id_add_40 : decode b_Id_add 40 = .ok (.dup, 1) := by decide +kernel
theorem d_Id_add_41 : decode b_Id_add 41 = .ok (.getfield 17, 3) := by decide +kernel
theorem d_Id_add_44 : decode b_Id_add 44 = .ok (.iconst 1, 1) := by decide +kernel
theorem d_Id_add_45 : decode b_Id_add 45 = .ok (.iadd, 1) := by decide +kernel
theorem d_Id_add_46 : decode b_Id_add 46 = .ok (.putfield 17, 3) := by decide +kernel
theorem d_Id_add_49 : decode b_Id_add 49 = .ok (.aload_n 0, 1) := by decide +kernel
theorem d_Id_add_50 : decode b_Id_add 50 = .ok (.iconst 1, 1) := by decide +kernel
theorem d_Id_add_51 : decode b_Id_add 51 = .ok (.putfield 29, 3) := by decide +kernel
theorem d_Id_add_54 : decode b_Id_add 54 = .ok (.return_, 1) := by decide +kernel
theorem d_Id_add_55 : decode b_Id_add 55 = .ok (.iinc 3 1, 3) := by decide +kernel
theorem d_Id_add_58 : decode b_Id_add 58 = .ok (.goto (-51), 3) := by decide +kernel
theorem d_Id_add_61 : decode b_Id_add 61 = .ok (.return_, 1) := by decide +kernel
theorem d_Id_firstSlot_0 : decode b_Id_firstSlot 0 = .ok (.bipush 7, 2) := by decide +kernel
theorem d_Id_firstSlot_2 : decode b_Id_firstSlot 2 = .ok (.aload_n 0, 1) := by decide +kernel
theorem d_Id_firstSlot_3 : decode b_Id_firstSlot 3 = .ok (.getfield 37, 3) := by decide +kernel
theorem d_Id_firstSlot_6 : decode b_Id_firstSlot 6 = .ok (.imul, 1) := by decide +kernel
theorem d_Id_firstSlot_7 : decode b_Id_firstSlot 7 = .ok (.bipush 16, 2) := by decide +kernel
theorem d_Id_firstSlot_9 : decode b_Id_firstSlot 9 = .ok (.irem, 1) := by decide +kernel
theorem d_Id_firstSlot_10 : decode b_Id_firstSlot 10 = .ok (.ireturn, 1) := by decide +kernel
theorem d_La_add_0 : decode b_La_add 0 = .ok (.aload_n 0, 1) := by decide +kernel
theorem d_La_add_1 : decode b_La_add 1 = .ok (.aload_n 1, 1) := by decide +kernel
theorem d_La_add_2 : decode b_La_add 2 = .ok (.invokevirtual 9, 3) := by decide +kernel
theorem d_La_add_5 : decode b_La_add 5 = .ok (.aload_n 0, 1) := by decide +kernel
theorem d_La_add_6 : decode b_La_add 6 = .ok (.getfield 15, 3) := by decide +kernel
theorem d_La_add_9 : decode b_La_add 9 = .ok (.invokevirtual 19, 3) := by decide +kernel
theorem d_La_add_12 : decode b_La_add 12 = .ok (.bipush 6, 2) := by decide +kernel
theorem d_La_add_14 : decode b_La_add 14 = .ok (.if_icmp .le 8, 3) := by decide +kernel
theorem d_La_add_17 : decode b_La_add 17 = .ok (.aload_n 0, 1) := by decide +kernel
theorem d_La_add_18 : decode b_La_add 18 = .ok (.iconst 0, 1) := by decide +kernel
theorem d_La_add_19 : decode b_La_add 19 = .ok (.invokevirtual 25, 3) := by decide +kernel
theorem d_La_add_22 : decode b_La_add 22 = .ok (.return_, 1) := by decide +kernel
theorem d_Ro_append_0 : decode b_Ro_append 0 = .ok (.aload_n 0, 1) := by decide +kernel
theorem d_Ro_append_1 : decode b_Ro_append 1 = .ok (.getfield 10, 3) := by decide +kernel
theorem d_Ro_append_4 : decode b_Ro_append 4 = .ok (.aload_n 1, 1) := by decide +kernel
theorem d_Ro_append_5 : decode b_Ro_append 5 = .ok (.invokevirtual 33, 3) := by decide +kernel
theorem d_Ro_append_8 : decode b_Ro_append 8 = .ok (.pop, 1) := by decide +kernel
theorem d_Ro_append_9 : decode b_Ro_append 9 = .ok (.aload_n 0, 1) := by decide +kernel
theorem d_Ro_append_10 : decode b_Ro_append 10 = .ok (.iconst 1, 1) := by decide +kernel
theorem d_Ro_append_11 : decode b_Ro_append 11 = .ok (.putfield 29, 3) := by decide +kernel
theorem d_Ro_append_14 : decode b_Ro_append 14 = .ok (.return_, 1) := by decide +kernel
theorem d_Ro_dropAt_0 : decode b_Ro_dropAt 0 = .ok (.iload_n 1, 1) := by decide +kernel
theorem d_Ro_dropAt_1 : decode b_Ro_dropAt 1 = .ok (.ifCond .lt 28, 3) := by decide +kernel
theorem d_Ro_dropAt_4 : decode b_Ro_dropAt 4 = .ok (.iload_n 1, 1) := by decide +kernel
theorem d_Ro_dropAt_5 : decode b_Ro_dropAt 5 = .ok (.aload_n 0, 1) := by decide +kernel
theorem d_Ro_dropAt_6 : decode b_Ro_dropAt 6 = .ok (.getfield 10, 3) := by decide +kernel
theorem d_Ro_dropAt_9 : decode b_Ro_dropAt 9 = .ok (.invokevirtual 16, 3) := by decide +kernel
theorem d_Ro_dropAt_12 : decode b_Ro_dropAt 12 = .ok (.if_icmp .ge 17, 3) := by decide +kernel
theorem d_Ro_dropAt_15 : decode b_Ro_dropAt 15 = .ok (.aload_n 0, 1) := by decide +kernel
theorem d_Ro_dropAt_16 : decode b_Ro_dropAt 16 = .ok (.getfield 10, 3) := by decide +kernel
theorem d_Ro_dropAt_19 : decode b_Ro_dropAt 19 = .ok (.iload_n 1, 1) := by decide +kernel
theorem d_Ro_dropAt_20 : decode b_Ro_dropAt 20 = .ok (.invokevirtual 26, 3) := by decide +kernel
theorem d_Ro_dropAt_23 : decode b_Ro_dropAt 23 = .ok (.pop, 1) := by decide +kernel
theorem d_Ro_dropAt_24 : decode b_Ro_dropAt 24 = .ok (.aload_n 0, 1) := by decide +kernel
theorem d_Ro_dropAt_25 : decode b_Ro_dropAt 25 = .ok (.iconst 1, 1) := by decide +kernel
theorem d_Ro_dropAt_26 : decode b_Ro_dropAt 26 = .ok (.putfield 29, 3) := by decide +kernel
theorem d_Ro_dropAt_29 : decode b_Ro_dropAt 29 = .ok (.return_, 1) := by decide +kernel
theorem d_Pl_add_0 : decode b_Pl_add 0 = .ok (.iconst 0, 1) := by decide +kernel
theorem d_Pl_add_1 : decode b_Pl_add 1 = .ok (.istore_n 2, 1) := by decide +kernel
theorem d_Pl_add_2 : decode b_Pl_add 2 = .ok (.iload_n 2, 1) := by decide +kernel
theorem d_Pl_add_3 : decode b_Pl_add 3 = .ok (.aload_n 0, 1) := by decide +kernel
theorem d_Pl_add_4 : decode b_Pl_add 4 = .ok (.getfield 9, 3) := by decide +kernel
theorem d_Pl_add_7 : decode b_Pl_add 7 = .ok (.invokevirtual 15, 3) := by decide +kernel
theorem d_Pl_add_10 : decode b_Pl_add 10 = .ok (.if_icmp .ge 30, 3) := by decide +kernel
theorem d_Pl_add_13 : decode b_Pl_add 13 = .ok (.aload_n 0, 1) := by decide +kernel
theorem d_Pl_add_14 : decode b_Pl_add 14 = .ok (.getfield 9, 3) := by decide +kernel
theorem d_Pl_add_17 : decode b_Pl_add 17 = .ok (.iload_n 2, 1) := by decide +kernel
theorem d_Pl_add_18 : decode b_Pl_add 18 = .ok (.invokevirtual 21, 3) := by decide +kernel
theorem d_Pl_add_21 : decode b_Pl_add 21 = .ok (.checkcast 25, 3) := by decide +kernel
theorem d_Pl_add_24 : decode b_Pl_add 24 = .ok (.getfield 27, 3) := by decide +kernel
theorem d_Pl_add_27 : decode b_Pl_add 27 = .ok (.aload_n 1, 1) := by decide +kernel
theorem d_Pl_add_28 : decode b_Pl_add 28 = .ok (.getfield 27, 3) := by decide +kernel
theorem d_Pl_add_31 : decode b_Pl_add 31 = .ok (.if_icmp .ge 9, 3) := by decide +kernel
theorem d_Pl_add_34 : decode b_Pl_add 34 = .ok (.iinc 2 1, 3) := by decide +kernel
theorem d_Pl_add_37 : decode b_Pl_add 37 = .ok (.goto (-35), 3) := by decide +kernel
theorem d_Pl_add_40 : decode b_Pl_add 40 = .ok (.aload_n 0, 1) := by decide +kernel
theorem d_Pl_add_41 : decode b_Pl_add 41 = .ok (.getfield 9, 3) := by decide +kernel
theorem d_Pl_add_44 : decode b_Pl_add 44 = .ok (.iload_n 2, 1) := by decide +kernel
theorem d_Pl_add_45 : decode b_Pl_add 45 = .ok (.aload_n 1, 1) := by decide +kernel
theorem d_Pl_add_46 : decode b_Pl_add 46 = .ok (.invokevirtual 31, 3) := by decide +kernel
theorem d_Pl_add_49 : decode b_Pl_add 49 = .ok (.aload_n 0, 1) := by decide +kernel
theorem d_Pl_add_50 : decode b_Pl_add 50 = .ok (.iconst 1, 1) := by decide +kernel
theorem d_Pl_add_51 : decode b_Pl_add 51 = .ok (.putfield 35, 3) := by decide +kernel
theorem d_Pl_add_54 : decode b_Pl_add 54 = .ok (.return_, 1) := by decide +kernel
theorem d_So_add_0 : decode b_So_add 0 = .ok (.aload_n 1, 1) := by decide +kernel
theorem d_So_add_1 : decode b_So_add 1 = .ok (.aload_n 0, 1) := by decide +kernel
theorem d_So_add_2 : decode b_So_add 2 = .ok (.getfield 9, 3) := by decide +kernel
theorem d_So_add_5 : decode b_So_add 5 = .ok (.putfield 15, 3) := by decide +kernel
theorem d_So_add_8 : decode b_So_add 8 = .ok (.aload_n 0, 1) := by decide +kernel
theorem d_So_add_9 : decode b_So_add 9 = .ok (.aload_n 1, 1) := by decide +kernel
theorem d_So_add_10 : decode b_So_add 10 = .ok (.invokevirtual 20, 3) := by decide +kernel
theorem d_So_add_13 : decode b_So_add 13 = .ok (.return_, 1) := by decide +kernel
theorem d_We_add_0 : decode b_We_add 0 = .ok (.aload_n 0, 1) := by decide +kernel
theorem d_We_add_1 : decode b_We_add 1 = .ok (.aload_n 1, 1) := by decide +kernel
theorem d_We_add_2 : decode b_We_add 2 = .ok (.invokevirtual 22, 3) := by decide +kernel
theorem d_We_add_5 : decode b_We_add 5 = .ok (.aload_n 0, 1) := by decide +kernel
theorem d_We_add_6 : decode b_We_add 6 = .ok (.iconst 1, 1) := by decide +kernel
theorem d_We_add_7 : decode b_We_add 7 = .ok (.putfield 26, 3) := by decide +kernel
theorem d_We_add_10 : decode b_We_add 10 = .ok (.iconst 4, 1) := by decide +kernel
theorem d_We_add_11 : decode b_We_add 11 = .ok (.aload_n 0, 1) := by decide +kernel
theorem d_We_add_12 : decode b_We_add 12 = .ok (.getfield 30, 3) := by decide +kernel
theorem d_We_add_15 : decode b_We_add 15 = .ok (.invokevirtual 33, 3) := by decide +kernel
theorem d_We_add_18 : decode b_We_add 18 = .ok (.imul, 1) := by decide +kernel
theorem d_We_add_19 : decode b_We_add 19 = .ok (.iconst 3, 1) := by decide +kernel
theorem d_We_add_20 : decode b_We_add 20 = .ok (.aload_n 0, 1) := by decide +kernel
theorem d_We_add_21 : decode b_We_add 21 = .ok (.getfield 18, 3) := by decide +kernel
theorem d_We_add_24 : decode b_We_add 24 = .ok (.imul, 1) := by decide +kernel
theorem d_We_add_25 : decode b_We_add 25 = .ok (.if_icmp .le 16, 3) := by decide +kernel
theorem d_We_add_28 : decode b_We_add 28 = .ok (.aload_n 0, 1) := by decide +kernel
theorem d_We_add_29 : decode b_We_add 29 = .ok (.getfield 18, 3) := by decide +kernel
theorem d_We_add_32 : decode b_We_add 32 = .ok (.bipush 32, 2) := by decide +kernel
theorem d_We_add_34 : decode b_We_add 34 = .ok (.if_icmp .ge 7, 3) := by decide +kernel
theorem d_We_add_37 : decode b_We_add 37 = .ok (.aload_n 0, 1) := by decide +kernel
theorem d_We_add_38 : decode b_We_add 38 = .ok (.invokevirtual 37, 3) := by decide +kernel
theorem d_We_add_41 : decode b_We_add 41 = .ok (.return_, 1) := by decide +kernel
theorem d_We_addToBucket_0 : decode b_We_addToBucket 0 = .ok (.aload_n 0, 1) := by decide +kernel
theorem d_We_addToBucket_1 : decode b_We_addToBucket 1 = .ok (.aload_n 1, 1) := by decide +kernel
theorem d_We_addToBucket_2 : decode b_We_addToBucket 2 = .ok (.invokevirtual 40, 3) := by decide +kernel
theorem d_We_addToBucket_5 : decode b_We_addToBucket 5 = .ok (.istore_n 2, 1) := by decide +kernel
theorem d_We_addToBucket_6 : decode b_We_addToBucket 6 = .ok (.iconst 0, 1) := by decide +kernel
theorem d_We_addToBucket_7 : decode b_We_addToBucket 7 = .ok (.istore_n 3, 1) := by decide +kernel
theorem d_We_addToBucket_8 : decode b_We_addToBucket 8 = .ok (.iload_n 3, 1) := by decide +kernel
theorem d_We_addToBucket_9 : decode b_We_addToBucket 9 = .ok (.aload_n 0, 1) := by decide +kernel
theorem d_We_addToBucket_10 : decode b_We_addToBucket 10 = .ok (.getfield 30, 3) := by decide +kernel
theorem d_We_addToBucket_13 : decode b_We_addToBucket 13 = .ok (.invokevirtual 33, 3) := by decide +kernel
theorem d_We_addToBucket_16 : decode b_We_addToBucket 16 = .ok (.if_icmp .ge 28, 3) := by decide +kernel
theorem d_We_addToBucket_19 : decode b_We_addToBucket 19 = .ok (.aload_n 0, 1) := by decide +kernel
theorem d_We_addToBucket_20 : decode b_We_addToBucket 20 = .ok (.aload_n 0, 1) := by decide +kernel
theorem d_We_addToBucket_21 : decode b_We_addToBucket 21 = .ok (.getfield 30, 3) := by decide +kernel
theorem d_We_addToBucket_24 : decode b_We_addToBucket 24 = .ok (.iload_n 3, 1) := by decide +kernel
theorem d_We_addToBucket_25 : decode b_We_addToBucket 25 = .ok (.invokevirtual 44, 3) := by decide +kernel
theorem d_We_addToBucket_28 : decode b_We_addToBucket 28 = .ok (.checkcast 48, 3) := by decide +kernel
theorem d_We_addToBucket_31 : decode b_We_addToBucket 31 = .ok (.invokevirtual 40, 3) := by decide +kernel
theorem d_We_addToBucket_34 : decode b_We_addToBucket 34 = .ok (.iload_n 2, 1) := by decide +kernel
theorem d_We_addToBucket_35 : decode b_We_addToBucket 35 = .ok (.if_icmp .ge 9, 3) := by decide +kernel
theorem d_We_addToBucket_38 : decode b_We_addToBucket 38 = .ok (.iinc 3 1, 3) := by decide +kernel
theorem d_We_addToBucket_41 : decode b_We_addToBucket 41 = .ok (.goto (-33), 3) := by decide +kernel
theorem d_We_addToBucket_44 : decode b_We_addToBucket 44 = .ok (.aload_n 0, 1) := by decide +kernel
theorem d_We_addToBucket_45 : decode b_We_addToBucket 45 = .ok (.getfield 30, 3) := by decide +kernel
theorem d_We_addToBucket_48 : decode b_We_addToBucket 48 = .ok (.iload_n 3, 1) := by decide +kernel
theorem d_We_addToBucket_49 : decode b_We_addToBucket 49 = .ok (.aload_n 1, 1) := by decide +kernel
theorem d_We_addToBucket_50 : decode b_We_addToBucket 50 = .ok (.invokevirtual 50, 3) := by decide +kernel
theorem d_We_addToBucket_53 : decode b_We_addToBucket 53 = .ok (.return_, 1) := by decide +kernel
theorem d_We_bucketOf_0 : decode b_We_bucketOf 0 = .ok (.aload_n 1, 1) := by decide +kernel
theorem d_We_bucketOf_1 : decode b_We_bucketOf 1 = .ok (.getfield 54, 3) := by decide +kernel
theorem d_We_bucketOf_4 : decode b_We_bucketOf 4 = .ok (.aload_n 1, 1) := by decide +kernel
theorem d_We_bucketOf_5 : decode b_We_bucketOf 5 = .ok (.getfield 54, 3) := by decide +kernel
theorem d_We_bucketOf_8 : decode b_We_bucketOf 8 = .ok (.iconst 4, 1) := by decide +kernel
theorem d_We_bucketOf_9 : decode b_We_bucketOf 9 = .ok (.ishr, 1) := by decide +kernel
theorem d_We_bucketOf_10 : decode b_We_bucketOf 10 = .ok (.ixor, 1) := by decide +kernel
theorem d_We_bucketOf_11 : decode b_We_bucketOf 11 = .ok (.istore_n 2, 1) := by decide +kernel
theorem d_We_bucketOf_12 : decode b_We_bucketOf 12 = .ok (.iload_n 2, 1) := by decide +kernel
theorem d_We_bucketOf_13 : decode b_We_bucketOf 13 = .ok (.aload_n 0, 1) := by decide +kernel
theorem d_We_bucketOf_14 : decode b_We_bucketOf 14 = .ok (.getfield 18, 3) := by decide +kernel
theorem d_We_bucketOf_17 : decode b_We_bucketOf 17 = .ok (.iconst 1, 1) := by decide +kernel
theorem d_We_bucketOf_18 : decode b_We_bucketOf 18 = .ok (.isub, 1) := by decide +kernel
theorem d_We_bucketOf_19 : decode b_We_bucketOf 19 = .ok (.iand, 1) := by decide +kernel
theorem d_We_bucketOf_20 : decode b_We_bucketOf 20 = .ok (.ireturn, 1) := by decide +kernel
theorem d_We_doubleBuckets_0 : decode b_We_doubleBuckets 0 = .ok (.aload_n 0, 1) := by decide +kernel
theorem d_We_doubleBuckets_1 : decode b_We_doubleBuckets 1 = .ok (.getfield 12, 3) := by decide +kernel
theorem d_We_doubleBuckets_4 : decode b_We_doubleBuckets 4 = .ok (.invokevirtual 57, 3) := by decide +kernel
theorem d_We_doubleBuckets_7 : decode b_We_doubleBuckets 7 = .ok (.iconst 0, 1) := by decide +kernel
theorem d_We_doubleBuckets_8 : decode b_We_doubleBuckets 8 = .ok (.istore_n 1, 1) := by decide +kernel
theorem d_We_doubleBuckets_9 : decode b_We_doubleBuckets 9 = .ok (.iload_n 1, 1) := by decide +kernel
theorem d_We_doubleBuckets_10 : decode b_We_doubleBuckets 10 = .ok (.aload_n 0, 1) := by decide +kernel
theorem d_We_doubleBuckets_11 : decode b_We_doubleBuckets 11 = .ok (.getfield 30, 3) := by decide +kernel
theorem d_We_doubleBuckets_14 : decode b_We_doubleBuckets 14 = .ok (.invokevirtual 33, 3) := by decide +kernel
theorem d_We_doubleBuckets_17 : decode b_We_doubleBuckets 17 = .ok (.if_icmp .ge 28, 3) := by decide +kernel
theorem d_We_doubleBuckets_20 : decode b_We_doubleBuckets 20 = .ok (.aload_n 0, 1) := by decide +kernel
theorem d_We_doubleBuckets_21 : decode b_We_doubleBuckets 21 = .ok (.getfield 12, 3) := by decide +kernel
theorem d_We_doubleBuckets_24 : decode b_We_doubleBuckets 24 = .ok (.aload_n 0, 1) := by decide +kernel
theorem d_We_doubleBuckets_25 : decode b_We_doubleBuckets 25 = .ok (.getfield 30, 3) := by decide +kernel
theorem d_We_doubleBuckets_28 : decode b_We_doubleBuckets 28 = .ok (.iload_n 1, 1) := by decide +kernel
theorem d_We_doubleBuckets_29 : decode b_We_doubleBuckets 29 = .ok (.invokevirtual 44, 3) := by decide +kernel
theorem d_We_doubleBuckets_32 : decode b_We_doubleBuckets 32 = .ok (.checkcast 48, 3) := by decide +kernel
theorem d_We_doubleBuckets_35 : decode b_We_doubleBuckets 35 = .ok (.invokevirtual 60, 3) := by decide +kernel
theorem d_We_doubleBuckets_38 : decode b_We_doubleBuckets 38 = .ok (.pop, 1) := by decide +kernel
theorem d_We_doubleBuckets_39 : decode b_We_doubleBuckets 39 = .ok (.iinc 1 1, 3) := by decide +kernel
theorem d_We_doubleBuckets_42 : decode b_We_doubleBuckets 42 = .ok (.goto (-33), 3) := by decide +kernel
theorem d_We_doubleBuckets_45 : decode b_We_doubleBuckets 45 = .ok (.aload_n 0, 1) := by decide +kernel
theorem d_We_doubleBuckets_46 : decode b_We_doubleBuckets 46 = .ok (.getfield 30, 3) := by decide +kernel
theorem d_We_doubleBuckets_49 : decode b_We_doubleBuckets 49 = .ok (.invokevirtual 57, 3) := by decide +kernel
theorem d_We_doubleBuckets_52 : decode b_We_doubleBuckets 52 = .ok (.aload_n 0, 1) := by decide +kernel
theorem d_We_doubleBuckets_53 : decode b_We_doubleBuckets 53 = .ok (.iconst 2, 1) := by decide +kernel
theorem d_We_doubleBuckets_54 : decode b_We_doubleBuckets 54 = .ok (.aload_n 0, 1) := by decide +kernel
theorem d_We_doubleBuckets_55 : decode b_We_doubleBuckets 55 = .ok (.getfield 18, 3) := by decide +kernel
theorem d_We_doubleBuckets_58 : decode b_We_doubleBuckets 58 = .ok (.imul, 1) := by decide +kernel
theorem d_We_doubleBuckets_59 : decode b_We_doubleBuckets 59 = .ok (.putfield 18, 3) := by decide +kernel
theorem d_We_doubleBuckets_62 : decode b_We_doubleBuckets 62 = .ok (.iconst 0, 1) := by decide +kernel
theorem d_We_doubleBuckets_63 : decode b_We_doubleBuckets 63 = .ok (.istore_n 1, 1) := by decide +kernel
theorem d_We_doubleBuckets_64 : decode b_We_doubleBuckets 64 = .ok (.iload_n 1, 1) := by decide +kernel
theorem d_We_doubleBuckets_65 : decode b_We_doubleBuckets 65 = .ok (.aload_n 0, 1) := by decide +kernel
theorem d_We_doubleBuckets_66 : decode b_We_doubleBuckets 66 = .ok (.getfield 12, 3) := by decide +kernel
theorem d_We_doubleBuckets_69 : decode b_We_doubleBuckets 69 = .ok (.invokevirtual 33, 3) := by decide +kernel
theorem d_We_doubleBuckets_72 : decode b_We_doubleBuckets 72 = .ok (.if_icmp .ge 24, 3) := by decide +kernel
theorem d_We_doubleBuckets_75 : decode b_We_doubleBuckets 75 = .ok (.aload_n 0, 1) := by decide +kernel
theorem d_We_doubleBuckets_76 : decode b_We_doubleBuckets 76 = .ok (.aload_n 0, 1) := by decide +kernel
theorem d_We_doubleBuckets_77 : decode b_We_doubleBuckets 77 = .ok (.getfield 12, 3) := by decide +kernel
theorem d_We_doubleBuckets_80 : decode b_We_doubleBuckets 80 = .ok (.iload_n 1, 1) := by decide +kernel
theorem d_We_doubleBuckets_81 : decode b_We_doubleBuckets 81 = .ok (.invokevirtual 44, 3) := by decide +kernel
theorem d_We_doubleBuckets_84 : decode b_We_doubleBuckets 84 = .ok (.checkcast 48, 3) := by decide +kernel
theorem d_We_doubleBuckets_87 : decode b_We_doubleBuckets 87 = .ok (.invokevirtual 22, 3) := by decide +kernel
theorem d_We_doubleBuckets_90 : decode b_We_doubleBuckets 90 = .ok (.iinc 1 1, 3) := by decide +kernel
theorem d_We_doubleBuckets_93 : decode b_We_doubleBuckets 93 = .ok (.goto (-29), 3) := by decide +kernel
theorem d_We_doubleBuckets_96 : decode b_We_doubleBuckets 96 = .ok (.return_, 1) := by decide +kernel
theorem d_La_use_0 : decode b_La_use 0 = .ok (.iload_n 1, 1) := by decide +kernel
theorem d_La_use_1 : decode b_La_use 1 = .ok (.ifCond .lt 38, 3) := by decide +kernel
theorem d_La_use_4 : decode b_La_use 4 = .ok (.iload_n 1, 1) := by decide +kernel
theorem d_La_use_5 : decode b_La_use 5 = .ok (.aload_n 0, 1) := by decide +kernel
theorem d_La_use_6 : decode b_La_use 6 = .ok (.getfield 15, 3) := by decide +kernel
theorem d_La_use_9 : decode b_La_use 9 = .ok (.invokevirtual 19, 3) := by decide +kernel
theorem d_La_use_12 : decode b_La_use 12 = .ok (.iconst 1, 1) := by decide +kernel
theorem d_La_use_13 : decode b_La_use 13 = .ok (.isub, 1) := by decide +kernel
theorem d_La_use_14 : decode b_La_use 14 = .ok (.if_icmp .ge 25, 3) := by decide +kernel
theorem d_La_use_17 : decode b_La_use 17 = .ok (.aload_n 0, 1) := by decide +kernel
theorem d_La_use_18 : decode b_La_use 18 = .ok (.getfield 15, 3) := by decide +kernel
theorem d_La_use_21 : decode b_La_use 21 = .ok (.iload_n 1, 1) := by decide +kernel
theorem d_La_use_22 : decode b_La_use 22 = .ok (.invokevirtual 29, 3) := by decide +kernel
theorem d_La_use_25 : decode b_La_use 25 = .ok (.checkcast 33, 3) := by decide +kernel
theorem d_La_use_28 : decode b_La_use 28 = .ok (.astore_n 2, 1) := by decide +kernel
theorem d_La_use_29 : decode b_La_use 29 = .ok (.aload_n 0, 1) := by decide +kernel
theorem d_La_use_30 : decode b_La_use 30 = .ok (.iload_n 1, 1) := by decide +kernel
theorem d_La_use_31 : decode b_La_use 31 = .ok (.invokevirtual 25, 3) := by decide +kernel
theorem d_La_use_34 : decode b_La_use 34 = .ok (.aload_n 0, 1) := by decide +kernel
theorem d_La_use_35 : decode b_La_use 35 = .ok (.aload_n 2, 1) := by decide +kernel
theorem d_La_use_36 : decode b_La_use 36 = .ok (.invokevirtual 9, 3) := by decide +kernel
theorem d_La_use_39 : decode b_La_use 39 = .ok (.return_, 1) := by decide +kernel
theorem d_So_use_0 : decode b_So_use 0 = .ok (.aload_n 0, 1) := by decide +kernel
theorem d_So_use_1 : decode b_So_use 1 = .ok (.iload_n 1, 1) := by decide +kernel
theorem d_So_use_2 : decode b_So_use 2 = .ok (.invokevirtual 24, 3) := by decide +kernel
theorem d_So_use_5 : decode b_So_use 5 = .ok (.astore_n 2, 1) := by decide +kernel
theorem d_So_use_6 : decode b_So_use 6 = .ok (.aload_n 2, 1) := by decide +kernel
theorem d_So_use_7 : decode b_So_use 7 = .ok (.ifnull 11, 3) := by decide +kernel
theorem d_So_use_10 : decode b_So_use 10 = .ok (.aload_n 2, 1) := by decide +kernel
theorem d_So_use_11 : decode b_So_use 11 = .ok (.aload_n 0, 1) := by decide +kernel
theorem d_So_use_12 : decode b_So_use 12 = .ok (.getfield 9, 3) := by decide +kernel
theorem d_So_use_15 : decode b_So_use 15 = .ok (.putfield 15, 3) := by decide +kernel
theorem d_So_use_18 : decode b_So_use 18 = .ok (.return_, 1) := by decide +kernel
theorem d_Ta_use_0 : decode b_Ta_use 0 = .ok (.return_, 1) := by decide +kernel
theorem d_HM_get_0 : decode b_HM_get 0 = .ok (.aload_n 0, 1) := by decide +kernel
theorem d_HM_get_1 : decode b_HM_get 1 = .ok (.iload_n 1, 1) := by decide +kernel
theorem d_HM_get_2 : decode b_HM_get 2 = .ok (.iload_n 2, 1) := by decide +kernel
theorem d_HM_get_3 : decode b_HM_get 3 = .ok (.invokevirtual 88, 3) := by decide +kernel
theorem d_HM_get_6 : decode b_HM_get 6 = .ok (.ifCond .ne 13, 3) := by decide +kernel
theorem d_HM_get_9 : decode b_HM_get 9 = .ok (.new 45, 3) := by decide +kernel
theorem d_HM_get_12 : decode b_HM_get 12 = .ok (.dup, 1) := by decide +kernel
theorem d_HM_get_13 : decode b_HM_get 13 = .ok (.ldc 135, 2) := by decide +kernel
theorem d_HM_get_15 : decode b_HM_get 15 = .ok (.invokespecial 49, 3) := by decide +kernel
theorem d_HM_get_18 : decode b_HM_get 18 = .ok (.athrow, 1) := by decide +kernel
theorem d_HM_get_19 : decode b_HM_get 19 = .ok (.aload_n 0, 1) := by decide +kernel
theorem d_HM_get_20 : decode b_HM_get 20 = .ok (.getfield 32, 3) := by decide +kernel
theorem d_HM_get_23 : decode b_HM_get 23 = .ok (.iload_n 1, 1) := by decide +kernel
theorem d_HM_get_24 : decode b_HM_get 24 = .ok (.aaload, 1) := by decide +kernel
theorem d_HM_get_25 : decode b_HM_get 25 = .ok (.astore_n 3, 1) := by decide +kernel
theorem d_HM_get_26 : decode b_HM_get 26 = .ok (.aload_n 3, 1) := by decide +kernel
theorem d_HM_get_27 : decode b_HM_get 27 = .ok (.invokevirtual 116, 3) := by decide +kernel
theorem d_HM_get_30 : decode b_HM_get 30 = .ok (.aload_n 3, 1) := by decide +kernel
theorem d_HM_get_31 : decode b_HM_get 31 = .ok (.aload_n 3, 1) := by decide +kernel
theorem d_HM_get_32 : decode b_HM_get 32 = .ok (.iload_n 2, 1) := by decide +kernel
theorem d_HM_get_33 : decode b_HM_get 33 = .ok (.aload_n 0, 1) := by decide +kernel
theorem d_HM_get_34 : decode b_HM_get 34 = .ok (.getfield 10, 3) := by decide +kernel
theorem d_HM_get_37 : decode b_HM_get 37 = .ok (.getfield 61, 3) := by decide +kernel
theorem d_HM_get_40 : decode b_HM_get 40 = .ok (.iload_n 2, 1) := by decide +kernel
theorem d_HM_get_41 : decode b_HM_get 41 = .ok (.aaload, 1) := by decide +kernel
theorem d_HM_get_42 : decode b_HM_get 42 = .ok (.getfield 94, 3) := by decide +kernel
theorem d_HM_get_45 : decode b_HM_get 45 = .ok (.invokevirtual 98, 3) := by decide +kernel
theorem d_HM_get_48 : decode b_HM_get 48 = .ok (.invokevirtual 102, 3) := by decide +kernel
theorem d_HM_get_51 : decode b_HM_get 51 = .ok (.istore 4, 2) := by decide +kernel
theorem d_HM_get_53 : decode b_HM_get 53 = .ok (.aload_n 3, 1) := by decide +kernel
theorem d_HM_get_54 : decode b_HM_get 54 = .ok (.iload 4, 2) := by decide +kernel
theorem d_HM_get_56 : decode b_HM_get 56 = .ok (.invokevirtual 137, 3) := by decide +kernel
theorem d_HM_get_59 : decode b_HM_get 59 = .ok (.istore 5, 2) := by decide +kernel
theorem d_HM_get_61 : decode b_HM_get 61 = .ok (.iload 4, 2) := by decide +kernel
theorem d_HM_get_63 : decode b_HM_get 63 = .ok (.iconst (-1), 1) := by decide +kernel
theorem d_HM_get_64 : decode b_HM_get 64 = .ok (.if_icmp .eq 9, 3) := by decide +kernel
theorem d_HM_get_67 : decode b_HM_get 67 = .ok (.aload_n 3, 1) := by decide +kernel
theorem d_HM_get_68 : decode b_HM_get 68 = .ok (.iload 4, 2) := by decide +kernel
theorem d_HM_get_70 : decode b_HM_get 70 = .ok (.invokevirtual 132, 3) := by decide +kernel
theorem d_HM_get_73 : decode b_HM_get 73 = .ok (.iload 5, 2) := by decide +kernel
theorem d_HM_get_75 : decode b_HM_get 75 = .ok (.ireturn, 1) := by decide +kernel
theorem d_Ta_valueAt_0 : decode b_Ta_valueAt 0 = .ok (.aload_n 0, 1) := by decide +kernel
theorem d_Ta_valueAt_1 : decode b_Ta_valueAt 1 = .ok (.iload_n 1, 1) := by decide +kernel
theorem d_Ta_valueAt_2 : decode b_Ta_valueAt 2 = .ok (.invokevirtual 9, 3) := by decide +kernel
theorem d_Ta_valueAt_5 : decode b_Ta_valueAt 5 = .ok (.astore_n 2, 1) := by decide +kernel
theorem d_Ta_valueAt_6 : decode b_Ta_valueAt 6 = .ok (.aload_n 2, 1) := by decide +kernel
theorem d_Ta_valueAt_7 : decode b_Ta_valueAt 7 = .ok (.ifnonnull 7, 3) := by decide +kernel
theorem d_Ta_valueAt_10 : decode b_Ta_valueAt 10 = .ok (.iconst (-1), 1) := by decide +kernel
theorem d_Ta_valueAt_11 : decode b_Ta_valueAt 11 = .ok (.goto 7, 3) := by decide +kernel
theorem d_Ta_valueAt_14 : decode b_Ta_valueAt 14 = .ok (.aload_n 2, 1) := by decide +kernel
theorem d_Ta_valueAt_15 : decode b_Ta_valueAt 15 = .ok (.getfield 21, 3) := by decide +kernel
theorem d_Ta_valueAt_18 : decode b_Ta_valueAt 18 = .ok (.ireturn, 1) := by decide +kernel
theorem d_HM_remove_0 : decode b_HM_remove 0 = .ok (.aload_n 0, 1) := by decide +kernel
theorem d_HM_remove_1 : decode b_HM_remove 1 = .ok (.iload_n 1, 1) := by decide +kernel
theorem d_HM_remove_2 : decode b_HM_remove 2 = .ok (.iload_n 2, 1) := by decide +kernel
theorem d_HM_remove_3 : decode b_HM_remove 3 = .ok (.invokevirtual 88, 3) := by decide +kernel
theorem d_HM_remove_6 : decode b_HM_remove 6 = .ok (.ifCond .ne 13, 3) := by decide +kernel
theorem d_HM_remove_9 : decode b_HM_remove 9 = .ok (.new 45, 3) := by decide +kernel
theorem d_HM_remove_12 : decode b_HM_remove 12 = .ok (.dup, 1) := by decide +kernel
theorem d_HM_remove_13 : decode b_HM_remove 13 = .ok (.ldc 135, 2) := by decide +kernel
theorem d_HM_remove_15 : decode b_HM_remove 15 = .ok (.invokespecial 49, 3) := by decide +kernel
theorem d_HM_remove_18 : decode b_HM_remove 18 = .ok (.athrow, 1) := by decide +kernel
theorem d_HM_remove_19 : decode b_HM_remove 19 = .ok (.aload_n 0, 1) := by decide +kernel
theorem d_HM_remove_20 : decode b_HM_remove 20 = .ok (.getfield 32, 3) := by decide +kernel
theorem d_HM_remove_23 : decode b_HM_remove 23 = .ok (.iload_n 1, 1) := by decide +kernel
theorem d_HM_remove_24 : decode b_HM_remove 24 = .ok (.aaload, 1) := by decide +kernel
theorem d_HM_remove_25 : decode b_HM_remove 25 = .ok (.astore_n 3, 1) := by decide +kernel
theorem d_HM_remove_26 : decode b_HM_remove 26 = .ok (.aload_n 3, 1) := by decide +kernel
theorem d_HM_remove_27 : decode b_HM_remove 27 = .ok (.aload_n 3, 1) := by decide +kernel
theorem d_HM_remove_28 : decode b_HM_remove 28 = .ok (.iload_n 2, 1) := by decide +kernel
theorem d_HM_remove_29 : decode b_HM_remove 29 = .ok (.aload_n 0, 1) := by decide +kernel
theorem d_HM_remove_30 : decode b_HM_remove 30 = .ok (.getfield 10, 3) := by decide +kernel
theorem d_HM_remove_33 : decode b_HM_remove 33 = .ok (.getfield 61, 3) := by decide +kernel
theorem d_HM_remove_36 : decode b_HM_remove 36 = .ok (.iload_n 2, 1) := by decide +kernel
theorem d_HM_remove_37 : decode b_HM_remove 37 = .ok (.aaload, 1) := by decide +kernel
theorem d_HM_remove_38 : decode b_HM_remove 38 = .ok (.getfield 94, 3) := by decide +kernel
theorem d_HM_remove_41 : decode b_HM_remove 41 = .ok (.invokevirtual 98, 3) := by decide +kernel
theorem d_HM_remove_44 : decode b_HM_remove 44 = .ok (.invokevirtual 102, 3) := by decide +kernel
theorem d_HM_remove_47 : decode b_HM_remove 47 = .ok (.istore 4, 2) := by decide +kernel
theorem d_HM_remove_49 : decode b_HM_remove 49 = .ok (.aload_n 3, 1) := by decide +kernel
theorem d_HM_remove_50 : decode b_HM_remove 50 = .ok (.iload 4, 2) := by decide +kernel
theorem d_HM_remove_52 : decode b_HM_remove 52 = .ok (.invokevirtual 137, 3) := by decide +kernel
theorem d_HM_remove_55 : decode b_HM_remove 55 = .ok (.istore 5, 2) := by decide +kernel
theorem d_HM_remove_57 : decode b_HM_remove 57 = .ok (.iload 4, 2) := by decide +kernel
theorem d_HM_remove_59 : decode b_HM_remove 59 = .ok (.iconst (-1), 1) := by decide +kernel
theorem d_HM_remove_60 : decode b_HM_remove 60 = .ok (.if_icmp .eq 9, 3) := by decide +kernel
theorem d_HM_remove_63 : decode b_HM_remove 63 = .ok (.aload_n 3, 1) := by decide +kernel
theorem d_HM_remove_64 : decode b_HM_remove 64 = .ok (.iload 4, 2) := by decide +kernel
theorem d_HM_remove_66 : decode b_HM_remove 66 = .ok (.invokevirtual 140, 3) := by decide +kernel
theorem d_HM_remove_69 : decode b_HM_remove 69 = .ok (.iload 5, 2) := by decide +kernel
theorem d_HM_remove_71 : decode b_HM_remove 71 = .ok (.ireturn, 1) := by decide +kernel
theorem d_Id_dropAt_0 : decode b_Id_dropAt 0 = .ok (.aload_n 0, 1) := by decide +kernel
theorem d_Id_dropAt_1 : decode b_Id_dropAt 1 = .ok (.iload_n 1, 1) := by decide +kernel
theorem d_Id_dropAt_2 : decode b_Id_dropAt 2 = .ok (.invokevirtual 21, 3) := by decide +kernel
theorem d_Id_dropAt_5 : decode b_Id_dropAt 5 = .ok (.istore_n 2, 1) := by decide +kernel
theorem d_Id_dropAt_6 : decode b_Id_dropAt 6 = .ok (.iload_n 2, 1) := by decide +kernel
theorem d_Id_dropAt_7 : decode b_Id_dropAt 7 = .ok (.iconst (-1), 1) := by decide +kernel
theorem d_Id_dropAt_8 : decode b_Id_dropAt 8 = .ok (.if_icmp .eq 30, 3) := by decide +kernel
theorem d_Id_dropAt_11 : decode b_Id_dropAt 11 = .ok (.aload_n 0, 1) := by decide +kernel
theorem d_Id_dropAt_12 : decode b_Id_dropAt 12 = .ok (.getfield 11, 3) := by decide +kernel
theorem d_Id_dropAt_15 : decode b_Id_dropAt 15 = .ok (.iload_n 2, 1) := by decide +kernel
theorem d_Id_dropAt_16 : decode b_Id_dropAt 16 = .ok (.aconst_null, 1) := by decide +kernel
theorem d_Id_dropAt_17 : decode b_Id_dropAt 17 = .ok (.aastore, 1) := by decide +kernel
theorem d_Id_dropAt_18 : decode b_Id_dropAt 18 = .ok (.aload_n 0, 1) := by decide +kernel
theorem d_Id_dropAt_19 : decode b_Id_dropAt 19 = .ok (.dup, 1) := by decide +kernel
theorem d_Id_dropAt_20 : decode b_Id_dropAt 20 = .ok (.getfield 17, 3) := by decide +kernel
theorem d_Id_dropAt_23 : decode b_Id_dropAt 23 = .ok (.iconst 1, 1) := by decide +kernel
theorem d_Id_dropAt_24 : decode b_Id_dropAt 24 = .ok (.isub, 1) := by decide +kernel
theorem d_Id_dropAt_25 : decode b_Id_dropAt 25 = .ok (.putfield 17, 3) := by decide +kernel
theorem d_Id_dropAt_28 : decode b_Id_dropAt 28 = .ok (.aload_n 0, 1) := by decide +kernel
theorem d_Id_dropAt_29 : decode b_Id_dropAt 29 = .ok (.iconst 1, 1) := by decide +kernel
theorem d_Id_dropAt_30 : decode b_Id_dropAt 30 = .ok (.putfield 29, 3) := by decide +kernel
theorem d_Id_dropAt_33 : decode b_Id_dropAt 33 = .ok (.aload_n 0, 1) := by decide +kernel
theorem d_Id_dropAt_34 : decode b_Id_dropAt 34 = .ok (.iload_n 2, 1) := by decide +kernel
theorem d_Id_dropAt_35 : decode b_Id_dropAt 35 = .ok (.invokevirtual 33, 3) := by decide +kernel
theorem d_Id_dropAt_38 : decode b_Id_dropAt 38 = .ok (.return_, 1) := by decide +kernel
theorem d_Id_closeUp_0 : decode b_Id_closeUp 0 = .ok (.iload_n 1, 1) := by decide +kernel
theorem d_Id_closeUp_1 : decode b_Id_closeUp 1 = .ok (.istore_n 2, 1) := by decide +kernel
theorem d_Id_closeUp_2 : decode b_Id_closeUp 2 = .ok (.iconst 1, 1) := by decide +kernel
theorem d_Id_closeUp_3 : decode b_Id_closeUp 3 = .ok (.istore_n 3, 1) := by decide +kernel
theorem d_Id_closeUp_4 : decode b_Id_closeUp 4 = .ok (.iload_n 3, 1) := by decide +kernel
theorem d_Id_closeUp_5 : decode b_Id_closeUp 5 = .ok (.bipush 16, 2) := by decide +kernel
theorem d_Id_closeUp_7 : decode b_Id_closeUp 7 = .ok (.if_icmp .ge 65, 3) := by decide +kernel
theorem d_Id_closeUp_10 : decode b_Id_closeUp 10 = .ok (.iload_n 1, 1) := by decide +kernel
theorem d_Id_closeUp_11 : decode b_Id_closeUp 11 = .ok (.iload_n 3, 1) := by decide +kernel
theorem d_Id_closeUp_12 : decode b_Id_closeUp 12 = .ok (.iadd, 1) := by decide +kernel
theorem d_Id_closeUp_13 : decode b_Id_closeUp 13 = .ok (.bipush 16, 2) := by decide +kernel
theorem d_Id_closeUp_15 : decode b_Id_closeUp 15 = .ok (.irem, 1) := by decide +kernel
theorem d_Id_closeUp_16 : decode b_Id_closeUp 16 = .ok (.istore 4, 2) := by decide +kernel
theorem d_Id_closeUp_18 : decode b_Id_closeUp 18 = .ok (.aload_n 0, 1) := by decide +kernel
theorem d_Id_closeUp_19 : decode b_Id_closeUp 19 = .ok (.getfield 11, 3) := by decide +kernel
theorem d_Id_closeUp_22 : decode b_Id_closeUp 22 = .ok (.iload 4, 2) := by decide +kernel
theorem d_Id_closeUp_24 : decode b_Id_closeUp 24 = .ok (.aaload, 1) := by decide +kernel
theorem d_Id_closeUp_25 : decode b_Id_closeUp 25 = .ok (.astore 5, 2) := by decide +kernel
theorem d_Id_closeUp_27 : decode b_Id_closeUp 27 = .ok (.aload 5, 2) := by decide +kernel
theorem d_Id_closeUp_29 : decode b_Id_closeUp 29 = .ok (.ifnonnull 4, 3) := by decide +kernel
theorem d_Id_closeUp_32 : decode b_Id_closeUp 32 = .ok (.return_, 1) := by decide +kernel
theorem d_Id_closeUp_33 : decode b_Id_closeUp 33 = .ok (.aload 5, 2) := by decide +kernel
theorem d_Id_closeUp_35 : decode b_Id_closeUp 35 = .ok (.invokestatic 25, 3) := by decide +kernel
theorem d_Id_closeUp_38 : decode b_Id_closeUp 38 = .ok (.iload_n 2, 1) := by decide +kernel
theorem d_Id_closeUp_39 : decode b_Id_closeUp 39 = .ok (.iload 4, 2) := by decide +kernel
theorem d_Id_closeUp_41 : decode b_Id_closeUp 41 = .ok (.invokestatic 40, 3) := by decide +kernel
theorem d_Id_closeUp_44 : decode b_Id_closeUp 44 = .ok (.ifCond .ne 22, 3) := by decide +kernel
theorem d_Id_closeUp_47 : decode b_Id_closeUp 47 = .ok (.aload_n 0, 1) := by decide +kernel
theorem d_Id_closeUp_48 : decode b_Id_closeUp 48 = .ok (.getfield 11, 3) := by decide +kernel
theorem d_Id_closeUp_51 : decode b_Id_closeUp 51 = .ok (.iload_n 2, 1) := by decide +kernel
theorem d_Id_closeUp_52 : decode b_Id_closeUp 52 = .ok (.aload 5, 2) := by decide +kernel
theorem d_Id_closeUp_54 : decode b_Id_closeUp 54 = .ok (.aastore, 1) := by decide +kernel
theorem d_Id_closeUp_55 : decode b_Id_closeUp 55 = .ok (.aload_n 0, 1) := by decide +kernel
theorem d_Id_closeUp_56 : decode b_Id_closeUp 56 = .ok (.getfield 11, 3) := by decide +kernel
theorem d_Id_closeUp_59 : decode b_Id_closeUp 59 = .ok (.iload 4, 2) := by decide +kernel
theorem d_Id_closeUp_61 : decode b_Id_closeUp 61 = .ok (.aconst_null, 1) := by decide +kernel
theorem d_Id_closeUp_62 : decode b_Id_closeUp 62 = .ok (.aastore, 1) := by decide +kernel
theorem d_Id_closeUp_63 : decode b_Id_closeUp 63 = .ok (.iload 4, 2) := by decide +kernel
theorem d_Id_closeUp_65 : decode b_Id_closeUp 65 = .ok (.istore_n 2, 1) := by decide +kernel
theorem d_Id_closeUp_66 : decode b_Id_closeUp 66 = .ok (.iinc 3 1, 3) := by decide +kernel
theorem d_Id_closeUp_69 : decode b_Id_closeUp 69 = .ok (.goto (-65), 3) := by decide +kernel
theorem d_Id_closeUp_72 : decode b_Id_closeUp 72 = .ok (.return_, 1) := by decide +kernel
theorem d_Id_liesBehind_0 : decode b_Id_liesBehind 0 = .ok (.iload_n 0, 1) := by decide +kernel
theorem d_Id_liesBehind_1 : decode b_Id_liesBehind 1 = .ok (.iload_n 1, 1) := by decide +kernel
theorem d_Id_liesBehind_2 : decode b_Id_liesBehind 2 = .ok (.isub, 1) := by decide +kernel
theorem d_Id_liesBehind_3 : decode b_Id_liesBehind 3 = .ok (.bipush 16, 2) := by decide +kernel
theorem d_Id_liesBehind_5 : decode b_Id_liesBehind 5 = .ok (.invokestatic 44, 3) := by decide +kernel
theorem d_Id_liesBehind_8 : decode b_Id_liesBehind 8 = .ok (.istore_n 3, 1) := by decide +kernel
theorem d_Id_liesBehind_9 : decode b_Id_liesBehind 9 = .ok (.iload_n 3, 1) := by decide +kernel
theorem d_Id_liesBehind_10 : decode b_Id_liesBehind 10 = .ok (.ifCond .le 19, 3) := by decide +kernel
theorem d_Id_liesBehind_13 : decode b_Id_liesBehind 13 = .ok (.iload_n 3, 1) := by decide +kernel
theorem d_Id_liesBehind_14 : decode b_Id_liesBehind 14 = .ok (.iload_n 2, 1) := by decide +kernel
theorem d_Id_liesBehind_15 : decode b_Id_liesBehind 15 = .ok (.iload_n 1, 1) := by decide +kernel
theorem d_Id_liesBehind_16 : decode b_Id_liesBehind 16 = .ok (.isub, 1) := by decide +kernel
theorem d_Id_liesBehind_17 : decode b_Id_liesBehind 17 = .ok (.bipush 16, 2) := by decide +kernel
theorem d_Id_liesBehind_19 : decode b_Id_liesBehind 19 = .ok (.invokestatic 44, 3) := by decide +kernel
theorem d_Id_liesBehind_22 : decode b_Id_liesBehind 22 = .ok (.if_icmp .gt 7, 3) := by decide +kernel
theorem d_Id_liesBehind_25 : decode b_Id_liesBehind 25 = .ok (.iconst 1, 1) := by decide +kernel
theorem d_Id_liesBehind_26 : decode b_Id_liesBehind 26 = .ok (.goto 4, 3) := by decide +kernel
theorem d_Id_liesBehind_29 : decode b_Id_liesBehind 29 = .ok (.iconst 0, 1) := by decide +kernel
theorem d_Id_liesBehind_30 : decode b_Id_liesBehind 30 = .ok (.ireturn, 1) := by decide +kernel
theorem d_HM_entry_0 : decode b_HM_entry 0 = .ok (.iload_n 1, 1) := by decide +kernel
theorem d_HM_entry_1 : decode b_HM_entry 1 = .ok (.invokestatic 143, 3) := by decide +kernel
theorem d_HM_entry_4 : decode b_HM_entry 4 = .ok (.ifCond .eq 12, 3) := by decide +kernel
theorem d_HM_entry_7 : decode b_HM_entry 7 = .ok (.iload_n 3, 1) := by decide +kernel
theorem d_HM_entry_8 : decode b_HM_entry 8 = .ok (.ifCond .lt 8, 3) := by decide +kernel
theorem d_HM_entry_11 : decode b_HM_entry 11 = .ok (.iload_n 3, 1) := by decide +kernel
theorem d_HM_entry_12 : decode b_HM_entry 12 = .ok (.iconst 1, 1) := by decide +kernel
theorem d_HM_entry_13 : decode b_HM_entry 13 = .ok (.if_icmp .le 13, 3) := by decide +kernel
theorem d_HM_entry_16 : decode b_HM_entry 16 = .ok (.new 149, 3) := by decide +kernel
theorem d_HM_entry_19 : decode b_HM_entry 19 = .ok (.dup, 1) := by decide +kernel
theorem d_HM_entry_20 : decode b_HM_entry 20 = .ok (.ldc 151, 2) := by decide +kernel
theorem d_HM_entry_22 : decode b_HM_entry 22 = .ok (.invokespecial 153, 3) := by decide +kernel
theorem d_HM_entry_25 : decode b_HM_entry 25 = .ok (.athrow, 1) := by decide +kernel
theorem d_HM_entry_26 : decode b_HM_entry 26 = .ok (.iload_n 3, 1) := by decide +kernel
theorem d_HM_entry_27 : decode b_HM_entry 27 = .ok (.ifCond .ne 16, 3) := by decide +kernel
theorem d_HM_entry_30 : decode b_HM_entry 30 = .ok (.aload_n 0, 1) := by decide +kernel
theorem d_HM_entry_31 : decode b_HM_entry 31 = .ok (.getfield 32, 3) := by decide +kernel
theorem d_HM_entry_34 : decode b_HM_entry 34 = .ok (.iload_n 1, 1) := by decide +kernel
theorem d_HM_entry_35 : decode b_HM_entry 35 = .ok (.aaload, 1) := by decide +kernel
theorem d_HM_entry_36 : decode b_HM_entry 36 = .ok (.iload_n 2, 1) := by decide +kernel
theorem d_HM_entry_37 : decode b_HM_entry 37 = .ok (.invokevirtual 154, 3) := by decide +kernel
theorem d_HM_entry_40 : decode b_HM_entry 40 = .ok (.goto 13, 3) := by decide +kernel
theorem d_HM_entry_43 : decode b_HM_entry 43 = .ok (.aload_n 0, 1) := by decide +kernel
theorem d_HM_entry_44 : decode b_HM_entry 44 = .ok (.getfield 32, 3) := by decide +kernel
theorem d_HM_entry_47 : decode b_HM_entry 47 = .ok (.iload_n 1, 1) := by decide +kernel
theorem d_HM_entry_48 : decode b_HM_entry 48 = .ok (.aaload, 1) := by decide +kernel
theorem d_HM_entry_49 : decode b_HM_entry 49 = .ok (.iload_n 2, 1) := by decide +kernel
theorem d_HM_entry_50 : decode b_HM_entry 50 = .ok (.invokevirtual 137, 3) := by decide +kernel
theorem d_HM_entry_53 : decode b_HM_entry 53 = .ok (.istore 4, 2) := by decide +kernel
theorem d_HM_entry_55 : decode b_HM_entry 55 = .ok (.iload 4, 2) := by decide +kernel
theorem d_HM_entry_57 : decode b_HM_entry 57 = .ok (.iconst (-1), 1) := by decide +kernel
theorem d_HM_entry_58 : decode b_HM_entry 58 = .ok (.if_icmp .ne 13, 3) := by decide +kernel
theorem d_HM_entry_61 : decode b_HM_entry 61 = .ok (.new 149, 3) := by decide +kernel
theorem d_HM_entry_64 : decode b_HM_entry 64 = .ok (.dup, 1) := by decide +kernel
theorem d_HM_entry_65 : decode b_HM_entry 65 = .ok (.ldc 157, 2) := by decide +kernel
theorem d_HM_entry_67 : decode b_HM_entry 67 = .ok (.invokespecial 153, 3) := by decide +kernel
theorem d_HM_entry_70 : decode b_HM_entry 70 = .ok (.athrow, 1) := by decide +kernel
theorem d_HM_entry_71 : decode b_HM_entry 71 = .ok (.iload 4, 2) := by decide +kernel
theorem d_HM_entry_73 : decode b_HM_entry 73 = .ok (.ireturn, 1) := by decide +kernel
theorem d_Ta_keyAt_0 : decode b_Ta_keyAt 0 = .ok (.aload_n 0, 1) := by decide +kernel
theorem d_Ta_keyAt_1 : decode b_Ta_keyAt 1 = .ok (.iload_n 1, 1) := by decide +kernel
theorem d_Ta_keyAt_2 : decode b_Ta_keyAt 2 = .ok (.invokevirtual 9, 3) := by decide +kernel
theorem d_Ta_keyAt_5 : decode b_Ta_keyAt 5 = .ok (.astore_n 2, 1) := by decide +kernel
theorem d_Ta_keyAt_6 : decode b_Ta_keyAt 6 = .ok (.aload_n 2, 1) := by decide +kernel
theorem d_Ta_keyAt_7 : decode b_Ta_keyAt 7 = .ok (.ifnonnull 7, 3) := by decide +kernel
theorem d_Ta_keyAt_10 : decode b_Ta_keyAt 10 = .ok (.iconst (-1), 1) := by decide +kernel
theorem d_Ta_keyAt_11 : decode b_Ta_keyAt 11 = .ok (.goto 7, 3) := by decide +kernel
theorem d_Ta_keyAt_14 : decode b_Ta_keyAt 14 = .ok (.aload_n 2, 1) := by decide +kernel
theorem d_Ta_keyAt_15 : decode b_Ta_keyAt 15 = .ok (.getfield 15, 3) := by decide +kernel
theorem d_Ta_keyAt_18 : decode b_Ta_keyAt 18 = .ok (.ireturn, 1) := by decide +kernel
theorem d_HM_walk_0 : decode b_HM_walk 0 = .ok (.iload_n 1, 1) := by decide +kernel
theorem d_HM_walk_1 : decode b_HM_walk 1 = .ok (.invokestatic 143, 3) := by decide +kernel
theorem d_HM_walk_4 : decode b_HM_walk 4 = .ok (.ifCond .ne 13, 3) := by decide +kernel
theorem d_HM_walk_7 : decode b_HM_walk 7 = .ok (.new 45, 3) := by decide +kernel
theorem d_HM_walk_10 : decode b_HM_walk 10 = .ok (.dup, 1) := by decide +kernel
theorem d_HM_walk_11 : decode b_HM_walk 11 = .ok (.ldc 159, 2) := by decide +kernel
theorem d_HM_walk_13 : decode b_HM_walk 13 = .ok (.invokespecial 49, 3) := by decide +kernel
theorem d_HM_walk_16 : decode b_HM_walk 16 = .ok (.athrow, 1) := by decide +kernel
theorem d_HM_walk_17 : decode b_HM_walk 17 = .ok (.aload_n 0, 1) := by decide +kernel
theorem d_HM_walk_18 : decode b_HM_walk 18 = .ok (.getfield 32, 3) := by decide +kernel
theorem d_HM_walk_21 : decode b_HM_walk 21 = .ok (.iload_n 1, 1) := by decide +kernel
theorem d_HM_walk_22 : decode b_HM_walk 22 = .ok (.aaload, 1) := by decide +kernel
theorem d_HM_walk_23 : decode b_HM_walk 23 = .ok (.astore_n 2, 1) := by decide +kernel
theorem d_HM_walk_24 : decode b_HM_walk 24 = .ok (.aload_n 2, 1) := by decide +kernel
theorem d_HM_walk_25 : decode b_HM_walk 25 = .ok (.iconst 1, 1) := by decide +kernel
theorem d_HM_walk_26 : decode b_HM_walk 26 = .ok (.putfield 161, 3) := by decide +kernel
theorem d_HM_walk_29 : decode b_HM_walk 29 = .ok (.aload_n 2, 1) := by decide +kernel
theorem d_HM_walk_30 : decode b_HM_walk 30 = .ok (.iconst 0, 1) := by decide +kernel
theorem d_HM_walk_31 : decode b_HM_walk 31 = .ok (.putfield 164, 3) := by decide +kernel
theorem d_HM_walk_34 : decode b_HM_walk 34 = .ok (.aload_n 2, 1) := by decide +kernel
theorem d_HM_walk_35 : decode b_HM_walk 35 = .ok (.iconst 0, 1) := by decide +kernel
theorem d_HM_walk_36 : decode b_HM_walk 36 = .ok (.putfield 167, 3) := by decide +kernel
theorem d_HM_walk_39 : decode b_HM_walk 39 = .ok (.return_, 1) := by decide +kernel
theorem d_HM_step_0 : decode b_HM_step 0 = .ok (.iload_n 1, 1) := by decide +kernel
theorem d_HM_step_1 : decode b_HM_step 1 = .ok (.invokestatic 143, 3) := by decide +kernel
theorem d_HM_step_4 : decode b_HM_step 4 = .ok (.ifCond .eq 15, 3) := by decide +kernel
theorem d_HM_step_7 : decode b_HM_step 7 = .ok (.aload_n 0, 1) := by decide +kernel
theorem d_HM_step_8 : decode b_HM_step 8 = .ok (.getfield 32, 3) := by decide +kernel
theorem d_HM_step_11 : decode b_HM_step 11 = .ok (.iload_n 1, 1) := by decide +kernel
theorem d_HM_step_12 : decode b_HM_step 12 = .ok (.aaload, 1) := by decide +kernel
theorem d_HM_step_13 : decode b_HM_step 13 = .ok (.getfield 161, 3) := by decide +kernel
theorem d_HM_step_16 : decode b_HM_step 16 = .ok (.ifCond .ne 13, 3) := by decide +kernel
theorem d_HM_step_19 : decode b_HM_step 19 = .ok (.new 45, 3) := by decide +kernel
theorem d_HM_step_22 : decode b_HM_step 22 = .ok (.dup, 1) := by decide +kernel
theorem d_HM_step_23 : decode b_HM_step 23 = .ok (.ldc 170, 2) := by decide +kernel
theorem d_HM_step_25 : decode b_HM_step 25 = .ok (.invokespecial 49, 3) := by decide +kernel
theorem d_HM_step_28 : decode b_HM_step 28 = .ok (.athrow, 1) := by decide +kernel
theorem d_HM_step_29 : decode b_HM_step 29 = .ok (.aload_n 0, 1) := by decide +kernel
theorem d_HM_step_30 : decode b_HM_step 30 = .ok (.getfield 32, 3) := by decide +kernel
theorem d_HM_step_33 : decode b_HM_step 33 = .ok (.iload_n 1, 1) := by decide +kernel
theorem d_HM_step_34 : decode b_HM_step 34 = .ok (.aaload, 1) := by decide +kernel
theorem d_HM_step_35 : decode b_HM_step 35 = .ok (.astore_n 2, 1) := by decide +kernel
theorem d_HM_step_36 : decode b_HM_step 36 = .ok (.aload_n 2, 1) := by decide +kernel
theorem d_HM_step_37 : decode b_HM_step 37 = .ok (.getfield 164, 3) := by decide +kernel
theorem d_HM_step_40 : decode b_HM_step 40 = .ok (.ifCond .eq 13, 3) := by decide +kernel
theorem d_HM_step_43 : decode b_HM_step 43 = .ok (.new 56, 3) := by decide +kernel
theorem d_HM_step_46 : decode b_HM_step 46 = .ok (.dup, 1) := by decide +kernel
theorem d_HM_step_47 : decode b_HM_step 47 = .ok (.ldc 172, 2) := by decide +kernel
theorem d_HM_step_49 : decode b_HM_step 49 = .ok (.invokespecial 60, 3) := by decide +kernel
theorem d_HM_step_52 : decode b_HM_step 52 = .ok (.athrow, 1) := by decide +kernel
theorem d_HM_step_53 : decode b_HM_step 53 = .ok (.aload_n 2, 1) := by decide +kernel
theorem d_HM_step_54 : decode b_HM_step 54 = .ok (.aload_n 2, 1) := by decide +kernel
theorem d_HM_step_55 : decode b_HM_step 55 = .ok (.getfield 167, 3) := by decide +kernel
theorem d_HM_step_58 : decode b_HM_step 58 = .ok (.invokevirtual 154, 3) := by decide +kernel
theorem d_HM_step_61 : decode b_HM_step 61 = .ok (.istore_n 3, 1) := by decide +kernel
theorem d_HM_step_62 : decode b_HM_step 62 = .ok (.iload_n 3, 1) := by decide +kernel
theorem d_HM_step_63 : decode b_HM_step 63 = .ok (.iconst (-1), 1) := by decide +kernel
theorem d_HM_step_64 : decode b_HM_step 64 = .ok (.if_icmp .ne 13, 3) := by decide +kernel
theorem d_HM_step_67 : decode b_HM_step 67 = .ok (.new 149, 3) := by decide +kernel
theorem d_HM_step_70 : decode b_HM_step 70 = .ok (.dup, 1) := by decide +kernel
theorem d_HM_step_71 : decode b_HM_step 71 = .ok (.ldc 174, 2) := by decide +kernel
theorem d_HM_step_73 : decode b_HM_step 73 = .ok (.invokespecial 153, 3) := by decide +kernel
theorem d_HM_step_76 : decode b_HM_step 76 = .ok (.athrow, 1) := by decide +kernel
theorem d_HM_step_77 : decode b_HM_step 77 = .ok (.aload_n 2, 1) := by decide +kernel
theorem d_HM_step_78 : decode b_HM_step 78 = .ok (.dup, 1) := by decide +kernel
theorem d_HM_step_79 : decode b_HM_step 79 = .ok (.getfield 167, 3) := by decide +kernel
theorem d_HM_step_82 : decode b_HM_step 82 = .ok (.iconst 1, 1) := by decide +kernel
theorem d_HM_step_83 : decode b_HM_step 83 = .ok (.iadd, 1) := by decide +kernel
theorem d_HM_step_84 : decode b_HM_step 84 = .ok (.putfield 167, 3) := by decide +kernel
theorem d_HM_step_87 : decode b_HM_step 87 = .ok (.iload_n 3, 1) := by decide +kernel
theorem d_HM_step_88 : decode b_HM_step 88 = .ok (.ireturn, 1) := by decide +kernel
theorem d_HM_collect_0 : decode b_HM_collect 0 = .ok (.iload_n 1, 1) := by decide +kernel
theorem d_HM_collect_1 : decode b_HM_collect 1 = .ok (.ifCond .lt 8, 3) := by decide +kernel
theorem d_HM_collect_4 : decode b_HM_collect 4 = .ok (.iload_n 1, 1) := by decide +kernel
theorem d_HM_collect_5 : decode b_HM_collect 5 = .ok (.iconst 3, 1) := by decide +kernel
theorem d_HM_collect_6 : decode b_HM_collect 6 = .ok (.if_icmp .le 13, 3) := by decide +kernel
theorem d_HM_collect_9 : decode b_HM_collect 9 = .ok (.new 45, 3) := by decide +kernel
theorem d_HM_collect_12 : decode b_HM_collect 12 = .ok (.dup, 1) := by decide +kernel
theorem d_HM_collect_13 : decode b_HM_collect 13 = .ok (.ldc 176, 2) := by decide +kernel
theorem d_HM_collect_15 : decode b_HM_collect 15 = .ok (.invokespecial 49, 3) := by decide +kernel
theorem d_HM_collect_18 : decode b_HM_collect 18 = .ok (.athrow, 1) := by decide +kernel
theorem d_HM_collect_19 : decode b_HM_collect 19 = .ok (.aload_n 0, 1) := by decide +kernel
theorem d_HM_collect_20 : decode b_HM_collect 20 = .ok (.getfield 10, 3) := by decide +kernel
theorem d_HM_collect_23 : decode b_HM_collect 23 = .ok (.invokevirtual 178, 3) := by decide +kernel
theorem d_HM_collect_26 : decode b_HM_collect 26 = .ok (.aload_n 0, 1) := by decide +kernel
theorem d_HM_collect_27 : decode b_HM_collect 27 = .ok (.invokevirtual 181, 3) := by decide +kernel
theorem d_HM_collect_30 : decode b_HM_collect 30 = .ok (.aload_n 0, 1) := by decide +kernel
theorem d_HM_collect_31 : decode b_HM_collect 31 = .ok (.bipush 12, 2) := by decide +kernel
theorem d_HM_collect_33 : decode b_HM_collect 33 = .ok (.iconst 4, 1) := by decide +kernel
theorem d_HM_collect_34 : decode b_HM_collect 34 = .ok (.iload_n 1, 1) := by decide +kernel
theorem d_HM_collect_35 : decode b_HM_collect 35 = .ok (.imul, 1) := by decide +kernel
theorem d_HM_collect_36 : decode b_HM_collect 36 = .ok (.isub, 1) := by decide +kernel
theorem d_HM_collect_37 : decode b_HM_collect 37 = .ok (.invokevirtual 184, 3) := by decide +kernel
theorem d_HM_collect_40 : decode b_HM_collect 40 = .ok (.aload_n 0, 1) := by decide +kernel
theorem d_HM_collect_41 : decode b_HM_collect 41 = .ok (.invokevirtual 187, 3) := by decide +kernel
theorem d_HM_collect_44 : decode b_HM_collect 44 = .ok (.aload_n 0, 1) := by decide +kernel
theorem d_HM_collect_45 : decode b_HM_collect 45 = .ok (.getfield 10, 3) := by decide +kernel
theorem d_HM_collect_48 : decode b_HM_collect 48 = .ok (.invokevirtual 190, 3) := by decide +kernel
theorem d_HM_collect_51 : decode b_HM_collect 51 = .ok (.ireturn, 1) := by decide +kernel
theorem d_He_holdRootsOnly_0 : decode b_He_holdRootsOnly 0 = .ok (.aload_n 0, 1) := by decide +kernel
theorem d_He_holdRootsOnly_1 : decode b_He_holdRootsOnly 1 = .ok (.iconst 0, 1) := by decide +kernel
theorem d_He_holdRootsOnly_2 : decode b_He_holdRootsOnly 2 = .ok (.putfield 29, 3) := by decide +kernel
theorem d_He_holdRootsOnly_5 : decode b_He_holdRootsOnly 5 = .ok (.iconst 0, 1) := by decide +kernel
theorem d_He_holdRootsOnly_6 : decode b_He_holdRootsOnly 6 = .ok (.istore_n 1, 1) := by decide +kernel
theorem d_He_holdRootsOnly_7 : decode b_He_holdRootsOnly 7 = .ok (.iload_n 1, 1) := by decide +kernel
theorem d_He_holdRootsOnly_8 : decode b_He_holdRootsOnly 8 = .ok (.bipush 32, 2) := by decide +kernel
theorem d_He_holdRootsOnly_10 : decode b_He_holdRootsOnly 10 = .ok (.if_icmp .ge 28, 3) := by decide +kernel
theorem d_He_holdRootsOnly_13 : decode b_He_holdRootsOnly 13 = .ok (.aload_n 0, 1) := by decide +kernel
theorem d_He_holdRootsOnly_14 : decode b_He_holdRootsOnly 14 = .ok (.getfield 11, 3) := by decide +kernel
theorem d_He_holdRootsOnly_17 : decode b_He_holdRootsOnly 17 = .ok (.iload_n 1, 1) := by decide +kernel
theorem d_He_holdRootsOnly_18 : decode b_He_holdRootsOnly 18 = .ok (.aaload, 1) := by decide +kernel
theorem d_He_holdRootsOnly_19 : decode b_He_holdRootsOnly 19 = .ok (.ifnull 13, 3) := by decide +kernel
theorem d_He_holdRootsOnly_22 : decode b_He_holdRootsOnly 22 = .ok (.aload_n 0, 1) := by decide +kernel
theorem d_He_holdRootsOnly_23 : decode b_He_holdRootsOnly 23 = .ok (.getfield 11, 3) := by decide +kernel
theorem d_He_holdRootsOnly_26 : decode b_He_holdRootsOnly 26 = .ok (.iload_n 1, 1) := by decide +kernel
theorem d_He_holdRootsOnly_27 : decode b_He_holdRootsOnly 27 = .ok (.aaload, 1) := by decide +kernel
theorem d_He_holdRootsOnly_28 : decode b_He_holdRootsOnly 28 = .ok (.iconst 0, 1) := by decide +kernel
theorem d_He_holdRootsOnly_29 : decode b_He_holdRootsOnly 29 = .ok (.putfield 25, 3) := by decide +kernel
theorem d_He_holdRootsOnly_32 : decode b_He_holdRootsOnly 32 = .ok (.iinc 1 1, 3) := by decide +kernel
theorem d_He_holdRootsOnly_35 : decode b_He_holdRootsOnly 35 = .ok (.goto (-28), 3) := by decide +kernel
theorem d_He_holdRootsOnly_38 : decode b_He_holdRootsOnly 38 = .ok (.iconst 0, 1) := by decide +kernel
theorem d_He_holdRootsOnly_39 : decode b_He_holdRootsOnly 39 = .ok (.istore_n 1, 1) := by decide +kernel
theorem d_He_holdRootsOnly_40 : decode b_He_holdRootsOnly 40 = .ok (.iload_n 1, 1) := by decide +kernel
theorem d_He_holdRootsOnly_41 : decode b_He_holdRootsOnly 41 = .ok (.bipush 32, 2) := by decide +kernel
theorem d_He_holdRootsOnly_43 : decode b_He_holdRootsOnly 43 = .ok (.if_icmp .ge 35, 3) := by decide +kernel
theorem d_He_holdRootsOnly_46 : decode b_He_holdRootsOnly 46 = .ok (.aload_n 0, 1) := by decide +kernel
theorem d_He_holdRootsOnly_47 : decode b_He_holdRootsOnly 47 = .ok (.getfield 11, 3) := by decide +kernel
theorem d_He_holdRootsOnly_50 : decode b_He_holdRootsOnly 50 = .ok (.iload_n 1, 1) := by decide +kernel
theorem d_He_holdRootsOnly_51 : decode b_He_holdRootsOnly 51 = .ok (.aaload, 1) := by decide +kernel
theorem d_He_holdRootsOnly_52 : decode b_He_holdRootsOnly 52 = .ok (.ifnull 20, 3) := by decide +kernel
theorem d_He_holdRootsOnly_55 : decode b_He_holdRootsOnly 55 = .ok (.aload_n 0, 1) := by decide +kernel
theorem d_He_holdRootsOnly_56 : decode b_He_holdRootsOnly 56 = .ok (.getfield 11, 3) := by decide +kernel
theorem d_He_holdRootsOnly_59 : decode b_He_holdRootsOnly 59 = .ok (.iload_n 1, 1) := by decide +kernel
theorem d_He_holdRootsOnly_60 : decode b_He_holdRootsOnly 60 = .ok (.aaload, 1) := by decide +kernel
theorem d_He_holdRootsOnly_61 : decode b_He_holdRootsOnly 61 = .ok (.getfield 33, 3) := by decide +kernel
theorem d_He_holdRootsOnly_64 : decode b_He_holdRootsOnly 64 = .ok (.ifCond .eq 8, 3) := by decide +kernel
theorem d_He_holdRootsOnly_67 : decode b_He_holdRootsOnly 67 = .ok (.aload_n 0, 1) := by decide +kernel
theorem d_He_holdRootsOnly_68 : decode b_He_holdRootsOnly 68 = .ok (.iload_n 1, 1) := by decide +kernel
theorem d_He_holdRootsOnly_69 : decode b_He_holdRootsOnly 69 = .ok (.invokevirtual 36, 3) := by decide +kernel
theorem d_He_holdRootsOnly_72 : decode b_He_holdRootsOnly 72 = .ok (.iinc 1 1, 3) := by decide +kernel
theorem d_He_holdRootsOnly_75 : decode b_He_holdRootsOnly 75 = .ok (.goto (-35), 3) := by decide +kernel
theorem d_He_holdRootsOnly_78 : decode b_He_holdRootsOnly 78 = .ok (.return_, 1) := by decide +kernel
theorem d_He_hold_0 : decode b_He_hold 0 = .ok (.aload_n 0, 1) := by decide +kernel
theorem d_He_hold_1 : decode b_He_hold 1 = .ok (.getfield 29, 3) := by decide +kernel
theorem d_He_hold_4 : decode b_He_hold 4 = .ok (.istore_n 2, 1) := by decide +kernel
theorem d_He_hold_5 : decode b_He_hold 5 = .ok (.aload_n 0, 1) := by decide +kernel
theorem d_He_hold_6 : decode b_He_hold 6 = .ok (.iload_n 1, 1) := by decide +kernel
theorem d_He_hold_7 : decode b_He_hold 7 = .ok (.invokevirtual 40, 3) := by decide +kernel
theorem d_He_hold_10 : decode b_He_hold 10 = .ok (.iload_n 2, 1) := by decide +kernel
theorem d_He_hold_11 : decode b_He_hold 11 = .ok (.istore_n 3, 1) := by decide +kernel
theorem d_He_hold_12 : decode b_He_hold 12 = .ok (.iload_n 3, 1) := by decide +kernel
theorem d_He_hold_13 : decode b_He_hold 13 = .ok (.bipush 32, 2) := by decide +kernel
theorem d_He_hold_15 : decode b_He_hold 15 = .ok (.if_icmp .ge 27, 3) := by decide +kernel
theorem d_He_hold_18 : decode b_He_hold 18 = .ok (.iload_n 3, 1) := by decide +kernel
theorem d_He_hold_19 : decode b_He_hold 19 = .ok (.aload_n 0, 1) := by decide +kernel
theorem d_He_hold_20 : decode b_He_hold 20 = .ok (.getfield 29, 3) := by decide +kernel
theorem d_He_hold_23 : decode b_He_hold 23 = .ok (.if_icmp .ge 19, 3) := by decide +kernel
theorem d_He_hold_26 : decode b_He_hold 26 = .ok (.aload_n 0, 1) := by decide +kernel
theorem d_He_hold_27 : decode b_He_hold 27 = .ok (.aload_n 0, 1) := by decide +kernel
theorem d_He_hold_28 : decode b_He_hold 28 = .ok (.getfield 17, 3) := by decide +kernel
theorem d_He_hold_31 : decode b_He_hold 31 = .ok (.iload_n 3, 1) := by decide +kernel
theorem d_He_hold_32 : decode b_He_hold 32 = .ok (.iaload, 1) := by decide +kernel
theorem d_He_hold_33 : decode b_He_hold 33 = .ok (.invokevirtual 43, 3) := by decide +kernel
theorem d_He_hold_36 : decode b_He_hold 36 = .ok (.iinc 3 1, 3) := by decide +kernel
theorem d_He_hold_39 : decode b_He_hold 39 = .ok (.goto (-27), 3) := by decide +kernel
theorem d_He_hold_42 : decode b_He_hold 42 = .ok (.return_, 1) := by decide +kernel
theorem d_He_mark_0 : decode b_He_mark 0 = .ok (.aload_n 0, 1) := by decide +kernel
theorem d_He_mark_1 : decode b_He_mark 1 = .ok (.iload_n 1, 1) := by decide +kernel
theorem d_He_mark_2 : decode b_He_mark 2 = .ok (.invokevirtual 21, 3) := by decide +kernel
theorem d_He_mark_5 : decode b_He_mark 5 = .ok (.ifCond .eq 54, 3) := by decide +kernel
theorem d_He_mark_8 : decode b_He_mark 8 = .ok (.aload_n 0, 1) := by decide +kernel
theorem d_He_mark_9 : decode b_He_mark 9 = .ok (.getfield 11, 3) := by decide +kernel
theorem d_He_mark_12 : decode b_He_mark 12 = .ok (.iload_n 1, 1) := by decide +kernel
theorem d_He_mark_13 : decode b_He_mark 13 = .ok (.aaload, 1) := by decide +kernel
theorem d_He_mark_14 : decode b_He_mark 14 = .ok (.getfield 25, 3) := by decide +kernel
theorem d_He_mark_17 : decode b_He_mark 17 = .ok (.ifCond .ne 42, 3) := by decide +kernel
theorem d_He_mark_20 : decode b_He_mark 20 = .ok (.aload_n 0, 1) := by decide +kernel
theorem d_He_mark_21 : decode b_He_mark 21 = .ok (.getfield 29, 3) := by decide +kernel
theorem d_He_mark_24 : decode b_He_mark 24 = .ok (.bipush 32, 2) := by decide +kernel
theorem d_He_mark_26 : decode b_He_mark 26 = .ok (.if_icmp .ge 33, 3) := by decide +kernel
theorem d_He_mark_29 : decode b_He_mark 29 = .ok (.aload_n 0, 1) := by decide +kernel
theorem d_He_mark_30 : decode b_He_mark 30 = .ok (.getfield 11, 3) := by decide +kernel
theorem d_He_mark_33 : decode b_He_mark 33 = .ok (.iload_n 1, 1) := by decide +kernel
theorem d_He_mark_34 : decode b_He_mark 34 = .ok (.aaload, 1) := by decide +kernel
theorem d_He_mark_35 : decode b_He_mark 35 = .ok (.iconst 1, 1) := by decide +kernel
theorem d_He_mark_36 : decode b_He_mark 36 = .ok (.putfield 25, 3) := by decide +kernel
theorem d_He_mark_39 : decode b_He_mark 39 = .ok (.aload_n 0, 1) := by decide +kernel
theorem d_He_mark_40 : decode b_He_mark 40 = .ok (.getfield 17, 3) := by decide +kernel
theorem d_He_mark_43 : decode b_He_mark 43 = .ok (.aload_n 0, 1) := by decide +kernel
theorem d_He_mark_44 : decode b_He_mark 44 = .ok (.getfield 29, 3) := by decide +kernel
theorem d_He_mark_47 : decode b_He_mark 47 = .ok (.iload_n 1, 1) := by decide +kernel
theorem d_He_mark_48 : decode b_He_mark 48 = .ok (.iastore, 1) := by decide +kernel
theorem d_He_mark_49 : decode b_He_mark 49 = .ok (.aload_n 0, 1) := by decide +kernel
theorem d_He_mark_50 : decode b_He_mark 50 = .ok (.dup, 1) := by decide +kernel
theorem d_He_mark_51 : decode b_He_mark 51 = .ok (.getfield 29, 3) := by decide +kernel
theorem d_He_mark_54 : decode b_He_mark 54 = .ok (.iconst 1, 1) := by decide +kernel
theorem d_He_mark_55 : decode b_He_mark 55 = .ok (.iadd, 1) := by decide +kernel
theorem d_He_mark_56 : decode b_He_mark 56 = .ok (.putfield 29, 3) := by decide +kernel
theorem d_He_mark_59 : decode b_He_mark 59 = .ok (.return_, 1) := by decide +kernel
theorem d_He_markWhatItRefersTo_0 : decode b_He_markWhatItRefersTo 0 = .ok (.aload_n 0, 1) := by decide +kernel
theorem d_He_markWhatItRefersTo_1 : decode b_He_markWhatItRefersTo 1 = .ok (.iload_n 1, 1) := by decide +kernel
theorem d_He_markWhatItRefersTo_2 : decode b_He_markWhatItRefersTo 2 = .ok (.invokevirtual 21, 3) := by decide +kernel
theorem d_He_markWhatItRefersTo_5 : decode b_He_markWhatItRefersTo 5 = .ok (.ifCond .eq 31, 3) := by decide +kernel
theorem d_He_markWhatItRefersTo_8 : decode b_He_markWhatItRefersTo 8 = .ok (.iconst 0, 1) := by decide +kernel
theorem d_He_markWhatItRefersTo_9 : decode b_He_markWhatItRefersTo 9 = .ok (.istore_n 2, 1) := by decide +kernel
theorem d_He_markWhatItRefersTo_10 : decode b_He_markWhatItRefersTo 10 = .ok (.iload_n 2, 1) := by decide +kernel
theorem d_He_markWhatItRefersTo_11 : decode b_He_markWhatItRefersTo 11 = .ok (.iconst 2, 1) := by decide +kernel
theorem d_He_markWhatItRefersTo_12 : decode b_He_markWhatItRefersTo 12 = .ok (.if_icmp .ge 24, 3) := by decide +kernel
theorem d_He_markWhatItRefersTo_15 : decode b_He_markWhatItRefersTo 15 = .ok (.aload_n 0, 1) := by decide +kernel
theorem d_He_markWhatItRefersTo_16 : decode b_He_markWhatItRefersTo 16 = .ok (.aload_n 0, 1) := by decide +kernel
theorem d_He_markWhatItRefersTo_17 : decode b_He_markWhatItRefersTo 17 = .ok (.getfield 11, 3) := by decide +kernel
theorem d_He_markWhatItRefersTo_20 : decode b_He_markWhatItRefersTo 20 = .ok (.iload_n 1, 1) := by decide +kernel
theorem d_He_markWhatItRefersTo_21 : decode b_He_markWhatItRefersTo 21 = .ok (.aaload, 1) := by decide +kernel
theorem d_He_markWhatItRefersTo_22 : decode b_He_markWhatItRefersTo 22 = .ok (.getfield 46, 3) := by decide +kernel
theorem d_He_markWhatItRefersTo_25 : decode b_He_markWhatItRefersTo 25 = .ok (.iload_n 2, 1) := by decide +kernel
theorem d_He_markWhatItRefersTo_26 : decode b_He_markWhatItRefersTo 26 = .ok (.iaload, 1) := by decide +kernel
theorem d_He_markWhatItRefersTo_27 : decode b_He_markWhatItRefersTo 27 = .ok (.invokevirtual 40, 3) := by decide +kernel
theorem d_He_markWhatItRefersTo_30 : decode b_He_markWhatItRefersTo 30 = .ok (.iinc 2 1, 3) := by decide +kernel
theorem d_He_markWhatItRefersTo_33 : decode b_He_markWhatItRefersTo 33 = .ok (.goto (-23), 3) := by decide +kernel
theorem d_He_markWhatItRefersTo_36 : decode b_He_markWhatItRefersTo 36 = .ok (.return_, 1) := by decide +kernel
theorem d_HM_holdWhatMapsHold_0 : decode b_HM_holdWhatMapsHold 0 = .ok (.aload_n 0, 1) := by decide +kernel
theorem d_HM_holdWhatMapsHold_1 : decode b_HM_holdWhatMapsHold 1 = .ok (.aload_n 0, 1) := by decide +kernel
theorem d_HM_holdWhatMapsHold_2 : decode b_HM_holdWhatMapsHold 2 = .ok (.getfield 32, 3) := by decide +kernel
theorem d_HM_holdWhatMapsHold_5 : decode b_HM_holdWhatMapsHold 5 = .ok (.iconst 2, 1) := by decide +kernel
theorem d_HM_holdWhatMapsHold_6 : decode b_HM_holdWhatMapsHold 6 = .ok (.aaload, 1) := by decide +kernel
theorem d_HM_holdWhatMapsHold_7 : decode b_HM_holdWhatMapsHold 7 = .ok (.invokevirtual 208, 3) := by decide +kernel
theorem d_HM_holdWhatMapsHold_10 : decode b_HM_holdWhatMapsHold 10 = .ok (.aload_n 0, 1) := by decide +kernel
theorem d_HM_holdWhatMapsHold_11 : decode b_HM_holdWhatMapsHold 11 = .ok (.aload_n 0, 1) := by decide +kernel
theorem d_HM_holdWhatMapsHold_12 : decode b_HM_holdWhatMapsHold 12 = .ok (.getfield 32, 3) := by decide +kernel
theorem d_HM_holdWhatMapsHold_15 : decode b_HM_holdWhatMapsHold 15 = .ok (.iconst 2, 1) := by decide +kernel
theorem d_HM_holdWhatMapsHold_16 : decode b_HM_holdWhatMapsHold 16 = .ok (.aaload, 1) := by decide +kernel
theorem d_HM_holdWhatMapsHold_17 : decode b_HM_holdWhatMapsHold 17 = .ok (.invokevirtual 212, 3) := by decide +kernel
theorem d_HM_holdWhatMapsHold_20 : decode b_HM_holdWhatMapsHold 20 = .ok (.aload_n 0, 1) := by decide +kernel
theorem d_HM_holdWhatMapsHold_21 : decode b_HM_holdWhatMapsHold 21 = .ok (.aload_n 0, 1) := by decide +kernel
theorem d_HM_holdWhatMapsHold_22 : decode b_HM_holdWhatMapsHold 22 = .ok (.getfield 32, 3) := by decide +kernel
theorem d_HM_holdWhatMapsHold_25 : decode b_HM_holdWhatMapsHold 25 = .ok (.iconst 4, 1) := by decide +kernel
theorem d_HM_holdWhatMapsHold_26 : decode b_HM_holdWhatMapsHold 26 = .ok (.aaload, 1) := by decide +kernel
theorem d_HM_holdWhatMapsHold_27 : decode b_HM_holdWhatMapsHold 27 = .ok (.invokevirtual 208, 3) := by decide +kernel
theorem d_HM_holdWhatMapsHold_30 : decode b_HM_holdWhatMapsHold 30 = .ok (.aload_n 0, 1) := by decide +kernel
theorem d_HM_holdWhatMapsHold_31 : decode b_HM_holdWhatMapsHold 31 = .ok (.aload_n 0, 1) := by decide +kernel
theorem d_HM_holdWhatMapsHold_32 : decode b_HM_holdWhatMapsHold 32 = .ok (.getfield 32, 3) := by decide +kernel
theorem d_HM_holdWhatMapsHold_35 : decode b_HM_holdWhatMapsHold 35 = .ok (.iconst 4, 1) := by decide +kernel
theorem d_HM_holdWhatMapsHold_36 : decode b_HM_holdWhatMapsHold 36 = .ok (.aaload, 1) := by decide +kernel
theorem d_HM_holdWhatMapsHold_37 : decode b_HM_holdWhatMapsHold 37 = .ok (.invokevirtual 212, 3) := by decide +kernel
theorem d_HM_holdWhatMapsHold_40 : decode b_HM_holdWhatMapsHold 40 = .ok (.aload_n 0, 1) := by decide +kernel
theorem d_HM_holdWhatMapsHold_41 : decode b_HM_holdWhatMapsHold 41 = .ok (.aload_n 0, 1) := by decide +kernel
theorem d_HM_holdWhatMapsHold_42 : decode b_HM_holdWhatMapsHold 42 = .ok (.getfield 32, 3) := by decide +kernel
theorem d_HM_holdWhatMapsHold_45 : decode b_HM_holdWhatMapsHold 45 = .ok (.iconst 3, 1) := by decide +kernel
theorem d_HM_holdWhatMapsHold_46 : decode b_HM_holdWhatMapsHold 46 = .ok (.aaload, 1) := by decide +kernel
theorem d_HM_holdWhatMapsHold_47 : decode b_HM_holdWhatMapsHold 47 = .ok (.invokevirtual 212, 3) := by decide +kernel
theorem d_HM_holdWhatMapsHold_50 : decode b_HM_holdWhatMapsHold 50 = .ok (.aload_n 0, 1) := by decide +kernel
theorem d_HM_holdWhatMapsHold_51 : decode b_HM_holdWhatMapsHold 51 = .ok (.aload_n 0, 1) := by decide +kernel
theorem d_HM_holdWhatMapsHold_52 : decode b_HM_holdWhatMapsHold 52 = .ok (.getfield 19, 3) := by decide +kernel
theorem d_HM_holdWhatMapsHold_55 : decode b_HM_holdWhatMapsHold 55 = .ok (.invokevirtual 212, 3) := by decide +kernel
theorem d_HM_holdWhatMapsHold_58 : decode b_HM_holdWhatMapsHold 58 = .ok (.aload_n 0, 1) := by decide +kernel
theorem d_HM_holdWhatMapsHold_59 : decode b_HM_holdWhatMapsHold 59 = .ok (.aload_n 0, 1) := by decide +kernel
theorem d_HM_holdWhatMapsHold_60 : decode b_HM_holdWhatMapsHold 60 = .ok (.getfield 26, 3) := by decide +kernel
theorem d_HM_holdWhatMapsHold_63 : decode b_HM_holdWhatMapsHold 63 = .ok (.invokevirtual 208, 3) := by decide +kernel
theorem d_HM_holdWhatMapsHold_66 : decode b_HM_holdWhatMapsHold 66 = .ok (.return_, 1) := by decide +kernel
theorem d_HM_holdKeys_0 : decode b_HM_holdKeys 0 = .ok (.iconst 0, 1) := by decide +kernel
theorem d_HM_holdKeys_1 : decode b_HM_holdKeys 1 = .ok (.istore_n 2, 1) := by decide +kernel
theorem d_HM_holdKeys_2 : decode b_HM_holdKeys 2 = .ok (.iload_n 2, 1) := by decide +kernel
theorem d_HM_holdKeys_3 : decode b_HM_holdKeys 3 = .ok (.aload_n 1, 1) := by decide +kernel
theorem d_HM_holdKeys_4 : decode b_HM_holdKeys 4 = .ok (.invokevirtual 146, 3) := by decide +kernel
theorem d_HM_holdKeys_7 : decode b_HM_holdKeys 7 = .ok (.if_icmp .ge 21, 3) := by decide +kernel
theorem d_HM_holdKeys_10 : decode b_HM_holdKeys 10 = .ok (.aload_n 0, 1) := by decide +kernel
theorem d_HM_holdKeys_11 : decode b_HM_holdKeys 11 = .ok (.getfield 10, 3) := by decide +kernel
theorem d_HM_holdKeys_14 : decode b_HM_holdKeys 14 = .ok (.aload_n 1, 1) := by decide +kernel
theorem d_HM_holdKeys_15 : decode b_HM_holdKeys 15 = .ok (.iload_n 2, 1) := by decide +kernel
theorem d_HM_holdKeys_16 : decode b_HM_holdKeys 16 = .ok (.invokevirtual 154, 3) := by decide +kernel
theorem d_HM_holdKeys_19 : decode b_HM_holdKeys 19 = .ok (.invokevirtual 215, 3) := by decide +kernel
theorem d_HM_holdKeys_22 : decode b_HM_holdKeys 22 = .ok (.iinc 2 1, 3) := by decide +kernel
theorem d_HM_holdKeys_25 : decode b_HM_holdKeys 25 = .ok (.goto (-23), 3) := by decide +kernel
theorem d_HM_holdKeys_28 : decode b_HM_holdKeys 28 = .ok (.return_, 1) := by decide +kernel
theorem d_HM_holdValues_0 : decode b_HM_holdValues 0 = .ok (.iconst 0, 1) := by decide +kernel
theorem d_HM_holdValues_1 : decode b_HM_holdValues 1 = .ok (.istore_n 2, 1) := by decide +kernel
theorem d_HM_holdValues_2 : decode b_HM_holdValues 2 = .ok (.iload_n 2, 1) := by decide +kernel
theorem d_HM_holdValues_3 : decode b_HM_holdValues 3 = .ok (.aload_n 1, 1) := by decide +kernel
theorem d_HM_holdValues_4 : decode b_HM_holdValues 4 = .ok (.invokevirtual 146, 3) := by decide +kernel
theorem d_HM_holdValues_7 : decode b_HM_holdValues 7 = .ok (.if_icmp .ge 21, 3) := by decide +kernel
theorem d_HM_holdValues_10 : decode b_HM_holdValues 10 = .ok (.aload_n 0, 1) := by decide +kernel
theorem d_HM_holdValues_11 : decode b_HM_holdValues 11 = .ok (.getfield 10, 3) := by decide +kernel
theorem d_HM_holdValues_14 : decode b_HM_holdValues 14 = .ok (.aload_n 1, 1) := by decide +kernel
theorem d_HM_holdValues_15 : decode b_HM_holdValues 15 = .ok (.iload_n 2, 1) := by decide +kernel
theorem d_HM_holdValues_16 : decode b_HM_holdValues 16 = .ok (.invokevirtual 137, 3) := by decide +kernel
theorem d_HM_holdValues_19 : decode b_HM_holdValues 19 = .ok (.invokevirtual 215, 3) := by decide +kernel
theorem d_HM_holdValues_22 : decode b_HM_holdValues 22 = .ok (.iinc 2 1, 3) := by decide +kernel
theorem d_HM_holdValues_25 : decode b_HM_holdValues 25 = .ok (.goto (-23), 3) := by decide +kernel
theorem d_HM_holdValues_28 : decode b_HM_holdValues 28 = .ok (.return_, 1) := by decide +kernel
theorem d_HM_dropSoftEntries_0 : decode b_HM_dropSoftEntries 0 = .ok (.aload_n 0, 1) := by decide +kernel
theorem d_HM_dropSoftEntries_1 : decode b_HM_dropSoftEntries 1 = .ok (.getfield 26, 3) := by decide +kernel
theorem d_HM_dropSoftEntries_4 : decode b_HM_dropSoftEntries 4 = .ok (.invokevirtual 218, 3) := by decide +kernel
theorem d_HM_dropSoftEntries_7 : decode b_HM_dropSoftEntries 7 = .ok (.istore_n 2, 1) := by decide +kernel
theorem d_HM_dropSoftEntries_8 : decode b_HM_dropSoftEntries 8 = .ok (.iconst 0, 1) := by decide +kernel
theorem d_HM_dropSoftEntries_9 : decode b_HM_dropSoftEntries 9 = .ok (.istore_n 3, 1) := by decide +kernel
theorem d_HM_dropSoftEntries_10 : decode b_HM_dropSoftEntries 10 = .ok (.iconst 0, 1) := by decide +kernel
theorem d_HM_dropSoftEntries_11 : decode b_HM_dropSoftEntries 11 = .ok (.istore 4, 2) := by decide +kernel
theorem d_HM_dropSoftEntries_13 : decode b_HM_dropSoftEntries 13 = .ok (.iload 4, 2) := by decide +kernel
theorem d_HM_dropSoftEntries_15 : decode b_HM_dropSoftEntries 15 = .ok (.iload_n 2, 1) := by decide +kernel
theorem d_HM_dropSoftEntries_16 : decode b_HM_dropSoftEntries 16 = .ok (.if_icmp .ge 98, 3) := by decide +kernel
theorem d_HM_dropSoftEntries_19 : decode b_HM_dropSoftEntries 19 = .ok (.aload_n 0, 1) := by decide +kernel
theorem d_HM_dropSoftEntries_20 : decode b_HM_dropSoftEntries 20 = .ok (.getfield 26, 3) := by decide +kernel
theorem d_HM_dropSoftEntries_23 : decode b_HM_dropSoftEntries 23 = .ok (.iload_n 3, 1) := by decide +kernel
theorem d_HM_dropSoftEntries_24 : decode b_HM_dropSoftEntries 24 = .ok (.invokevirtual 219, 3) := by decide +kernel
theorem d_HM_dropSoftEntries_27 : decode b_HM_dropSoftEntries 27 = .ok (.istore 5, 2) := by decide +kernel
theorem d_HM_dropSoftEntries_29 : decode b_HM_dropSoftEntries 29 = .ok (.aload_n 0, 1) := by decide +kernel
theorem d_HM_dropSoftEntries_30 : decode b_HM_dropSoftEntries 30 = .ok (.getfield 26, 3) := by decide +kernel
theorem d_HM_dropSoftEntries_33 : decode b_HM_dropSoftEntries 33 = .ok (.iload 5, 2) := by decide +kernel
theorem d_HM_dropSoftEntries_35 : decode b_HM_dropSoftEntries 35 = .ok (.invokevirtual 222, 3) := by decide +kernel
theorem d_HM_dropSoftEntries_38 : decode b_HM_dropSoftEntries 38 = .ok (.astore 6, 2) := by decide +kernel
theorem d_HM_dropSoftEntries_40 : decode b_HM_dropSoftEntries 40 = .ok (.aload 6, 2) := by decide +kernel
theorem d_HM_dropSoftEntries_42 : decode b_HM_dropSoftEntries 42 = .ok (.ifnonnull 4, 3) := by decide +kernel
theorem d_HM_dropSoftEntries_45 : decode b_HM_dropSoftEntries 45 = .ok (.return_, 1) := by decide +kernel
theorem d_HM_dropSoftEntries_46 : decode b_HM_dropSoftEntries 46 = .ok (.aload 6, 2) := by decide +kernel
theorem d_HM_dropSoftEntries_48 : decode b_HM_dropSoftEntries 48 = .ok (.getfield 223, 3) := by decide +kernel
theorem d_HM_dropSoftEntries_51 : decode b_HM_dropSoftEntries 51 = .ok (.istore_n 3, 1) := by decide +kernel
theorem d_HM_dropSoftEntries_52 : decode b_HM_dropSoftEntries 52 = .ok (.aload_n 0, 1) := by decide +kernel
theorem d_HM_dropSoftEntries_53 : decode b_HM_dropSoftEntries 53 = .ok (.getfield 10, 3) := by decide +kernel
theorem d_HM_dropSoftEntries_56 : decode b_HM_dropSoftEntries 56 = .ok (.aload 6, 2) := by decide +kernel
theorem d_HM_dropSoftEntries_58 : decode b_HM_dropSoftEntries 58 = .ok (.getfield 131, 3) := by decide +kernel
theorem d_HM_dropSoftEntries_61 : decode b_HM_dropSoftEntries 61 = .ok (.invokevirtual 225, 3) := by decide +kernel
theorem d_HM_dropSoftEntries_64 : decode b_HM_dropSoftEntries 64 = .ok (.ifCond .ne 32, 3) := by decide +kernel
theorem d_HM_dropSoftEntries_67 : decode b_HM_dropSoftEntries 67 = .ok (.aload_n 0, 1) := by decide +kernel
theorem d_HM_dropSoftEntries_68 : decode b_HM_dropSoftEntries 68 = .ok (.getfield 26, 3) := by decide +kernel
theorem d_HM_dropSoftEntries_71 : decode b_HM_dropSoftEntries 71 = .ok (.getfield 202, 3) := by decide +kernel
theorem d_HM_dropSoftEntries_74 : decode b_HM_dropSoftEntries 74 = .ok (.aload 6, 2) := by decide +kernel
theorem d_HM_dropSoftEntries_76 : decode b_HM_dropSoftEntries 76 = .ok (.getfield 223, 3) := by decide +kernel
theorem d_HM_dropSoftEntries_79 : decode b_HM_dropSoftEntries 79 = .ok (.isub, 1) := by decide +kernel
theorem d_HM_dropSoftEntries_80 : decode b_HM_dropSoftEntries 80 = .ok (.iload_n 1, 1) := by decide +kernel
theorem d_HM_dropSoftEntries_81 : decode b_HM_dropSoftEntries 81 = .ok (.if_icmp .lt 15, 3) := by decide +kernel
theorem d_HM_dropSoftEntries_84 : decode b_HM_dropSoftEntries 84 = .ok (.aload_n 0, 1) := by decide +kernel
theorem d_HM_dropSoftEntries_85 : decode b_HM_dropSoftEntries 85 = .ok (.getfield 26, 3) := by decide +kernel
theorem d_HM_dropSoftEntries_88 : decode b_HM_dropSoftEntries 88 = .ok (.iload 5, 2) := by decide +kernel
theorem d_HM_dropSoftEntries_90 : decode b_HM_dropSoftEntries 90 = .ok (.invokevirtual 228, 3) := by decide +kernel
theorem d_HM_dropSoftEntries_93 : decode b_HM_dropSoftEntries 93 = .ok (.goto 15, 3) := by decide +kernel
theorem d_HM_dropSoftEntries_96 : decode b_HM_dropSoftEntries 96 = .ok (.aload_n 0, 1) := by decide +kernel
theorem d_HM_dropSoftEntries_97 : decode b_HM_dropSoftEntries 97 = .ok (.getfield 10, 3) := by decide +kernel
theorem d_HM_dropSoftEntries_100 : decode b_HM_dropSoftEntries 100 = .ok (.aload 6, 2) := by decide +kernel
theorem d_HM_dropSoftEntries_102 : decode b_HM_dropSoftEntries 102 = .ok (.getfield 131, 3) := by decide +kernel
theorem d_HM_dropSoftEntries_105 : decode b_HM_dropSoftEntries 105 = .ok (.invokevirtual 215, 3) := by decide +kernel
theorem d_HM_dropSoftEntries_108 : decode b_HM_dropSoftEntries 108 = .ok (.iinc 4 1, 3) := by decide +kernel
theorem d_HM_dropSoftEntries_111 : decode b_HM_dropSoftEntries 111 = .ok (.goto (-98), 3) := by decide +kernel
theorem d_HM_dropSoftEntries_114 : decode b_HM_dropSoftEntries 114 = .ok (.return_, 1) := by decide +kernel
theorem d_So_usedFirstAfter_0 : decode b_So_usedFirstAfter 0 = .ok (.iconst (-1), 1) := by decide +kernel
theorem d_So_usedFirstAfter_1 : decode b_So_usedFirstAfter 1 = .ok (.istore_n 2, 1) := by decide +kernel
theorem d_So_usedFirstAfter_2 : decode b_So_usedFirstAfter 2 = .ok (.iconst 0, 1) := by decide +kernel
theorem d_So_usedFirstAfter_3 : decode b_So_usedFirstAfter 3 = .ok (.istore_n 3, 1) := by decide +kernel
theorem d_So_usedFirstAfter_4 : decode b_So_usedFirstAfter 4 = .ok (.iload_n 3, 1) := by decide +kernel
theorem d_So_usedFirstAfter_5 : decode b_So_usedFirstAfter 5 = .ok (.aload_n 0, 1) := by decide +kernel
theorem d_So_usedFirstAfter_6 : decode b_So_usedFirstAfter 6 = .ok (.getfield 28, 3) := by decide +kernel
theorem d_So_usedFirstAfter_9 : decode b_So_usedFirstAfter 9 = .ok (.invokevirtual 32, 3) := by decide +kernel
theorem d_So_usedFirstAfter_12 : decode b_So_usedFirstAfter 12 = .ok (.if_icmp .ge 57, 3) := by decide +kernel
theorem d_So_usedFirstAfter_15 : decode b_So_usedFirstAfter 15 = .ok (.aload_n 0, 1) := by decide +kernel
theorem d_So_usedFirstAfter_16 : decode b_So_usedFirstAfter 16 = .ok (.getfield 28, 3) := by decide +kernel
theorem d_So_usedFirstAfter_19 : decode b_So_usedFirstAfter 19 = .ok (.iload_n 3, 1) := by decide +kernel
theorem d_So_usedFirstAfter_20 : decode b_So_usedFirstAfter 20 = .ok (.invokevirtual 38, 3) := by decide +kernel
theorem d_So_usedFirstAfter_23 : decode b_So_usedFirstAfter 23 = .ok (.checkcast 16, 3) := by decide +kernel
theorem d_So_usedFirstAfter_26 : decode b_So_usedFirstAfter 26 = .ok (.getfield 15, 3) := by decide +kernel
theorem d_So_usedFirstAfter_29 : decode b_So_usedFirstAfter 29 = .ok (.istore 4, 2) := by decide +kernel
theorem d_So_usedFirstAfter_31 : decode b_So_usedFirstAfter 31 = .ok (.iload 4, 2) := by decide +kernel
theorem d_So_usedFirstAfter_33 : decode b_So_usedFirstAfter 33 = .ok (.iload_n 1, 1) := by decide +kernel
theorem d_So_usedFirstAfter_34 : decode b_So_usedFirstAfter 34 = .ok (.if_icmp .le 29, 3) := by decide +kernel
theorem d_So_usedFirstAfter_37 : decode b_So_usedFirstAfter 37 = .ok (.iload_n 2, 1) := by decide +kernel
theorem d_So_usedFirstAfter_38 : decode b_So_usedFirstAfter 38 = .ok (.iconst (-1), 1) := by decide +kernel
theorem d_So_usedFirstAfter_39 : decode b_So_usedFirstAfter 39 = .ok (.if_icmp .eq 22, 3) := by decide +kernel
theorem d_So_usedFirstAfter_42 : decode b_So_usedFirstAfter 42 = .ok (.iload 4, 2) := by decide +kernel
theorem d_So_usedFirstAfter_44 : decode b_So_usedFirstAfter 44 = .ok (.aload_n 0, 1) := by decide +kernel
theorem d_So_usedFirstAfter_45 : decode b_So_usedFirstAfter 45 = .ok (.getfield 28, 3) := by decide +kernel
theorem d_So_usedFirstAfter_48 : decode b_So_usedFirstAfter 48 = .ok (.iload_n 2, 1) := by decide +kernel
theorem d_So_usedFirstAfter_49 : decode b_So_usedFirstAfter 49 = .ok (.invokevirtual 38, 3) := by decide +kernel
theorem d_So_usedFirstAfter_52 : decode b_So_usedFirstAfter 52 = .ok (.checkcast 16, 3) := by decide +kernel
theorem d_So_usedFirstAfter_55 : decode b_So_usedFirstAfter 55 = .ok (.getfield 15, 3) := by decide +kernel
theorem d_So_usedFirstAfter_58 : decode b_So_usedFirstAfter 58 = .ok (.if_icmp .ge 5, 3) := by decide +kernel
theorem d_So_usedFirstAfter_61 : decode b_So_usedFirstAfter 61 = .ok (.iload_n 3, 1) := by decide +kernel
theorem d_So_usedFirstAfter_62 : decode b_So_usedFirstAfter 62 = .ok (.istore_n 2, 1) := by decide +kernel
theorem d_So_usedFirstAfter_63 : decode b_So_usedFirstAfter 63 = .ok (.iinc 3 1, 3) := by decide +kernel
theorem d_So_usedFirstAfter_66 : decode b_So_usedFirstAfter 66 = .ok (.goto (-62), 3) := by decide +kernel
theorem d_So_usedFirstAfter_69 : decode b_So_usedFirstAfter 69 = .ok (.iload_n 2, 1) := by decide +kernel
theorem d_So_usedFirstAfter_70 : decode b_So_usedFirstAfter 70 = .ok (.ireturn, 1) := by decide +kernel
theorem d_He_isHeld_0 : decode b_He_isHeld 0 = .ok (.aload_n 0, 1) := by decide +kernel
theorem d_He_isHeld_1 : decode b_He_isHeld 1 = .ok (.iload_n 1, 1) := by decide +kernel
theorem d_He_isHeld_2 : decode b_He_isHeld 2 = .ok (.invokevirtual 21, 3) := by decide +kernel
theorem d_He_isHeld_5 : decode b_He_isHeld 5 = .ok (.ifCond .eq 19, 3) := by decide +kernel
theorem d_He_isHeld_8 : decode b_He_isHeld 8 = .ok (.aload_n 0, 1) := by decide +kernel
theorem d_He_isHeld_9 : decode b_He_isHeld 9 = .ok (.getfield 11, 3) := by decide +kernel
theorem d_He_isHeld_12 : decode b_He_isHeld 12 = .ok (.iload_n 1, 1) := by decide +kernel
theorem d_He_isHeld_13 : decode b_He_isHeld 13 = .ok (.aaload, 1) := by decide +kernel
theorem d_He_isHeld_14 : decode b_He_isHeld 14 = .ok (.getfield 25, 3) := by decide +kernel
theorem d_He_isHeld_17 : decode b_He_isHeld 17 = .ok (.ifCond .eq 7, 3) := by decide +kernel
theorem d_He_isHeld_20 : decode b_He_isHeld 20 = .ok (.iconst 1, 1) := by decide +kernel
theorem d_He_isHeld_21 : decode b_He_isHeld 21 = .ok (.goto 4, 3) := by decide +kernel
theorem d_He_isHeld_24 : decode b_He_isHeld 24 = .ok (.iconst 0, 1) := by decide +kernel
theorem d_He_isHeld_25 : decode b_He_isHeld 25 = .ok (.ireturn, 1) := by decide +kernel
theorem d_HM_dropWeakEntries_0 : decode b_HM_dropWeakEntries 0 = .ok (.aload_n 0, 1) := by decide +kernel
theorem d_HM_dropWeakEntries_1 : decode b_HM_dropWeakEntries 1 = .ok (.getfield 19, 3) := by decide +kernel
theorem d_HM_dropWeakEntries_4 : decode b_HM_dropWeakEntries 4 = .ok (.invokevirtual 229, 3) := by decide +kernel
theorem d_HM_dropWeakEntries_7 : decode b_HM_dropWeakEntries 7 = .ok (.iconst 1, 1) := by decide +kernel
theorem d_HM_dropWeakEntries_8 : decode b_HM_dropWeakEntries 8 = .ok (.isub, 1) := by decide +kernel
theorem d_HM_dropWeakEntries_9 : decode b_HM_dropWeakEntries 9 = .ok (.istore_n 1, 1) := by decide +kernel
theorem d_HM_dropWeakEntries_10 : decode b_HM_dropWeakEntries 10 = .ok (.iload_n 1, 1) := by decide +kernel
theorem d_HM_dropWeakEntries_11 : decode b_HM_dropWeakEntries 11 = .ok (.ifCond .lt 35, 3) := by decide +kernel
theorem d_HM_dropWeakEntries_14 : decode b_HM_dropWeakEntries 14 = .ok (.aload_n 0, 1) := by decide +kernel
theorem d_HM_dropWeakEntries_15 : decode b_HM_dropWeakEntries 15 = .ok (.getfield 10, 3) := by decide +kernel
theorem d_HM_dropWeakEntries_18 : decode b_HM_dropWeakEntries 18 = .ok (.aload_n 0, 1) := by decide +kernel
theorem d_HM_dropWeakEntries_19 : decode b_HM_dropWeakEntries 19 = .ok (.getfield 19, 3) := by decide +kernel
theorem d_HM_dropWeakEntries_22 : decode b_HM_dropWeakEntries 22 = .ok (.iload_n 1, 1) := by decide +kernel
theorem d_HM_dropWeakEntries_23 : decode b_HM_dropWeakEntries 23 = .ok (.invokevirtual 230, 3) := by decide +kernel
theorem d_HM_dropWeakEntries_26 : decode b_HM_dropWeakEntries 26 = .ok (.invokevirtual 225, 3) := by decide +kernel
theorem d_HM_dropWeakEntries_29 : decode b_HM_dropWeakEntries 29 = .ok (.ifCond .ne 11, 3) := by decide +kernel
theorem d_HM_dropWeakEntries_32 : decode b_HM_dropWeakEntries 32 = .ok (.aload_n 0, 1) := by decide +kernel
theorem d_HM_dropWeakEntries_33 : decode b_HM_dropWeakEntries 33 = .ok (.getfield 19, 3) := by decide +kernel
theorem d_HM_dropWeakEntries_36 : decode b_HM_dropWeakEntries 36 = .ok (.iload_n 1, 1) := by decide +kernel
theorem d_HM_dropWeakEntries_37 : decode b_HM_dropWeakEntries 37 = .ok (.invokevirtual 231, 3) := by decide +kernel
theorem d_HM_dropWeakEntries_40 : decode b_HM_dropWeakEntries 40 = .ok (.iinc 1 (-1), 3) := by decide +kernel
theorem d_HM_dropWeakEntries_43 : decode b_HM_dropWeakEntries 43 = .ok (.goto (-33), 3) := by decide +kernel
theorem d_HM_dropWeakEntries_46 : decode b_HM_dropWeakEntries 46 = .ok (.return_, 1) := by decide +kernel
theorem d_He_sweep_0 : decode b_He_sweep 0 = .ok (.iconst 0, 1) := by decide +kernel
theorem d_He_sweep_1 : decode b_He_sweep 1 = .ok (.istore_n 1, 1) := by decide +kernel
theorem d_He_sweep_2 : decode b_He_sweep 2 = .ok (.iconst 0, 1) := by decide +kernel
theorem d_He_sweep_3 : decode b_He_sweep 3 = .ok (.istore_n 2, 1) := by decide +kernel
theorem d_He_sweep_4 : decode b_He_sweep 4 = .ok (.iload_n 2, 1) := by decide +kernel
theorem d_He_sweep_5 : decode b_He_sweep 5 = .ok (.bipush 32, 2) := by decide +kernel
theorem d_He_sweep_7 : decode b_He_sweep 7 = .ok (.if_icmp .ge 40, 3) := by decide +kernel
theorem d_He_sweep_10 : decode b_He_sweep 10 = .ok (.aload_n 0, 1) := by decide +kernel
theorem d_He_sweep_11 : decode b_He_sweep 11 = .ok (.getfield 11, 3) := by decide +kernel
theorem d_He_sweep_14 : decode b_He_sweep 14 = .ok (.iload_n 2, 1) := by decide +kernel
theorem d_He_sweep_15 : decode b_He_sweep 15 = .ok (.aaload, 1) := by decide +kernel
theorem d_He_sweep_16 : decode b_He_sweep 16 = .ok (.ifnull 25, 3) := by decide +kernel
theorem d_He_sweep_19 : decode b_He_sweep 19 = .ok (.aload_n 0, 1) := by decide +kernel
theorem d_He_sweep_20 : decode b_He_sweep 20 = .ok (.getfield 11, 3) := by decide +kernel
theorem d_He_sweep_23 : decode b_He_sweep 23 = .ok (.iload_n 2, 1) := by decide +kernel
theorem d_He_sweep_24 : decode b_He_sweep 24 = .ok (.aaload, 1) := by decide +kernel
theorem d_He_sweep_25 : decode b_He_sweep 25 = .ok (.getfield 25, 3) := by decide +kernel
theorem d_He_sweep_28 : decode b_He_sweep 28 = .ok (.ifCond .ne 13, 3) := by decide +kernel
theorem d_He_sweep_31 : decode b_He_sweep 31 = .ok (.aload_n 0, 1) := by decide +kernel
theorem d_He_sweep_32 : decode b_He_sweep 32 = .ok (.getfield 11, 3) := by decide +kernel
theorem d_He_sweep_35 : decode b_He_sweep 35 = .ok (.iload_n 2, 1) := by decide +kernel
theorem d_He_sweep_36 : decode b_He_sweep 36 = .ok (.aconst_null, 1) := by decide +kernel
theorem d_He_sweep_37 : decode b_He_sweep 37 = .ok (.aastore, 1) := by decide +kernel
theorem d_He_sweep_38 : decode b_He_sweep 38 = .ok (.iinc 1 1, 3) := by decide +kernel
theorem d_He_sweep_41 : decode b_He_sweep 41 = .ok (.iinc 2 1, 3) := by decide +kernel
theorem d_He_sweep_44 : decode b_He_sweep 44 = .ok (.goto (-40), 3) := by decide +kernel
theorem d_He_sweep_47 : decode b_He_sweep 47 = .ok (.aload_n 0, 1) := by decide +kernel
theorem d_He_sweep_48 : decode b_He_sweep 48 = .ok (.dup, 1) := by decide +kernel
theorem d_He_sweep_49 : decode b_He_sweep 49 = .ok (.getfield 49, 3) := by decide +kernel
theorem d_He_sweep_52 : decode b_He_sweep 52 = .ok (.iload_n 1, 1) := by decide +kernel
theorem d_He_sweep_53 : decode b_He_sweep 53 = .ok (.iadd, 1) := by decide +kernel
theorem d_He_sweep_54 : decode b_He_sweep 54 = .ok (.putfield 49, 3) := by decide +kernel
theorem d_He_sweep_57 : decode b_He_sweep 57 = .ok (.iload_n 1, 1) := by decide +kernel
theorem d_He_sweep_58 : decode b_He_sweep 58 = .ok (.ireturn, 1) := by decide +kernel
end
section
/-! Calls: what runs a callee that has a contract over the store. -/
section SO5
variable {p : Program} {l : Launch} {e : Env} {s : State} {m : MethodId} {args : Array Value} {below : List Frame} {meth : Method} {c : Code} {H : Heap} {locs : List Loc} {cells slots : Nat} {Q : State → Prop}
variable {cc b1 : ByteArray} {pc nL n1 k k1 mcR msR mc ms index o ci N tg : Nat} {ls : Array Slot} {rest st0 As fs : List Value} {D : va_G} {cl : List vw_C} {tys : List (ClassId × FieldType)} {σ : so_S} {Ts : List Cond} {own C owner host : String} {T : u_T} {s0 : State} {x y : MethodName} {r1 : Option FieldType}
variable {Qc : Array Value → State → Outcome → State → Prop} {free : Addr → Prop}
theorem so_recv (hK : va_K D cl tys s) (hP : so_P D cl s0.heap.size σ H) (he : σ o = some (tg, .inr (ci, fs))) (hc : cl[ci]? = some (C, T, N)) : ∃ cellB : Cell, H[o]? = some cellB ∧ cellB.vm.isStatics = false ∧ s.vm.findClass C = some cellB.cls := by
  obtain ⟨-, q', h1, cell, g1, g2, g3, -⟩ := hP o _ he
  exact ⟨cell, g1, by rw [g3]; rfl, by rw [g2]; exact (hK.1 ci _ hc).2.1⟩
theorem so_PreV (hK : va_K D cl tys s) (E : so_Kn s0 s) (hP : so_P D cl s0.heap.size σ H) (hS : va_S (so_A s0.heap.size) s.heap H locs) (he : σ o = some (tg, .inr (ci, fs))) (hc : cl[ci]? = some (C, T, N)) : PreV s H C o (va_Pc (.ref o :: As) (so_Pre s0 D cl σ)) As :=
  ⟨so_blind, so_recv hK hP he hc, fun U hU hW => ⟨rfl, E.at hS hU hW, by rw [hU]; exact hP⟩⟩
theorem so_PreS (E : so_Kn s0 s) (hP : so_P D cl s0.heap.size σ H) (hS : va_S (so_A s0.heap.size) s.heap H locs) : PreS s H (va_Pc As (so_Pre s0 D cl σ)) As :=
  ⟨so_blind, fun U hU hW => ⟨rfl, E.at hS hU hW, by rw [hU]; exact hP⟩⟩
theorem so_words (hB : so_B Ts s0 D cl tys) (E : so_Kn s0 s) {w0 : Cond} (h : w0 ∈ Ts) : ∀ w ∈ [w0], ∀ (a' : Array Value) (U : State), s.WarmedH U.vm → w.before a' U = true := by
  intro w hw a' U hW
  rw [List.mem_singleton.mp hw]
  exact hB.1 w0 h a' U (State.WarmedH.trans E.1 hW)
theorem so_room {k k1 n1 : Nat} (h : k1 < k) (h2 : n1 ≤ 13) : 8 + (n1 + 11) + 32 * k1 ≤ 32 * k := by omega
/-- invokevirtual, the named method itself is run -/
theorem ru_V (S : CallFix p m c cc nL s args Ts own) (hB : so_B Ts s0 D cl tys) (hK : va_K D cl tys s) (E : so_Kn s0 s) (hP : so_P D cl s0.heap.size σ H) (hS : va_S (so_A s0.heap.size) s.heap H locs)
    (hM : Met l y [.code y b1 n1 r1] (so_rm k1 mc ms) (va_Pc (.ref o :: As) (so_Pre s0 D cl σ)) Qc mc ms free) (he : σ o = some (tg, .inr (ci, fs))) (hc : cl[ci]? = some (C, T, N))
    (w1 : Cond.methodLink own index y ∈ Ts) (w2 : Cond.instanceMethod y ∈ Ts) (w3 : Cond.selects C y y ∈ Ts) (w4 : Cond.code y b1 n1 r1 ∈ Ts) (w5 : Cond.initialized y.cls ∈ Ts)
    (hd : y.cls ≠ "java/lang/invoke/MethodHandle" ∧ y.cls ≠ "java/lang/invoke/VarHandle" ∧ (parseMethodDescriptor y.desc).map (fun d => d.parameters.length) = some As.length) (hn1 : n1 ≤ 13) (hk : k1 < k) (hc1 : cells + mc ≤ mcR) (hs1 : slots + ms ≤ msR)
    (hsize : ls.size = nL) (hst : st0 = As.reverse ++ .ref o :: rest) (hW : (rest.map fun v => v.category).sum ≤ 8) (hdg : decode cc pc = .ok (.invokevirtual index, 3)) :
    va_Run p l e (so_rm k mcR msR) s m args below meth c H locs cells slots mc ms (F0 m pc ls st0) rest (Qc (Value.ref o :: As).toArray) free := by
  have ht := S.2.2.2.2
  refine va_runV (n := As.length) S hM ⟨⟨rfl, rfl, hk, so_room hk hn1, so_words hB E w4, List.mem_singleton.mpr rfl, ht _ w4, ht _ w5, ⟨hd.1, hd.2.1⟩, fun sig h => ?_, ht _ w1⟩, ht _ w2, ht _ w3⟩ (so_PreV hK E hP hS he hc) rfl rfl hsize hst (by simpa [JFrame.monitorRoom] using hW) hdg ⟨hc1, hs1⟩
  have h2 := hd.2.2
  rw [h] at h2
  exact (Option.some.inj h2).symm
/-- invokevirtual through a name: another method is selected -/
theorem ru_U (S : CallFix p m c cc nL s args Ts own) (hB : so_B Ts s0 D cl tys) (hK : va_K D cl tys s) (E : so_Kn s0 s) (hP : so_P D cl s0.heap.size σ H) (hS : va_S (so_A s0.heap.size) s.heap H locs)
    (hM : Met l y [.code y b1 n1 r1] (so_rm k1 mc ms) (va_Pc (.ref o :: As) (so_Pre s0 D cl σ)) Qc mc ms free) (he : σ o = some (tg, .inr (ci, fs))) (hc : cl[ci]? = some (C, T, N))
    (w1 : Cond.methodLink own index x ∈ Ts) (w0 : Cond.sameMethod x.cls owner x.name x.desc ∈ Ts) (w6 : va_Decl s ⟨owner, x.name, x.desc⟩) (w2 : Cond.instanceMethod y ∈ Ts) (w3 : Cond.selects C x y ∈ Ts) (w4 : Cond.code y b1 n1 r1 ∈ Ts) (w5 : Cond.initialized y.cls ∈ Ts)
    (hd : owner ≠ "java/lang/invoke/MethodHandle" ∧ owner ≠ "java/lang/invoke/VarHandle" ∧ (parseMethodDescriptor x.desc).map (fun d => d.parameters.length) = some As.length) (hn1 : n1 ≤ 13) (hk : k1 < k) (hc1 : cells + mc ≤ mcR) (hs1 : slots + ms ≤ msR)
    (hsize : ls.size = nL) (hst : st0 = As.reverse ++ .ref o :: rest) (hW : (rest.map fun v => v.category).sum ≤ 8) (hdg : decode cc pc = .ok (.invokevirtual index, 3)) :
    va_Run p l e (so_rm k mcR msR) s m args below meth c H locs cells slots mc ms (F0 m pc ls st0) rest (Qc (Value.ref o :: As).toArray) free := by
  have ht := S.2.2.2.2
  refine va_runU (n := As.length) S hM ⟨⟨rfl, rfl, hk, so_room hk hn1, so_words hB E w4, List.mem_singleton.mpr rfl⟩, ht _ w4, ht _ w5, ⟨hd.1, hd.2.1⟩, fun sig h => ?_, ht _ w1, ht _ w0, w6, ht _ w3, ht _ w2⟩ (so_PreV hK E hP hS he hc) rfl rfl hsize hst (by simpa [JFrame.monitorRoom] using hW) hdg ⟨hc1, hs1⟩
  have h2 := hd.2.2
  rw [h] at h2
  exact (Option.some.inj h2).symm
theorem ru_S (S : CallFix p m c cc nL s args Ts own) (hB : so_B Ts s0 D cl tys) (E : so_Kn s0 s) (hP : so_P D cl s0.heap.size σ H) (hS : va_S (so_A s0.heap.size) s.heap H locs)
    (hM : Met l y [.code y b1 n1 r1] (so_rm k1 mc ms) (va_Pc As (so_Pre s0 D cl σ)) Qc mc ms free)
    (w1 : Cond.methodLink own index y ∈ Ts) (w2 : Cond.static y ∈ Ts) (w4 : Cond.code y b1 n1 r1 ∈ Ts) (w5 : Cond.initialized y.cls ∈ Ts)
    (hd : y.cls ≠ "java/lang/invoke/MethodHandle" ∧ y.cls ≠ "java/lang/invoke/VarHandle" ∧ (parseMethodDescriptor y.desc).map (fun d => d.parameters.length) = some As.length) (hn1 : n1 ≤ 13) (hk : k1 < k) (hc1 : cells + mc ≤ mcR) (hs1 : slots + ms ≤ msR)
    (hsize : ls.size = nL) (hst : st0 = As.reverse ++ rest) (hW : (rest.map fun v => v.category).sum ≤ 8) (hdg : decode cc pc = .ok (.invokestatic index, 3)) :
    va_Run p l e (so_rm k mcR msR) s m args below meth c H locs cells slots mc ms (F0 m pc ls st0) rest (Qc As.toArray) free := by
  have ht := S.2.2.2.2
  refine va_runS (n := As.length) S hM ⟨⟨rfl, rfl, hk, so_room hk hn1, so_words hB E w4, List.mem_singleton.mpr rfl, ht _ w4, ht _ w5, ⟨hd.1, hd.2.1⟩, fun sig h => ?_, ht _ w1⟩, ht _ w2⟩ (so_PreS E hP hS) rfl rfl hsize hst (by simpa [JFrame.monitorRoom] using hW) hdg ⟨hc1, hs1⟩
  have h2 := hd.2.2
  rw [h] at h2
  exact (Option.some.inj h2).symm
theorem ru_I (S : CallFix p m c cc nL s args Ts own) (hB : so_B Ts s0 D cl tys) (E : so_Kn s0 s) (hP : so_P D cl s0.heap.size σ H) (hS : va_S (so_A s0.heap.size) s.heap H locs)
    (hM : Met l y [.code y b1 n1 none] (so_rm k1 mc ms) (va_Pc (.ref o :: As) (so_Pre s0 D cl σ)) Qc mc ms free)
    (w1 : Cond.methodLink own index y ∈ Ts) (w2 : Cond.instanceMethod y ∈ Ts) (w4 : Cond.code y b1 n1 none ∈ Ts) (w5 : Cond.initialized y.cls ∈ Ts) (hy1 : y.name = "<init>")
    (hd : y.cls ≠ "java/lang/invoke/MethodHandle" ∧ y.cls ≠ "java/lang/invoke/VarHandle" ∧ (parseMethodDescriptor y.desc).map (fun d => d.parameters.length) = some As.length) (hn1 : n1 ≤ 13) (hk : k1 < k) (hc1 : cells + mc ≤ mcR) (hs1 : slots + ms ≤ msR)
    (hsize : ls.size = nL) (hst : st0 = As.reverse ++ .ref o :: rest) (hW : (rest.map fun v => v.category).sum ≤ 8) (hdg : decode cc pc = .ok (.invokespecial index, 3)) :
    va_Run p l e (so_rm k mcR msR) s m args below meth c H locs cells slots mc ms (F0 m pc ls st0) rest (Qc (Value.ref o :: As).toArray) free := by
  have ht := S.2.2.2.2
  refine va_runI (n := As.length) S hM ⟨⟨rfl, rfl, hk, so_room hk hn1, so_words hB E w4, List.mem_singleton.mpr rfl, ht _ w4, ht _ w5, ⟨hd.1, hd.2.1⟩, fun sig h => ?_, ht _ w1⟩, hy1, ht _ w2⟩ (so_PreS E hP hS) rfl rfl hsize hst (by simpa [JFrame.monitorRoom] using hW) hdg ⟨hc1, hs1⟩
  have h2 := hd.2.2
  rw [h] at h2
  exact (Option.some.inj h2).symm
theorem ru_IN (S : CallFix p m c cc nL s args Ts own) (hB : so_B Ts s0 D cl tys) (E : so_Kn s0 s) (hP : so_P D cl s0.heap.size σ H) (hS : va_S (so_A s0.heap.size) s.heap H locs)
    (hM : Met l y [.code y b1 n1 none] (so_rm k1 mc ms) (va_Pc (.ref o :: As) (so_Pre s0 D cl σ)) Qc mc ms free)
    (w1 : Cond.methodLinkNest own index y host ∈ Ts) (w2 : Cond.instanceMethod y ∈ Ts) (w4 : Cond.code y b1 n1 none ∈ Ts) (w5 : Cond.initialized y.cls ∈ Ts) (hy1 : y.name = "<init>")
    (hd : y.cls ≠ "java/lang/invoke/MethodHandle" ∧ y.cls ≠ "java/lang/invoke/VarHandle" ∧ (parseMethodDescriptor y.desc).map (fun d => d.parameters.length) = some As.length) (hn1 : n1 ≤ 13) (hk : k1 < k) (hc1 : cells + mc ≤ mcR) (hs1 : slots + ms ≤ msR)
    (hsize : ls.size = nL) (hst : st0 = As.reverse ++ .ref o :: rest) (hW : (rest.map fun v => v.category).sum ≤ 8) (hdg : decode cc pc = .ok (.invokespecial index, 3)) :
    va_Run p l e (so_rm k mcR msR) s m args below meth c H locs cells slots mc ms (F0 m pc ls st0) rest (Qc (Value.ref o :: As).toArray) free := by
  have ht := S.2.2.2.2
  refine va_runIN (n := As.length) S hM ⟨⟨⟨rfl, rfl, hk, so_room hk hn1, so_words hB E w4, List.mem_singleton.mpr rfl⟩, ht _ w4, ht _ w5, ⟨hd.1, hd.2.1⟩, fun sig h => ?_, ht _ w1⟩, hy1, ht _ w2⟩ (so_PreS E hP hS) rfl rfl hsize hst (by simpa [JFrame.monitorRoom] using hW) hdg ⟨hc1, hs1⟩
  have h2 := hd.2.2
  rw [h] at h2
  exact (Option.some.inj h2).symm
end SO5
end
section
/-! Sites: a row for each field access and call, all that is static filled in (wip/tools/sites.py). -/
section SI
variable {p : Program} {l : Launch} {e : Env} {R : Room} {s : State} {m : MethodId} {args : Array Value} {below : List Frame} {meth : Method} {c : Code} {H H0 : Heap} {locs : List Loc} {cells slots : Nat} {Q : State → Prop}
variable {cc : ByteArray} {pc nL k k1 mcR msR mc ms o a N0 tg : Nat} {ls : Array Slot} {rest st0 As fs : List Value} {D : va_G} {tys : List (ClassId × FieldType)} {σ : so_S} {s0 : State} {v : Value}
variable {Qc : Array Value → State → Outcome → State → Prop} {free : Addr → Prop}
theorem ci_HM_9 (S : CallFix p m c cc nL s args tbl "HoldMaps") (hB : so_B tbl s0 D vcl tys) (E : so_Kn s0 s) (P : so_P D vcl s0.heap.size σ H) (hS : va_S (so_A s0.heap.size) s.heap H locs) (hM : Met l y_He_init [.code y_He_init b_He_init 1 none] (so_rm k1 mc ms) (va_Pc (.ref o :: As) (so_Pre s0 D vcl σ)) Qc mc ms free) (hA : As.length = 0) (hk : k1 < k) (hc1 : cells + mc ≤ mcR) (hs1 : slots + ms ≤ msR) (hsize : ls.size = nL) (hst : st0 = As.reverse ++ .ref o :: rest) (hW : (rest.map fun v => v.category).sum ≤ 8) (hdg : decode cc pc = .ok (.invokespecial 9, 3)) : va_Run p l e (so_rm k mcR msR) s m args below meth c H locs cells slots mc ms (F0 m pc ls st0) rest (Qc (Value.ref o :: As).toArray) free := ru_IN S hB E P hS hM wd_38 wd_39 wd_40 wd_2 rfl ⟨by decide +kernel, by decide +kernel, by rw [hA]; decide +kernel⟩ (by decide) hk hc1 hs1 hsize hst hW hdg
theorem pf_HM_10_HM (S : CallFix p m c cc nL s args tbl "HoldMaps") (K : va_K D vcl tys s) (P : so_P D vcl N0 σ H) (hS : va_S (so_A N0) H0 H locs) (hin2 : meth.name = "<init>") (he : σ a = some (tg, .inr (0, fs))) (hl : 0 < fs.length) (hn : narrow (.object "HoldMaps$Heap") v = v) (hf : fits (.object "HoldMaps$Heap") v = true) (hdg : decode cc pc = .ok (.putfield 10, 3)) (kk : ∀ (H1 : Heap) (locs1 : List Loc), so_P D vcl N0 (so_up σ a (tg, .inr (0, fs.set 0 v))) H1 → va_S (so_A N0) H0 H1 locs1 → W p l e R s m args below meth c H1 locs1 cells slots Q (F0 m (pc + 3) ls rest)) : W p l e R s m args below meth c H locs cells slots Q (F0 m pc ls (v :: .ref a :: rest)) := so_putF S K P hS (T := F_HM) (N := 4) i_HM t_HM t_HM_ok n_HM he rfl 0 (by decide) (S.2.2.2.2 _ wd_193) (fun _ h => h) rfl hin2 rfl (by decide +kernel) hn hf hl hdg kk
theorem ci_HM_18 (S : CallFix p m c cc nL s args tbl "HoldMaps") (hB : so_B tbl s0 D vcl tys) (E : so_Kn s0 s) (P : so_P D vcl s0.heap.size σ H) (hS : va_S (so_A s0.heap.size) s.heap H locs) (hM : Met l y_We_init [.code y_We_init b_We_init 1 none] (so_rm k1 mc ms) (va_Pc (.ref o :: As) (so_Pre s0 D vcl σ)) Qc mc ms free) (hA : As.length = 0) (hk : k1 < k) (hc1 : cells + mc ≤ mcR) (hs1 : slots + ms ≤ msR) (hsize : ls.size = nL) (hst : st0 = As.reverse ++ .ref o :: rest) (hW : (rest.map fun v => v.category).sum ≤ 8) (hdg : decode cc pc = .ok (.invokespecial 18, 3)) : va_Run p l e (so_rm k mcR msR) s m args below meth c H locs cells slots mc ms (F0 m pc ls st0) rest (Qc (Value.ref o :: As).toArray) free := ru_IN S hB E P hS hM wd_62 wd_63 wd_64 wd_5 rfl ⟨by decide +kernel, by decide +kernel, by rw [hA]; decide +kernel⟩ (by decide) hk hc1 hs1 hsize hst hW hdg
theorem pf_HM_19_HM (S : CallFix p m c cc nL s args tbl "HoldMaps") (K : va_K D vcl tys s) (P : so_P D vcl N0 σ H) (hS : va_S (so_A N0) H0 H locs) (hin2 : meth.name = "<init>") (he : σ a = some (tg, .inr (0, fs))) (hl : 1 < fs.length) (hn : narrow (.object "HoldMaps$WeakMap") v = v) (hf : fits (.object "HoldMaps$WeakMap") v = true) (hdg : decode cc pc = .ok (.putfield 19, 3)) (kk : ∀ (H1 : Heap) (locs1 : List Loc), so_P D vcl N0 (so_up σ a (tg, .inr (0, fs.set 1 v))) H1 → va_S (so_A N0) H0 H1 locs1 → W p l e R s m args below meth c H1 locs1 cells slots Q (F0 m (pc + 3) ls rest)) : W p l e R s m args below meth c H locs cells slots Q (F0 m pc ls (v :: .ref a :: rest)) := so_putF S K P hS (T := F_HM) (N := 4) i_HM t_HM t_HM_ok n_HM he rfl 1 (by decide) (S.2.2.2.2 _ wd_194) (fun _ h => h) rfl hin2 rfl (by decide +kernel) hn hf hl hdg kk
theorem ci_HM_25 (S : CallFix p m c cc nL s args tbl "HoldMaps") (hB : so_B tbl s0 D vcl tys) (E : so_Kn s0 s) (P : so_P D vcl s0.heap.size σ H) (hS : va_S (so_A s0.heap.size) s.heap H locs) (hM : Met l y_So_init [.code y_So_init b_So_init 1 none] (so_rm k1 mc ms) (va_Pc (.ref o :: As) (so_Pre s0 D vcl σ)) Qc mc ms free) (hA : As.length = 0) (hk : k1 < k) (hc1 : cells + mc ≤ mcR) (hs1 : slots + ms ≤ msR) (hsize : ls.size = nL) (hst : st0 = As.reverse ++ .ref o :: rest) (hW : (rest.map fun v => v.category).sum ≤ 8) (hdg : decode cc pc = .ok (.invokespecial 25, 3)) : va_Run p l e (so_rm k mcR msR) s m args below meth c H locs cells slots mc ms (F0 m pc ls st0) rest (Qc (Value.ref o :: As).toArray) free := ru_IN S hB E P hS hM wd_138 wd_139 wd_140 wd_9 rfl ⟨by decide +kernel, by decide +kernel, by rw [hA]; decide +kernel⟩ (by decide) hk hc1 hs1 hsize hst hW hdg
theorem pf_HM_26_HM (S : CallFix p m c cc nL s args tbl "HoldMaps") (K : va_K D vcl tys s) (P : so_P D vcl N0 σ H) (hS : va_S (so_A N0) H0 H locs) (hin2 : meth.name = "<init>") (he : σ a = some (tg, .inr (0, fs))) (hl : 2 < fs.length) (hn : narrow (.object "HoldMaps$SoftMap") v = v) (hf : fits (.object "HoldMaps$SoftMap") v = true) (hdg : decode cc pc = .ok (.putfield 26, 3)) (kk : ∀ (H1 : Heap) (locs1 : List Loc), so_P D vcl N0 (so_up σ a (tg, .inr (0, fs.set 2 v))) H1 → va_S (so_A N0) H0 H1 locs1 → W p l e R s m args below meth c H1 locs1 cells slots Q (F0 m (pc + 3) ls rest)) : W p l e R s m args below meth c H locs cells slots Q (F0 m pc ls (v :: .ref a :: rest)) := so_putF S K P hS (T := F_HM) (N := 4) i_HM t_HM t_HM_ok n_HM he rfl 2 (by decide) (S.2.2.2.2 _ wd_195) (fun _ h => h) rfl hin2 rfl (by decide +kernel) hn hf hl hdg kk
theorem pf_HM_32_HM (S : CallFix p m c cc nL s args tbl "HoldMaps") (K : va_K D vcl tys s) (P : so_P D vcl N0 σ H) (hS : va_S (so_A N0) H0 H locs) (hin2 : meth.name = "<init>") (he : σ a = some (tg, .inr (0, fs))) (hl : 3 < fs.length) (hn : narrow (.array (.object "HoldMaps$Table")) v = v) (hf : fits (.array (.object "HoldMaps$Table")) v = true) (hdg : decode cc pc = .ok (.putfield 32, 3)) (kk : ∀ (H1 : Heap) (locs1 : List Loc), so_P D vcl N0 (so_up σ a (tg, .inr (0, fs.set 3 v))) H1 → va_S (so_A N0) H0 H1 locs1 → W p l e R s m args below meth c H1 locs1 cells slots Q (F0 m (pc + 3) ls rest)) : W p l e R s m args below meth c H locs cells slots Q (F0 m pc ls (v :: .ref a :: rest)) := so_putF S K P hS (T := F_HM) (N := 4) i_HM t_HM t_HM_ok n_HM he rfl 3 (by decide) (S.2.2.2.2 _ wd_196) (fun _ h => h) rfl hin2 rfl (by decide +kernel) hn hf hl hdg kk
theorem gf_HM_32_HM (S : CallFix p m c cc nL s args tbl "HoldMaps") (K : va_K D vcl tys s) (P : so_P D vcl N0 σ H) (he : σ a = some (tg, .inr (0, fs))) (hv : fs[3]? = some v) (hdg : decode cc pc = .ok (.getfield 32, 3)) (kk : W p l e R s m args below meth c H locs cells slots Q (F0 m (pc + 3) ls (v :: rest))) : W p l e R s m args below meth c H locs cells slots Q (F0 m pc ls (.ref a :: rest)) := so_get S K P (T := F_HM) (N := 4) i_HM he rfl 3 (by decide) (S.2.2.2.2 _ wd_196) (fun _ h => h) hv hdg kk
theorem gf_HM_19_HM (S : CallFix p m c cc nL s args tbl "HoldMaps") (K : va_K D vcl tys s) (P : so_P D vcl N0 σ H) (he : σ a = some (tg, .inr (0, fs))) (hv : fs[1]? = some v) (hdg : decode cc pc = .ok (.getfield 19, 3)) (kk : W p l e R s m args below meth c H locs cells slots Q (F0 m (pc + 3) ls (v :: rest))) : W p l e R s m args below meth c H locs cells slots Q (F0 m pc ls (.ref a :: rest)) := so_get S K P (T := F_HM) (N := 4) i_HM he rfl 1 (by decide) (S.2.2.2.2 _ wd_194) (fun _ h => h) hv hdg kk
theorem gf_HM_26_HM (S : CallFix p m c cc nL s args tbl "HoldMaps") (K : va_K D vcl tys s) (P : so_P D vcl N0 σ H) (he : σ a = some (tg, .inr (0, fs))) (hv : fs[2]? = some v) (hdg : decode cc pc = .ok (.getfield 26, 3)) (kk : W p l e R s m args below meth c H locs cells slots Q (F0 m (pc + 3) ls (v :: rest))) : W p l e R s m args below meth c H locs cells slots Q (F0 m pc ls (.ref a :: rest)) := so_get S K P (T := F_HM) (N := 4) i_HM he rfl 2 (by decide) (S.2.2.2.2 _ wd_195) (fun _ h => h) hv hdg kk
theorem ci_HM_38 (S : CallFix p m c cc nL s args tbl "HoldMaps") (hB : so_B tbl s0 D vcl tys) (E : so_Kn s0 s) (P : so_P D vcl s0.heap.size σ H) (hS : va_S (so_A s0.heap.size) s.heap H locs) (hM : Met l y_Id_init [.code y_Id_init b_Id_init 1 none] (so_rm k1 mc ms) (va_Pc (.ref o :: As) (so_Pre s0 D vcl σ)) Qc mc ms free) (hA : As.length = 0) (hk : k1 < k) (hc1 : cells + mc ≤ mcR) (hs1 : slots + ms ≤ msR) (hsize : ls.size = nL) (hst : st0 = As.reverse ++ .ref o :: rest) (hW : (rest.map fun v => v.category).sum ≤ 8) (hdg : decode cc pc = .ok (.invokespecial 38, 3)) : va_Run p l e (so_rm k mcR msR) s m args below meth c H locs cells slots mc ms (F0 m pc ls st0) rest (Qc (Value.ref o :: As).toArray) free := ru_IN S hB E P hS hM wd_155 wd_156 wd_157 wd_10 rfl ⟨by decide +kernel, by decide +kernel, by rw [hA]; decide +kernel⟩ (by decide) hk hc1 hs1 hsize hst hW hdg
theorem ci_HM_41 (S : CallFix p m c cc nL s args tbl "HoldMaps") (hB : so_B tbl s0 D vcl tys) (E : so_Kn s0 s) (P : so_P D vcl s0.heap.size σ H) (hS : va_S (so_A s0.heap.size) s.heap H locs) (hM : Met l y_Pl_init [.code y_Pl_init b_Pl_init 1 none] (so_rm k1 mc ms) (va_Pc (.ref o :: As) (so_Pre s0 D vcl σ)) Qc mc ms free) (hA : As.length = 0) (hk : k1 < k) (hc1 : cells + mc ≤ mcR) (hs1 : slots + ms ≤ msR) (hsize : ls.size = nL) (hst : st0 = As.reverse ++ .ref o :: rest) (hW : (rest.map fun v => v.category).sum ≤ 8) (hdg : decode cc pc = .ok (.invokespecial 41, 3)) : va_Run p l e (so_rm k mcR msR) s m args below meth c H locs cells slots mc ms (F0 m pc ls st0) rest (Qc (Value.ref o :: As).toArray) free := ru_IN S hB E P hS hM wd_173 wd_174 wd_175 wd_11 rfl ⟨by decide +kernel, by decide +kernel, by rw [hA]; decide +kernel⟩ (by decide) hk hc1 hs1 hsize hst hW hdg
theorem ci_HM_44 (S : CallFix p m c cc nL s args tbl "HoldMaps") (hB : so_B tbl s0 D vcl tys) (E : so_Kn s0 s) (P : so_P D vcl s0.heap.size σ H) (hS : va_S (so_A s0.heap.size) s.heap H locs) (hM : Met l y_La_init [.code y_La_init b_La_init 1 none] (so_rm k1 mc ms) (va_Pc (.ref o :: As) (so_Pre s0 D vcl σ)) Qc mc ms free) (hA : As.length = 0) (hk : k1 < k) (hc1 : cells + mc ≤ mcR) (hs1 : slots + ms ≤ msR) (hsize : ls.size = nL) (hst : st0 = As.reverse ++ .ref o :: rest) (hW : (rest.map fun v => v.category).sum ≤ 8) (hdg : decode cc pc = .ok (.invokespecial 44, 3)) : va_Run p l e (so_rm k mcR msR) s m args below meth c H locs cells slots mc ms (F0 m pc ls st0) rest (Qc (Value.ref o :: As).toArray) free := ru_IN S hB E P hS hM wd_184 wd_185 wd_186 wd_12 rfl ⟨by decide +kernel, by decide +kernel, by rw [hA]; decide +kernel⟩ (by decide) hk hc1 hs1 hsize hst hW hdg
theorem pf_He_11_He (S : CallFix p m c cc nL s args tbl "HoldMaps$Heap") (K : va_K D vcl tys s) (P : so_P D vcl N0 σ H) (hS : va_S (so_A N0) H0 H locs) (hin2 : meth.name = "<init>") (he : σ a = some (tg, .inr (1, fs))) (hl : 0 < fs.length) (hn : narrow (.array (.object "HoldMaps$Thing")) v = v) (hf : fits (.array (.object "HoldMaps$Thing")) v = true) (hdg : decode cc pc = .ok (.putfield 11, 3)) (kk : ∀ (H1 : Heap) (locs1 : List Loc), so_P D vcl N0 (so_up σ a (tg, .inr (1, fs.set 0 v))) H1 → va_S (so_A N0) H0 H1 locs1 → W p l e R s m args below meth c H1 locs1 cells slots Q (F0 m (pc + 3) ls rest)) : W p l e R s m args below meth c H locs cells slots Q (F0 m pc ls (v :: .ref a :: rest)) := so_putF S K P hS (T := F_He) (N := 4) i_He t_He t_He_ok n_He he rfl 0 (by decide) (S.2.2.2.2 _ wd_44) (fun _ h => h) rfl hin2 rfl (by decide +kernel) hn hf hl hdg kk
theorem pf_He_17_He (S : CallFix p m c cc nL s args tbl "HoldMaps$Heap") (K : va_K D vcl tys s) (P : so_P D vcl N0 σ H) (hS : va_S (so_A N0) H0 H locs) (hin2 : meth.name = "<init>") (he : σ a = some (tg, .inr (1, fs))) (hl : 1 < fs.length) (hn : narrow (.array (.int)) v = v) (hf : fits (.array (.int)) v = true) (hdg : decode cc pc = .ok (.putfield 17, 3)) (kk : ∀ (H1 : Heap) (locs1 : List Loc), so_P D vcl N0 (so_up σ a (tg, .inr (1, fs.set 1 v))) H1 → va_S (so_A N0) H0 H1 locs1 → W p l e R s m args below meth c H1 locs1 cells slots Q (F0 m (pc + 3) ls rest)) : W p l e R s m args below meth c H locs cells slots Q (F0 m pc ls (v :: .ref a :: rest)) := so_putF S K P hS (T := F_He) (N := 4) i_He t_He t_He_ok n_He he rfl 1 (by decide) (S.2.2.2.2 _ wd_46) (fun _ h => h) rfl hin2 rfl (by decide +kernel) hn hf hl hdg kk
theorem ci_We_3 (S : CallFix p m c cc nL s args tbl "HoldMaps$WeakMap") (hB : so_B tbl s0 D vcl tys) (E : so_Kn s0 s) (P : so_P D vcl s0.heap.size σ H) (hS : va_S (so_A s0.heap.size) s.heap H locs) (hM : Met l y_Ro_init [.code y_Ro_init b_Ro_init 1 none] (so_rm k1 mc ms) (va_Pc (.ref o :: As) (so_Pre s0 D vcl σ)) Qc mc ms free) (hA : As.length = 0) (hk : k1 < k) (hc1 : cells + mc ≤ mcR) (hs1 : slots + ms ≤ msR) (hsize : ls.size = nL) (hst : st0 = As.reverse ++ .ref o :: rest) (hW : (rest.map fun v => v.category).sum ≤ 8) (hdg : decode cc pc = .ok (.invokespecial 3, 3)) : va_Run p l e (so_rm k mcR msR) s m args below meth c H locs cells slots mc ms (F0 m pc ls st0) rest (Qc (Value.ref o :: As).toArray) free := ru_IN S hB E P hS hM wd_65 wd_66 wd_67 wd_4 rfl ⟨by decide +kernel, by decide +kernel, by rw [hA]; decide +kernel⟩ (by decide) hk hc1 hs1 hsize hst hW hdg
theorem ci_We_11 (S : CallFix p m c cc nL s args tbl "HoldMaps$WeakMap") (hB : so_B tbl s0 D vcl tys) (E : so_Kn s0 s) (P : so_P D vcl s0.heap.size σ H) (hS : va_S (so_A s0.heap.size) s.heap H locs) (hM : Met l y_AL_init [.code y_AL_init b_AL_init 1 none] (so_rm k1 mc ms) (va_Pc (.ref o :: As) (so_Pre s0 D vcl σ)) Qc mc ms free) (hA : As.length = 0) (hk : k1 < k) (hc1 : cells + mc ≤ mcR) (hs1 : slots + ms ≤ msR) (hsize : ls.size = nL) (hst : st0 = As.reverse ++ .ref o :: rest) (hW : (rest.map fun v => v.category).sum ≤ 8) (hdg : decode cc pc = .ok (.invokespecial 11, 3)) : va_Run p l e (so_rm k mcR msR) s m args below meth c H locs cells slots mc ms (F0 m pc ls st0) rest (Qc (Value.ref o :: As).toArray) free := ru_I S hB E P hS hM wd_99 wd_75 wd_76 wd_8 rfl ⟨by decide +kernel, by decide +kernel, by rw [hA]; decide +kernel⟩ (by decide) hk hc1 hs1 hsize hst hW hdg
theorem pf_We_12_We (S : CallFix p m c cc nL s args tbl "HoldMaps$WeakMap") (K : va_K D vcl tys s) (P : so_P D vcl N0 σ H) (hS : va_S (so_A N0) H0 H locs) (hin2 : meth.name = "<init>") (he : σ a = some (tg, .inr (4, fs))) (hl : 4 < fs.length) (hn : narrow (.object "java/util/ArrayList") v = v) (hf : fits (.object "java/util/ArrayList") v = true) (hdg : decode cc pc = .ok (.putfield 12, 3)) (kk : ∀ (H1 : Heap) (locs1 : List Loc), so_P D vcl N0 (so_up σ a (tg, .inr (4, fs.set 4 v))) H1 → va_S (so_A N0) H0 H1 locs1 → W p l e R s m args below meth c H1 locs1 cells slots Q (F0 m (pc + 3) ls rest)) : W p l e R s m args below meth c H locs cells slots Q (F0 m pc ls (v :: .ref a :: rest)) := so_putF S K P hS (T := F_We) (N := 6) i_We t_We t_We_ok n_We he rfl 4 (by decide) (S.2.2.2.2 _ wd_100) (fun _ h => h) rfl hin2 rfl (by decide +kernel) hn hf hl hdg kk
theorem pf_We_18_We (S : CallFix p m c cc nL s args tbl "HoldMaps$WeakMap") (K : va_K D vcl tys s) (P : so_P D vcl N0 σ H) (hS : va_S (so_A N0) H0 H locs) (he : σ a = some (tg, .inr (4, fs))) (hl : 5 < fs.length) (hn : narrow (.int) v = v) (hf : fits (.int) v = true) (hdg : decode cc pc = .ok (.putfield 18, 3)) (kk : ∀ (H1 : Heap) (locs1 : List Loc), so_P D vcl N0 (so_up σ a (tg, .inr (4, fs.set 5 v))) H1 → va_S (so_A N0) H0 H1 locs1 → W p l e R s m args below meth c H1 locs1 cells slots Q (F0 m (pc + 3) ls rest)) : W p l e R s m args below meth c H locs cells slots Q (F0 m pc ls (v :: .ref a :: rest)) := so_put S K P hS (T := F_We) (N := 6) i_We t_We t_We_ok n_We he rfl 5 (by decide) (S.2.2.2.2 _ wd_101) (fun _ h => h) rfl (by decide +kernel) hn hf hl hdg kk
theorem ci_Ro_1 (S : CallFix p m c cc nL s args tbl "HoldMaps$Row") (hB : so_B tbl s0 D vcl tys) (E : so_Kn s0 s) (P : so_P D vcl s0.heap.size σ H) (hS : va_S (so_A s0.heap.size) s.heap H locs) (hM : Met l y_Ta_init [.code y_Ta_init b_Ta_init 1 none] (so_rm k1 mc ms) (va_Pc (.ref o :: As) (so_Pre s0 D vcl σ)) Qc mc ms free) (hA : As.length = 0) (hk : k1 < k) (hc1 : cells + mc ≤ mcR) (hs1 : slots + ms ≤ msR) (hsize : ls.size = nL) (hst : st0 = As.reverse ++ .ref o :: rest) (hW : (rest.map fun v => v.category).sum ≤ 8) (hdg : decode cc pc = .ok (.invokespecial 1, 3)) : va_Run p l e (so_rm k mcR msR) s m args below meth c H locs cells slots mc ms (F0 m pc ls st0) rest (Qc (Value.ref o :: As).toArray) free := ru_IN S hB E P hS hM wd_68 wd_69 wd_70 wd_3 rfl ⟨by decide +kernel, by decide +kernel, by rw [hA]; decide +kernel⟩ (by decide) hk hc1 hs1 hsize hst hW hdg
theorem ci_Ro_9 (S : CallFix p m c cc nL s args tbl "HoldMaps$Row") (hB : so_B tbl s0 D vcl tys) (E : so_Kn s0 s) (P : so_P D vcl s0.heap.size σ H) (hS : va_S (so_A s0.heap.size) s.heap H locs) (hM : Met l y_AL_init [.code y_AL_init b_AL_init 1 none] (so_rm k1 mc ms) (va_Pc (.ref o :: As) (so_Pre s0 D vcl σ)) Qc mc ms free) (hA : As.length = 0) (hk : k1 < k) (hc1 : cells + mc ≤ mcR) (hs1 : slots + ms ≤ msR) (hsize : ls.size = nL) (hst : st0 = As.reverse ++ .ref o :: rest) (hW : (rest.map fun v => v.category).sum ≤ 8) (hdg : decode cc pc = .ok (.invokespecial 9, 3)) : va_Run p l e (so_rm k mcR msR) s m args below meth c H locs cells slots mc ms (F0 m pc ls st0) rest (Qc (Value.ref o :: As).toArray) free := ru_I S hB E P hS hM wd_74 wd_75 wd_76 wd_8 rfl ⟨by decide +kernel, by decide +kernel, by rw [hA]; decide +kernel⟩ (by decide) hk hc1 hs1 hsize hst hW hdg
theorem pf_Ro_10_We (S : CallFix p m c cc nL s args tbl "HoldMaps$Row") (K : va_K D vcl tys s) (P : so_P D vcl N0 σ H) (hS : va_S (so_A N0) H0 H locs) (hin2 : meth.name = "<init>") (he : σ a = some (tg, .inr (4, fs))) (hl : 3 < fs.length) (hn : narrow (.object "java/util/ArrayList") v = v) (hf : fits (.object "java/util/ArrayList") v = true) (hdg : decode cc pc = .ok (.putfield 10, 3)) (kk : ∀ (H1 : Heap) (locs1 : List Loc), so_P D vcl N0 (so_up σ a (tg, .inr (4, fs.set 3 v))) H1 → va_S (so_A N0) H0 H1 locs1 → W p l e R s m args below meth c H1 locs1 cells slots Q (F0 m (pc + 3) ls rest)) : W p l e R s m args below meth c H locs cells slots Q (F0 m pc ls (v :: .ref a :: rest)) := so_putF S K P hS (T := F_We) (N := 6) i_We t_We t_We_ok n_We he rfl 3 (by decide) (S.2.2.2.2 _ wd_103) (fun _ h => h) rfl hin2 rfl (by decide +kernel) hn hf hl hdg kk
theorem pf_Ro_10_So (S : CallFix p m c cc nL s args tbl "HoldMaps$Row") (K : va_K D vcl tys s) (P : so_P D vcl N0 σ H) (hS : va_S (so_A N0) H0 H locs) (hin2 : meth.name = "<init>") (he : σ a = some (tg, .inr (5, fs))) (hl : 3 < fs.length) (hn : narrow (.object "java/util/ArrayList") v = v) (hf : fits (.object "java/util/ArrayList") v = true) (hdg : decode cc pc = .ok (.putfield 10, 3)) (kk : ∀ (H1 : Heap) (locs1 : List Loc), so_P D vcl N0 (so_up σ a (tg, .inr (5, fs.set 3 v))) H1 → va_S (so_A N0) H0 H1 locs1 → W p l e R s m args below meth c H1 locs1 cells slots Q (F0 m (pc + 3) ls rest)) : W p l e R s m args below meth c H locs cells slots Q (F0 m pc ls (v :: .ref a :: rest)) := so_putF S K P hS (T := F_So) (N := 5) i_So t_So t_So_ok n_So he rfl 3 (by decide) (S.2.2.2.2 _ wd_103) (fun _ h => h) rfl hin2 rfl (by decide +kernel) hn hf hl hdg kk
theorem pf_Ro_10_Pl (S : CallFix p m c cc nL s args tbl "HoldMaps$Row") (K : va_K D vcl tys s) (P : so_P D vcl N0 σ H) (hS : va_S (so_A N0) H0 H locs) (hin2 : meth.name = "<init>") (he : σ a = some (tg, .inr (7, fs))) (hl : 3 < fs.length) (hn : narrow (.object "java/util/ArrayList") v = v) (hf : fits (.object "java/util/ArrayList") v = true) (hdg : decode cc pc = .ok (.putfield 10, 3)) (kk : ∀ (H1 : Heap) (locs1 : List Loc), so_P D vcl N0 (so_up σ a (tg, .inr (7, fs.set 3 v))) H1 → va_S (so_A N0) H0 H1 locs1 → W p l e R s m args below meth c H1 locs1 cells slots Q (F0 m (pc + 3) ls rest)) : W p l e R s m args below meth c H locs cells slots Q (F0 m pc ls (v :: .ref a :: rest)) := so_putF S K P hS (T := F_Pl) (N := 4) i_Pl t_Pl t_Pl_ok n_Pl he rfl 3 (by decide) (S.2.2.2.2 _ wd_103) (fun _ h => h) rfl hin2 rfl (by decide +kernel) hn hf hl hdg kk
theorem pf_Ro_10_La (S : CallFix p m c cc nL s args tbl "HoldMaps$Row") (K : va_K D vcl tys s) (P : so_P D vcl N0 σ H) (hS : va_S (so_A N0) H0 H locs) (hin2 : meth.name = "<init>") (he : σ a = some (tg, .inr (8, fs))) (hl : 3 < fs.length) (hn : narrow (.object "java/util/ArrayList") v = v) (hf : fits (.object "java/util/ArrayList") v = true) (hdg : decode cc pc = .ok (.putfield 10, 3)) (kk : ∀ (H1 : Heap) (locs1 : List Loc), so_P D vcl N0 (so_up σ a (tg, .inr (8, fs.set 3 v))) H1 → va_S (so_A N0) H0 H1 locs1 → W p l e R s m args below meth c H1 locs1 cells slots Q (F0 m (pc + 3) ls rest)) : W p l e R s m args below meth c H locs cells slots Q (F0 m pc ls (v :: .ref a :: rest)) := so_putF S K P hS (T := F_La) (N := 4) i_La t_La t_La_ok n_La he rfl 3 (by decide) (S.2.2.2.2 _ wd_103) (fun _ h => h) rfl hin2 rfl (by decide +kernel) hn hf hl hdg kk
theorem ci_AL_1 (S : CallFix p m c cc nL s args tbl "java/util/ArrayList") (hB : so_B tbl s0 D vcl tys) (E : so_Kn s0 s) (P : so_P D vcl s0.heap.size σ H) (hS : va_S (so_A s0.heap.size) s.heap H locs) (hM : Met l y_Ab_init [.code y_Ab_init b_Ab_init 1 none] (so_rm k1 mc ms) (va_Pc (.ref o :: As) (so_Pre s0 D vcl σ)) Qc mc ms free) (hA : As.length = 0) (hk : k1 < k) (hc1 : cells + mc ≤ mcR) (hs1 : slots + ms ≤ msR) (hsize : ls.size = nL) (hst : st0 = As.reverse ++ .ref o :: rest) (hW : (rest.map fun v => v.category).sum ≤ 8) (hdg : decode cc pc = .ok (.invokespecial 1, 3)) : va_Run p l e (so_rm k mcR msR) s m args below meth c H locs cells slots mc ms (F0 m pc ls st0) rest (Qc (Value.ref o :: As).toArray) free := ru_I S hB E P hS hM wd_77 wd_78 wd_79 wd_7 rfl ⟨by decide +kernel, by decide +kernel, by rw [hA]; decide +kernel⟩ (by decide) hk hc1 hs1 hsize hst hW hdg
theorem pf_AL_9_AL (S : CallFix p m c cc nL s args tbl "java/util/ArrayList") (K : va_K D vcl tys s) (P : so_P D vcl N0 σ H) (hS : va_S (so_A N0) H0 H locs) (he : σ a = some (tg, .inr (9, fs))) (hl : 1 < fs.length) (hn : narrow (.array (.object "java/lang/Object")) v = v) (hf : fits (.array (.object "java/lang/Object")) v = true) (hdg : decode cc pc = .ok (.putfield 9, 3)) (kk : ∀ (H1 : Heap) (locs1 : List Loc), so_P D vcl N0 (so_up σ a (tg, .inr (9, fs.set 1 v))) H1 → va_S (so_A N0) H0 H1 locs1 → W p l e R s m args below meth c H1 locs1 cells slots Q (F0 m (pc + 3) ls rest)) : W p l e R s m args below meth c H locs cells slots Q (F0 m pc ls (v :: .ref a :: rest)) := so_put S K P hS (T := F_AL) (N := 3) i_AL t_AL t_AL_ok n_AL he rfl 1 (by decide) (S.2.2.2.2 _ wd_86) (fun _ h => h) rfl (by decide +kernel) hn hf hl hdg kk
theorem ci_Ab_1 (S : CallFix p m c cc nL s args tbl "java/util/AbstractList") (hB : so_B tbl s0 D vcl tys) (E : so_Kn s0 s) (P : so_P D vcl s0.heap.size σ H) (hS : va_S (so_A s0.heap.size) s.heap H locs) (hM : Met l y_Ac_init [.code y_Ac_init b_Ac_init 1 none] (so_rm k1 mc ms) (va_Pc (.ref o :: As) (so_Pre s0 D vcl σ)) Qc mc ms free) (hA : As.length = 0) (hk : k1 < k) (hc1 : cells + mc ≤ mcR) (hs1 : slots + ms ≤ msR) (hsize : ls.size = nL) (hst : st0 = As.reverse ++ .ref o :: rest) (hW : (rest.map fun v => v.category).sum ≤ 8) (hdg : decode cc pc = .ok (.invokespecial 1, 3)) : va_Run p l e (so_rm k mcR msR) s m args below meth c H locs cells slots mc ms (F0 m pc ls st0) rest (Qc (Value.ref o :: As).toArray) free := ru_I S hB E P hS hM wd_80 wd_81 wd_82 wd_6 rfl ⟨by decide +kernel, by decide +kernel, by rw [hA]; decide +kernel⟩ (by decide) hk hc1 hs1 hsize hst hW hdg
theorem pf_Ab_7_AL (S : CallFix p m c cc nL s args tbl "java/util/AbstractList") (K : va_K D vcl tys s) (P : so_P D vcl N0 σ H) (hS : va_S (so_A N0) H0 H locs) (he : σ a = some (tg, .inr (9, fs))) (hl : 0 < fs.length) (hn : narrow (.int) v = v) (hf : fits (.int) v = true) (hdg : decode cc pc = .ok (.putfield 7, 3)) (kk : ∀ (H1 : Heap) (locs1 : List Loc), so_P D vcl N0 (so_up σ a (tg, .inr (9, fs.set 0 v))) H1 → va_S (so_A N0) H0 H1 locs1 → W p l e R s m args below meth c H1 locs1 cells slots Q (F0 m (pc + 3) ls rest)) : W p l e R s m args below meth c H locs cells slots Q (F0 m pc ls (v :: .ref a :: rest)) := so_put S K P hS (T := F_AL) (N := 3) i_AL t_AL t_AL_ok n_AL he rfl 0 (by decide) (S.2.2.2.2 _ wd_88) (fun _ h => h) rfl (by decide +kernel) hn hf hl hdg kk
theorem ci_So_3 (S : CallFix p m c cc nL s args tbl "HoldMaps$SoftMap") (hB : so_B tbl s0 D vcl tys) (E : so_Kn s0 s) (P : so_P D vcl s0.heap.size σ H) (hS : va_S (so_A s0.heap.size) s.heap H locs) (hM : Met l y_Ro_init [.code y_Ro_init b_Ro_init 1 none] (so_rm k1 mc ms) (va_Pc (.ref o :: As) (so_Pre s0 D vcl σ)) Qc mc ms free) (hA : As.length = 0) (hk : k1 < k) (hc1 : cells + mc ≤ mcR) (hs1 : slots + ms ≤ msR) (hsize : ls.size = nL) (hst : st0 = As.reverse ++ .ref o :: rest) (hW : (rest.map fun v => v.category).sum ≤ 8) (hdg : decode cc pc = .ok (.invokespecial 3, 3)) : va_Run p l e (so_rm k mcR msR) s m args below meth c H locs cells slots mc ms (F0 m pc ls st0) rest (Qc (Value.ref o :: As).toArray) free := ru_IN S hB E P hS hM wd_141 wd_66 wd_67 wd_4 rfl ⟨by decide +kernel, by decide +kernel, by rw [hA]; decide +kernel⟩ (by decide) hk hc1 hs1 hsize hst hW hdg
theorem ci_Id_3 (S : CallFix p m c cc nL s args tbl "HoldMaps$IdentityMap") (hB : so_B tbl s0 D vcl tys) (E : so_Kn s0 s) (P : so_P D vcl s0.heap.size σ H) (hS : va_S (so_A s0.heap.size) s.heap H locs) (hM : Met l y_Ta_init [.code y_Ta_init b_Ta_init 1 none] (so_rm k1 mc ms) (va_Pc (.ref o :: As) (so_Pre s0 D vcl σ)) Qc mc ms free) (hA : As.length = 0) (hk : k1 < k) (hc1 : cells + mc ≤ mcR) (hs1 : slots + ms ≤ msR) (hsize : ls.size = nL) (hst : st0 = As.reverse ++ .ref o :: rest) (hW : (rest.map fun v => v.category).sum ≤ 8) (hdg : decode cc pc = .ok (.invokespecial 3, 3)) : va_Run p l e (so_rm k mcR msR) s m args below meth c H locs cells slots mc ms (F0 m pc ls st0) rest (Qc (Value.ref o :: As).toArray) free := ru_IN S hB E P hS hM wd_158 wd_69 wd_70 wd_3 rfl ⟨by decide +kernel, by decide +kernel, by rw [hA]; decide +kernel⟩ (by decide) hk hc1 hs1 hsize hst hW hdg
theorem pf_Id_11_Id (S : CallFix p m c cc nL s args tbl "HoldMaps$IdentityMap") (K : va_K D vcl tys s) (P : so_P D vcl N0 σ H) (hS : va_S (so_A N0) H0 H locs) (hin2 : meth.name = "<init>") (he : σ a = some (tg, .inr (6, fs))) (hl : 3 < fs.length) (hn : narrow (.array (.object "HoldMaps$Entry")) v = v) (hf : fits (.array (.object "HoldMaps$Entry")) v = true) (hdg : decode cc pc = .ok (.putfield 11, 3)) (kk : ∀ (H1 : Heap) (locs1 : List Loc), so_P D vcl N0 (so_up σ a (tg, .inr (6, fs.set 3 v))) H1 → va_S (so_A N0) H0 H1 locs1 → W p l e R s m args below meth c H1 locs1 cells slots Q (F0 m (pc + 3) ls rest)) : W p l e R s m args below meth c H locs cells slots Q (F0 m pc ls (v :: .ref a :: rest)) := so_putF S K P hS (T := F_Id) (N := 5) i_Id t_Id t_Id_ok n_Id he rfl 3 (by decide) (S.2.2.2.2 _ wd_161) (fun _ h => h) rfl hin2 rfl (by decide +kernel) hn hf hl hdg kk
theorem ci_Pl_3 (S : CallFix p m c cc nL s args tbl "HoldMaps$PlacesMap") (hB : so_B tbl s0 D vcl tys) (E : so_Kn s0 s) (P : so_P D vcl s0.heap.size σ H) (hS : va_S (so_A s0.heap.size) s.heap H locs) (hM : Met l y_Ro_init [.code y_Ro_init b_Ro_init 1 none] (so_rm k1 mc ms) (va_Pc (.ref o :: As) (so_Pre s0 D vcl σ)) Qc mc ms free) (hA : As.length = 0) (hk : k1 < k) (hc1 : cells + mc ≤ mcR) (hs1 : slots + ms ≤ msR) (hsize : ls.size = nL) (hst : st0 = As.reverse ++ .ref o :: rest) (hW : (rest.map fun v => v.category).sum ≤ 8) (hdg : decode cc pc = .ok (.invokespecial 3, 3)) : va_Run p l e (so_rm k mcR msR) s m args below meth c H locs cells slots mc ms (F0 m pc ls st0) rest (Qc (Value.ref o :: As).toArray) free := ru_IN S hB E P hS hM wd_176 wd_66 wd_67 wd_4 rfl ⟨by decide +kernel, by decide +kernel, by rw [hA]; decide +kernel⟩ (by decide) hk hc1 hs1 hsize hst hW hdg
theorem ci_La_3 (S : CallFix p m c cc nL s args tbl "HoldMaps$LatestMap") (hB : so_B tbl s0 D vcl tys) (E : so_Kn s0 s) (P : so_P D vcl s0.heap.size σ H) (hS : va_S (so_A s0.heap.size) s.heap H locs) (hM : Met l y_Ro_init [.code y_Ro_init b_Ro_init 1 none] (so_rm k1 mc ms) (va_Pc (.ref o :: As) (so_Pre s0 D vcl σ)) Qc mc ms free) (hA : As.length = 0) (hk : k1 < k) (hc1 : cells + mc ≤ mcR) (hs1 : slots + ms ≤ msR) (hsize : ls.size = nL) (hst : st0 = As.reverse ++ .ref o :: rest) (hW : (rest.map fun v => v.category).sum ≤ 8) (hdg : decode cc pc = .ok (.invokespecial 3, 3)) : va_Run p l e (so_rm k mcR msR) s m args below meth c H locs cells slots mc ms (F0 m pc ls st0) rest (Qc (Value.ref o :: As).toArray) free := ru_IN S hB E P hS hM wd_187 wd_66 wd_67 wd_4 rfl ⟨by decide +kernel, by decide +kernel, by rw [hA]; decide +kernel⟩ (by decide) hk hc1 hs1 hsize hst hW hdg
theorem cs_HM_143 (S : CallFix p m c cc nL s args tbl "HoldMaps") (hB : so_B tbl s0 D vcl tys) (E : so_Kn s0 s) (P : so_P D vcl s0.heap.size σ H) (hS : va_S (so_A s0.heap.size) s.heap H locs) (hM : Met l y_HM_isMap [.code y_HM_isMap b_HM_isMap 1 (some .boolean)] (so_rm k1 mc ms) (va_Pc As (so_Pre s0 D vcl σ)) Qc mc ms free) (hA : As.length = 1) (hk : k1 < k) (hc1 : cells + mc ≤ mcR) (hs1 : slots + ms ≤ msR) (hsize : ls.size = nL) (hst : st0 = As.reverse ++ rest) (hW : (rest.map fun v => v.category).sum ≤ 8) (hdg : decode cc pc = .ok (.invokestatic 143, 3)) : va_Run p l e (so_rm k mcR msR) s m args below meth c H locs cells slots mc ms (F0 m pc ls st0) rest (Qc As.toArray) free := ru_S S hB E P hS hM wd_210 wd_211 wd_212 wd_1 ⟨by decide +kernel, by decide +kernel, by rw [hA]; decide +kernel⟩ (by decide) hk hc1 hs1 hsize hst hW hdg
theorem cv_HM_146_We (S : CallFix p m c cc nL s args tbl "HoldMaps") (hB : so_B tbl s0 D vcl tys) (K : va_K D vcl tys s) (E : so_Kn s0 s) (P : so_P D vcl s0.heap.size σ H) (hS : va_S (so_A s0.heap.size) s.heap H locs) (he : σ o = some (tg, .inr (4, fs))) (hM : Met l y_Ro_length [.code y_Ro_length b_Ro_length 1 (some .int)] (so_rm k1 mc ms) (va_Pc (.ref o :: As) (so_Pre s0 D vcl σ)) Qc mc ms free) (hA : As.length = 0) (hk : k1 < k) (hc1 : cells + mc ≤ mcR) (hs1 : slots + ms ≤ msR) (hsize : ls.size = nL) (hst : st0 = As.reverse ++ .ref o :: rest) (hW : (rest.map fun v => v.category).sum ≤ 8) (hdg : decode cc pc = .ok (.invokevirtual 146, 3)) : va_Run p l e (so_rm k mcR msR) s m args below meth c H locs cells slots mc ms (F0 m pc ls st0) rest (Qc (Value.ref o :: As).toArray) free := ru_U (x := ⟨"HoldMaps$Table", "length", "()I"⟩) (owner := "HoldMaps$Table") S hB K E P hS hM he rfl wd_213 wd_215 (va_Decl.abs (va_Nw.of rfl (S.2.2.2.2 _ wd_214))) wd_220 wd_228 wd_221 wd_4 ⟨by decide +kernel, by decide +kernel, by rw [hA]; decide +kernel⟩ (by decide) hk hc1 hs1 hsize hst hW hdg
theorem cv_HM_146_So (S : CallFix p m c cc nL s args tbl "HoldMaps") (hB : so_B tbl s0 D vcl tys) (K : va_K D vcl tys s) (E : so_Kn s0 s) (P : so_P D vcl s0.heap.size σ H) (hS : va_S (so_A s0.heap.size) s.heap H locs) (he : σ o = some (tg, .inr (5, fs))) (hM : Met l y_Ro_length [.code y_Ro_length b_Ro_length 1 (some .int)] (so_rm k1 mc ms) (va_Pc (.ref o :: As) (so_Pre s0 D vcl σ)) Qc mc ms free) (hA : As.length = 0) (hk : k1 < k) (hc1 : cells + mc ≤ mcR) (hs1 : slots + ms ≤ msR) (hsize : ls.size = nL) (hst : st0 = As.reverse ++ .ref o :: rest) (hW : (rest.map fun v => v.category).sum ≤ 8) (hdg : decode cc pc = .ok (.invokevirtual 146, 3)) : va_Run p l e (so_rm k mcR msR) s m args below meth c H locs cells slots mc ms (F0 m pc ls st0) rest (Qc (Value.ref o :: As).toArray) free := ru_U (x := ⟨"HoldMaps$Table", "length", "()I"⟩) (owner := "HoldMaps$Table") S hB K E P hS hM he rfl wd_213 wd_215 (va_Decl.abs (va_Nw.of rfl (S.2.2.2.2 _ wd_214))) wd_220 wd_227 wd_221 wd_4 ⟨by decide +kernel, by decide +kernel, by rw [hA]; decide +kernel⟩ (by decide) hk hc1 hs1 hsize hst hW hdg
theorem cv_HM_146_Id (S : CallFix p m c cc nL s args tbl "HoldMaps") (hB : so_B tbl s0 D vcl tys) (K : va_K D vcl tys s) (E : so_Kn s0 s) (P : so_P D vcl s0.heap.size σ H) (hS : va_S (so_A s0.heap.size) s.heap H locs) (he : σ o = some (tg, .inr (6, fs))) (hM : Met l y_Id_length [.code y_Id_length b_Id_length 1 (some .int)] (so_rm k1 mc ms) (va_Pc (.ref o :: As) (so_Pre s0 D vcl σ)) Qc mc ms free) (hA : As.length = 0) (hk : k1 < k) (hc1 : cells + mc ≤ mcR) (hs1 : slots + ms ≤ msR) (hsize : ls.size = nL) (hst : st0 = As.reverse ++ .ref o :: rest) (hW : (rest.map fun v => v.category).sum ≤ 8) (hdg : decode cc pc = .ok (.invokevirtual 146, 3)) : va_Run p l e (so_rm k mcR msR) s m args below meth c H locs cells slots mc ms (F0 m pc ls st0) rest (Qc (Value.ref o :: As).toArray) free := ru_U (x := ⟨"HoldMaps$Table", "length", "()I"⟩) (owner := "HoldMaps$Table") S hB K E P hS hM he rfl wd_213 wd_215 (va_Decl.abs (va_Nw.of rfl (S.2.2.2.2 _ wd_214))) wd_217 wd_216 wd_218 wd_10 ⟨by decide +kernel, by decide +kernel, by rw [hA]; decide +kernel⟩ (by decide) hk hc1 hs1 hsize hst hW hdg
theorem cv_HM_146_Pl (S : CallFix p m c cc nL s args tbl "HoldMaps") (hB : so_B tbl s0 D vcl tys) (K : va_K D vcl tys s) (E : so_Kn s0 s) (P : so_P D vcl s0.heap.size σ H) (hS : va_S (so_A s0.heap.size) s.heap H locs) (he : σ o = some (tg, .inr (7, fs))) (hM : Met l y_Ro_length [.code y_Ro_length b_Ro_length 1 (some .int)] (so_rm k1 mc ms) (va_Pc (.ref o :: As) (so_Pre s0 D vcl σ)) Qc mc ms free) (hA : As.length = 0) (hk : k1 < k) (hc1 : cells + mc ≤ mcR) (hs1 : slots + ms ≤ msR) (hsize : ls.size = nL) (hst : st0 = As.reverse ++ .ref o :: rest) (hW : (rest.map fun v => v.category).sum ≤ 8) (hdg : decode cc pc = .ok (.invokevirtual 146, 3)) : va_Run p l e (so_rm k mcR msR) s m args below meth c H locs cells slots mc ms (F0 m pc ls st0) rest (Qc (Value.ref o :: As).toArray) free := ru_U (x := ⟨"HoldMaps$Table", "length", "()I"⟩) (owner := "HoldMaps$Table") S hB K E P hS hM he rfl wd_213 wd_215 (va_Decl.abs (va_Nw.of rfl (S.2.2.2.2 _ wd_214))) wd_220 wd_226 wd_221 wd_4 ⟨by decide +kernel, by decide +kernel, by rw [hA]; decide +kernel⟩ (by decide) hk hc1 hs1 hsize hst hW hdg
theorem cv_HM_146_La (S : CallFix p m c cc nL s args tbl "HoldMaps") (hB : so_B tbl s0 D vcl tys) (K : va_K D vcl tys s) (E : so_Kn s0 s) (P : so_P D vcl s0.heap.size σ H) (hS : va_S (so_A s0.heap.size) s.heap H locs) (he : σ o = some (tg, .inr (8, fs))) (hM : Met l y_Ro_length [.code y_Ro_length b_Ro_length 1 (some .int)] (so_rm k1 mc ms) (va_Pc (.ref o :: As) (so_Pre s0 D vcl σ)) Qc mc ms free) (hA : As.length = 0) (hk : k1 < k) (hc1 : cells + mc ≤ mcR) (hs1 : slots + ms ≤ msR) (hsize : ls.size = nL) (hst : st0 = As.reverse ++ .ref o :: rest) (hW : (rest.map fun v => v.category).sum ≤ 8) (hdg : decode cc pc = .ok (.invokevirtual 146, 3)) : va_Run p l e (so_rm k mcR msR) s m args below meth c H locs cells slots mc ms (F0 m pc ls st0) rest (Qc (Value.ref o :: As).toArray) free := ru_U (x := ⟨"HoldMaps$Table", "length", "()I"⟩) (owner := "HoldMaps$Table") S hB K E P hS hM he rfl wd_213 wd_215 (va_Decl.abs (va_Nw.of rfl (S.2.2.2.2 _ wd_214))) wd_220 wd_219 wd_221 wd_4 ⟨by decide +kernel, by decide +kernel, by rw [hA]; decide +kernel⟩ (by decide) hk hc1 hs1 hsize hst hW hdg
theorem gf_Id_17_Id (S : CallFix p m c cc nL s args tbl "HoldMaps$IdentityMap") (K : va_K D vcl tys s) (P : so_P D vcl N0 σ H) (he : σ a = some (tg, .inr (6, fs))) (hv : fs[4]? = some v) (hdg : decode cc pc = .ok (.getfield 17, 3)) (kk : W p l e R s m args below meth c H locs cells slots Q (F0 m (pc + 3) ls (v :: rest))) : W p l e R s m args below meth c H locs cells slots Q (F0 m pc ls (.ref a :: rest)) := so_get S K P (T := F_Id) (N := 5) i_Id he rfl 4 (by decide) (S.2.2.2.2 _ wd_162) (fun _ h => h) hv hdg kk
theorem gf_Ro_10_We (S : CallFix p m c cc nL s args tbl "HoldMaps$Row") (K : va_K D vcl tys s) (P : so_P D vcl N0 σ H) (he : σ a = some (tg, .inr (4, fs))) (hv : fs[3]? = some v) (hdg : decode cc pc = .ok (.getfield 10, 3)) (kk : W p l e R s m args below meth c H locs cells slots Q (F0 m (pc + 3) ls (v :: rest))) : W p l e R s m args below meth c H locs cells slots Q (F0 m pc ls (.ref a :: rest)) := so_get S K P (T := F_We) (N := 6) i_We he rfl 3 (by decide) (S.2.2.2.2 _ wd_103) (fun _ h => h) hv hdg kk
theorem gf_Ro_10_So (S : CallFix p m c cc nL s args tbl "HoldMaps$Row") (K : va_K D vcl tys s) (P : so_P D vcl N0 σ H) (he : σ a = some (tg, .inr (5, fs))) (hv : fs[3]? = some v) (hdg : decode cc pc = .ok (.getfield 10, 3)) (kk : W p l e R s m args below meth c H locs cells slots Q (F0 m (pc + 3) ls (v :: rest))) : W p l e R s m args below meth c H locs cells slots Q (F0 m pc ls (.ref a :: rest)) := so_get S K P (T := F_So) (N := 5) i_So he rfl 3 (by decide) (S.2.2.2.2 _ wd_103) (fun _ h => h) hv hdg kk
theorem gf_Ro_10_Pl (S : CallFix p m c cc nL s args tbl "HoldMaps$Row") (K : va_K D vcl tys s) (P : so_P D vcl N0 σ H) (he : σ a = some (tg, .inr (7, fs))) (hv : fs[3]? = some v) (hdg : decode cc pc = .ok (.getfield 10, 3)) (kk : W p l e R s m args below meth c H locs cells slots Q (F0 m (pc + 3) ls (v :: rest))) : W p l e R s m args below meth c H locs cells slots Q (F0 m pc ls (.ref a :: rest)) := so_get S K P (T := F_Pl) (N := 4) i_Pl he rfl 3 (by decide) (S.2.2.2.2 _ wd_103) (fun _ h => h) hv hdg kk
theorem gf_Ro_10_La (S : CallFix p m c cc nL s args tbl "HoldMaps$Row") (K : va_K D vcl tys s) (P : so_P D vcl N0 σ H) (he : σ a = some (tg, .inr (8, fs))) (hv : fs[3]? = some v) (hdg : decode cc pc = .ok (.getfield 10, 3)) (kk : W p l e R s m args below meth c H locs cells slots Q (F0 m (pc + 3) ls (v :: rest))) : W p l e R s m args below meth c H locs cells slots Q (F0 m pc ls (.ref a :: rest)) := so_get S K P (T := F_La) (N := 4) i_La he rfl 3 (by decide) (S.2.2.2.2 _ wd_103) (fun _ h => h) hv hdg kk
theorem cv_Ro_16_AL (S : CallFix p m c cc nL s args tbl "HoldMaps$Row") (hB : so_B tbl s0 D vcl tys) (K : va_K D vcl tys s) (E : so_Kn s0 s) (P : so_P D vcl s0.heap.size σ H) (hS : va_S (so_A s0.heap.size) s.heap H locs) (he : σ o = some (tg, .inr (9, fs))) (hM : Met l y_AL_size [.code y_AL_size b_AL_size 1 (some .int)] (so_rm k1 mc ms) (va_Pc (.ref o :: As) (so_Pre s0 D vcl σ)) Qc mc ms free) (hA : As.length = 0) (hk : k1 < k) (hc1 : cells + mc ≤ mcR) (hs1 : slots + ms ≤ msR) (hsize : ls.size = nL) (hst : st0 = As.reverse ++ .ref o :: rest) (hW : (rest.map fun v => v.category).sum ≤ 8) (hdg : decode cc pc = .ok (.invokevirtual 16, 3)) : va_Run p l e (so_rm k mcR msR) s m args below meth c H locs cells slots mc ms (F0 m pc ls st0) rest (Qc (Value.ref o :: As).toArray) free := ru_V S hB K E P hS hM he rfl wd_222 wd_223 wd_224 wd_225 wd_8 ⟨by decide +kernel, by decide +kernel, by rw [hA]; decide +kernel⟩ (by decide) hk hc1 hs1 hsize hst hW hdg
theorem gf_AL_48_AL (S : CallFix p m c cc nL s args tbl "java/util/ArrayList") (K : va_K D vcl tys s) (P : so_P D vcl N0 σ H) (he : σ a = some (tg, .inr (9, fs))) (hv : fs[2]? = some v) (hdg : decode cc pc = .ok (.getfield 48, 3)) (kk : W p l e R s m args below meth c H locs cells slots Q (F0 m (pc + 3) ls (v :: rest))) : W p l e R s m args below meth c H locs cells slots Q (F0 m pc ls (.ref a :: rest)) := so_get S K P (T := F_AL) (N := 3) i_AL he rfl 2 (by decide) (S.2.2.2.2 _ wd_87) (fun _ h => h) hv hdg kk
theorem gf_HM_10_HM (S : CallFix p m c cc nL s args tbl "HoldMaps") (K : va_K D vcl tys s) (P : so_P D vcl N0 σ H) (he : σ a = some (tg, .inr (0, fs))) (hv : fs[0]? = some v) (hdg : decode cc pc = .ok (.getfield 10, 3)) (kk : W p l e R s m args below meth c H locs cells slots Q (F0 m (pc + 3) ls (v :: rest))) : W p l e R s m args below meth c H locs cells slots Q (F0 m pc ls (.ref a :: rest)) := so_get S K P (T := F_HM) (N := 4) i_HM he rfl 0 (by decide) (S.2.2.2.2 _ wd_193) (fun _ h => h) hv hdg kk
theorem cv_HM_70_He (S : CallFix p m c cc nL s args tbl "HoldMaps") (hB : so_B tbl s0 D vcl tys) (K : va_K D vcl tys s) (E : so_Kn s0 s) (P : so_P D vcl s0.heap.size σ H) (hS : va_S (so_A s0.heap.size) s.heap H locs) (he : σ o = some (tg, .inr (1, fs))) (hM : Met l y_He_has [.code y_He_has b_He_has 2 (some .boolean)] (so_rm k1 mc ms) (va_Pc (.ref o :: As) (so_Pre s0 D vcl σ)) Qc mc ms free) (hA : As.length = 1) (hk : k1 < k) (hc1 : cells + mc ≤ mcR) (hs1 : slots + ms ≤ msR) (hsize : ls.size = nL) (hst : st0 = As.reverse ++ .ref o :: rest) (hW : (rest.map fun v => v.category).sum ≤ 8) (hdg : decode cc pc = .ok (.invokevirtual 70, 3)) : va_Run p l e (so_rm k mcR msR) s m args below meth c H locs cells slots mc ms (F0 m pc ls st0) rest (Qc (Value.ref o :: As).toArray) free := ru_V S hB K E P hS hM he rfl wd_233 wd_234 wd_235 wd_236 wd_2 ⟨by decide +kernel, by decide +kernel, by rw [hA]; decide +kernel⟩ (by decide) hk hc1 hs1 hsize hst hW hdg
theorem gf_HM_61_He (S : CallFix p m c cc nL s args tbl "HoldMaps") (K : va_K D vcl tys s) (P : so_P D vcl N0 σ H) (he : σ a = some (tg, .inr (1, fs))) (hv : fs[0]? = some v) (hdg : decode cc pc = .ok (.getfield 61, 3)) (kk : W p l e R s m args below meth c H locs cells slots Q (F0 m (pc + 3) ls (v :: rest))) : W p l e R s m args below meth c H locs cells slots Q (F0 m pc ls (.ref a :: rest)) := so_get S K P (T := F_He) (N := 4) i_He he rfl 0 (by decide) (S.2.2.2.2 _ wd_45) (fun _ h => h) hv hdg kk
theorem gf_HM_94_Th (S : CallFix p m c cc nL s args tbl "HoldMaps") (K : va_K D vcl tys s) (P : so_P D vcl N0 σ H) (he : σ a = some (tg, .inr (2, fs))) (hv : fs[0]? = some v) (hdg : decode cc pc = .ok (.getfield 94, 3)) (kk : W p l e R s m args below meth c H locs cells slots Q (F0 m (pc + 3) ls (v :: rest))) : W p l e R s m args below meth c H locs cells slots Q (F0 m pc ls (.ref a :: rest)) := so_get S K P (T := F_Th) (N := 4) i_Th he rfl 0 (by decide) (S.2.2.2.2 _ wd_349) (fun _ h => h) hv hdg kk
theorem gf_He_11_He (S : CallFix p m c cc nL s args tbl "HoldMaps$Heap") (K : va_K D vcl tys s) (P : so_P D vcl N0 σ H) (he : σ a = some (tg, .inr (1, fs))) (hv : fs[0]? = some v) (hdg : decode cc pc = .ok (.getfield 11, 3)) (kk : W p l e R s m args below meth c H locs cells slots Q (F0 m (pc + 3) ls (v :: rest))) : W p l e R s m args below meth c H locs cells slots Q (F0 m pc ls (.ref a :: rest)) := so_get S K P (T := F_He) (N := 4) i_He he rfl 0 (by decide) (S.2.2.2.2 _ wd_44) (fun _ h => h) hv hdg kk
theorem cv_HM_193_He (S : CallFix p m c cc nL s args tbl "HoldMaps") (hB : so_B tbl s0 D vcl tys) (K : va_K D vcl tys s) (E : so_Kn s0 s) (P : so_P D vcl s0.heap.size σ H) (hS : va_S (so_A s0.heap.size) s.heap H locs) (he : σ o = some (tg, .inr (1, fs))) (hM : Met l y_He_living [.code y_He_living b_He_living 3 (some .int)] (so_rm k1 mc ms) (va_Pc (.ref o :: As) (so_Pre s0 D vcl σ)) Qc mc ms free) (hA : As.length = 0) (hk : k1 < k) (hc1 : cells + mc ≤ mcR) (hs1 : slots + ms ≤ msR) (hsize : ls.size = nL) (hst : st0 = As.reverse ++ .ref o :: rest) (hW : (rest.map fun v => v.category).sum ≤ 8) (hdg : decode cc pc = .ok (.invokevirtual 193, 3)) : va_Run p l e (so_rm k mcR msR) s m args below meth c H locs cells slots mc ms (F0 m pc ls st0) rest (Qc (Value.ref o :: As).toArray) free := ru_V S hB K E P hS hM he rfl wd_241 wd_242 wd_243 wd_244 wd_2 ⟨by decide +kernel, by decide +kernel, by rw [hA]; decide +kernel⟩ (by decide) hk hc1 hs1 hsize hst hW hdg
theorem gf_HM_196_He (S : CallFix p m c cc nL s args tbl "HoldMaps") (K : va_K D vcl tys s) (P : so_P D vcl N0 σ H) (he : σ a = some (tg, .inr (1, fs))) (hv : fs[3]? = some v) (hdg : decode cc pc = .ok (.getfield 196, 3)) (kk : W p l e R s m args below meth c H locs cells slots Q (F0 m (pc + 3) ls (v :: rest))) : W p l e R s m args below meth c H locs cells slots Q (F0 m pc ls (.ref a :: rest)) := so_get S K P (T := F_He) (N := 4) i_He he rfl 3 (by decide) (S.2.2.2.2 _ wd_49) (fun _ h => h) hv hdg kk
theorem gf_HM_199_We (S : CallFix p m c cc nL s args tbl "HoldMaps") (K : va_K D vcl tys s) (P : so_P D vcl N0 σ H) (he : σ a = some (tg, .inr (4, fs))) (hv : fs[5]? = some v) (hdg : decode cc pc = .ok (.getfield 199, 3)) (kk : W p l e R s m args below meth c H locs cells slots Q (F0 m (pc + 3) ls (v :: rest))) : W p l e R s m args below meth c H locs cells slots Q (F0 m pc ls (.ref a :: rest)) := so_get S K P (T := F_We) (N := 6) i_We he rfl 5 (by decide) (S.2.2.2.2 _ wd_102) (fun _ h => h) hv hdg kk
theorem gf_HM_202_So (S : CallFix p m c cc nL s args tbl "HoldMaps") (K : va_K D vcl tys s) (P : so_P D vcl N0 σ H) (he : σ a = some (tg, .inr (5, fs))) (hv : fs[4]? = some v) (hdg : decode cc pc = .ok (.getfield 202, 3)) (kk : W p l e R s m args below meth c H locs cells slots Q (F0 m (pc + 3) ls (v :: rest))) : W p l e R s m args below meth c H locs cells slots Q (F0 m pc ls (.ref a :: rest)) := so_get S K P (T := F_So) (N := 5) i_So he rfl 4 (by decide) (S.2.2.2.2 _ wd_143) (fun _ h => h) hv hdg kk
theorem cv_Lw_7_HM (S : CallFix p m c cc nL s args tbl "HoldMapsLaw") (hB : so_B tbl s0 D vcl tys) (K : va_K D vcl tys s) (E : so_Kn s0 s) (P : so_P D vcl s0.heap.size σ H) (hS : va_S (so_A s0.heap.size) s.heap H locs) (he : σ o = some (tg, .inr (0, fs))) (hM : Met l y_HM_make [.code y_HM_make b_HM_make 3 (some .int)] (so_rm k1 mc ms) (va_Pc (.ref o :: As) (so_Pre s0 D vcl σ)) Qc mc ms free) (hA : As.length = 1) (hk : k1 < k) (hc1 : cells + mc ≤ mcR) (hs1 : slots + ms ≤ msR) (hsize : ls.size = nL) (hst : st0 = As.reverse ++ .ref o :: rest) (hW : (rest.map fun v => v.category).sum ≤ 8) (hdg : decode cc pc = .ok (.invokevirtual 7, 3)) : va_Run p l e (so_rm k mcR msR) s m args below meth c H locs cells slots mc ms (F0 m pc ls st0) rest (Qc (Value.ref o :: As).toArray) free := ru_V S hB K E P hS hM he rfl wd_250 wd_251 wd_252 wd_253 wd_1 ⟨by decide +kernel, by decide +kernel, by rw [hA]; decide +kernel⟩ (by decide) hk hc1 hs1 hsize hst hW hdg
theorem ci_HM_49 (S : CallFix p m c cc nL s args tbl "HoldMaps") (hB : so_B tbl s0 D vcl tys) (E : so_Kn s0 s) (P : so_P D vcl s0.heap.size σ H) (hS : va_S (so_A s0.heap.size) s.heap H locs) (hM : Met l y_Ia_init [.code y_Ia_init b_Ia_init 2 none] (so_rm k1 mc ms) (va_Pc (.ref o :: As) (so_Pre s0 D vcl σ)) Qc mc ms free) (hA : As.length = 1) (hk : k1 < k) (hc1 : cells + mc ≤ mcR) (hs1 : slots + ms ≤ msR) (hsize : ls.size = nL) (hst : st0 = As.reverse ++ .ref o :: rest) (hW : (rest.map fun v => v.category).sum ≤ 8) (hdg : decode cc pc = .ok (.invokespecial 49, 3)) : va_Run p l e (so_rm k mcR msR) s m args below meth c H locs cells slots mc ms (F0 m pc ls st0) rest (Qc (Value.ref o :: As).toArray) free := ru_I S hB E P hS hM wd_296 wd_297 wd_298 wd_17 rfl ⟨by decide +kernel, by decide +kernel, by rw [hA]; decide +kernel⟩ (by decide) hk hc1 hs1 hsize hst hW hdg
theorem cv_HM_52_He (S : CallFix p m c cc nL s args tbl "HoldMaps") (hB : so_B tbl s0 D vcl tys) (K : va_K D vcl tys s) (E : so_Kn s0 s) (P : so_P D vcl s0.heap.size σ H) (hS : va_S (so_A s0.heap.size) s.heap H locs) (he : σ o = some (tg, .inr (1, fs))) (hM : Met l y_He_lowestFree [.code y_He_lowestFree b_He_lowestFree 2 (some .int)] (so_rm k1 mc ms) (va_Pc (.ref o :: As) (so_Pre s0 D vcl σ)) Qc mc ms free) (hA : As.length = 0) (hk : k1 < k) (hc1 : cells + mc ≤ mcR) (hs1 : slots + ms ≤ msR) (hsize : ls.size = nL) (hst : st0 = As.reverse ++ .ref o :: rest) (hW : (rest.map fun v => v.category).sum ≤ 8) (hdg : decode cc pc = .ok (.invokevirtual 52, 3)) : va_Run p l e (so_rm k mcR msR) s m args below meth c H locs cells slots mc ms (F0 m pc ls st0) rest (Qc (Value.ref o :: As).toArray) free := ru_V S hB K E P hS hM he rfl wd_322 wd_323 wd_324 wd_325 wd_2 ⟨by decide +kernel, by decide +kernel, by rw [hA]; decide +kernel⟩ (by decide) hk hc1 hs1 hsize hst hW hdg
theorem ci_HM_60 (S : CallFix p m c cc nL s args tbl "HoldMaps") (hB : so_B tbl s0 D vcl tys) (E : so_Kn s0 s) (P : so_P D vcl s0.heap.size σ H) (hS : va_S (so_A s0.heap.size) s.heap H locs) (hM : Met l y_Is_init [.code y_Is_init b_Is_init 2 none] (so_rm k1 mc ms) (va_Pc (.ref o :: As) (so_Pre s0 D vcl σ)) Qc mc ms free) (hA : As.length = 1) (hk : k1 < k) (hc1 : cells + mc ≤ mcR) (hs1 : slots + ms ≤ msR) (hsize : ls.size = nL) (hst : st0 = As.reverse ++ .ref o :: rest) (hW : (rest.map fun v => v.category).sum ≤ 8) (hdg : decode cc pc = .ok (.invokespecial 60, 3)) : va_Run p l e (so_rm k mcR msR) s m args below meth c H locs cells slots mc ms (F0 m pc ls st0) rest (Qc (Value.ref o :: As).toArray) free := ru_I S hB E P hS hM wd_336 wd_337 wd_338 wd_18 rfl ⟨by decide +kernel, by decide +kernel, by rw [hA]; decide +kernel⟩ (by decide) hk hc1 hs1 hsize hst hW hdg
theorem ci_HM_67 (S : CallFix p m c cc nL s args tbl "HoldMaps") (hB : so_B tbl s0 D vcl tys) (E : so_Kn s0 s) (P : so_P D vcl s0.heap.size σ H) (hS : va_S (so_A s0.heap.size) s.heap H locs) (hM : Met l y_Th_init [.code y_Th_init b_Th_init 2 none] (so_rm k1 mc ms) (va_Pc (.ref o :: As) (so_Pre s0 D vcl σ)) Qc mc ms free) (hA : As.length = 1) (hk : k1 < k) (hc1 : cells + mc ≤ mcR) (hs1 : slots + ms ≤ msR) (hsize : ls.size = nL) (hst : st0 = As.reverse ++ .ref o :: rest) (hW : (rest.map fun v => v.category).sum ≤ 8) (hdg : decode cc pc = .ok (.invokespecial 67, 3)) : va_Run p l e (so_rm k mcR msR) s m args below meth c H locs cells slots mc ms (F0 m pc ls st0) rest (Qc (Value.ref o :: As).toArray) free := ru_I S hB E P hS hM wd_344 wd_345 wd_346 wd_19 rfl ⟨by decide +kernel, by decide +kernel, by rw [hA]; decide +kernel⟩ (by decide) hk hc1 hs1 hsize hst hW hdg
theorem pf_Th_9_Th (S : CallFix p m c cc nL s args tbl "HoldMaps$Thing") (K : va_K D vcl tys s) (P : so_P D vcl N0 σ H) (hS : va_S (so_A N0) H0 H locs) (hin2 : meth.name = "<init>") (he : σ a = some (tg, .inr (2, fs))) (hl : 0 < fs.length) (hn : narrow (.int) v = v) (hf : fits (.int) v = true) (hdg : decode cc pc = .ok (.putfield 9, 3)) (kk : ∀ (H1 : Heap) (locs1 : List Loc), so_P D vcl N0 (so_up σ a (tg, .inr (2, fs.set 0 v))) H1 → va_S (so_A N0) H0 H1 locs1 → W p l e R s m args below meth c H1 locs1 cells slots Q (F0 m (pc + 3) ls rest)) : W p l e R s m args below meth c H locs cells slots Q (F0 m pc ls (v :: .ref a :: rest)) := so_putF S K P hS (T := F_Th) (N := 4) i_Th t_Th t_Th_ok n_Th he rfl 0 (by decide) (S.2.2.2.2 _ wd_348) (fun _ h => h) rfl hin2 rfl (by decide +kernel) hn hf hl hdg kk
theorem pf_Th_15_Th (S : CallFix p m c cc nL s args tbl "HoldMaps$Thing") (K : va_K D vcl tys s) (P : so_P D vcl N0 σ H) (hS : va_S (so_A N0) H0 H locs) (hin2 : meth.name = "<init>") (he : σ a = some (tg, .inr (2, fs))) (hl : 1 < fs.length) (hn : narrow (.array (.int)) v = v) (hf : fits (.array (.int)) v = true) (hdg : decode cc pc = .ok (.putfield 15, 3)) (kk : ∀ (H1 : Heap) (locs1 : List Loc), so_P D vcl N0 (so_up σ a (tg, .inr (2, fs.set 1 v))) H1 → va_S (so_A N0) H0 H1 locs1 → W p l e R s m args below meth c H1 locs1 cells slots Q (F0 m (pc + 3) ls rest)) : W p l e R s m args below meth c H locs cells slots Q (F0 m pc ls (v :: .ref a :: rest)) := so_putF S K P hS (T := F_Th) (N := 4) i_Th t_Th t_Th_ok n_Th he rfl 1 (by decide) (S.2.2.2.2 _ wd_350) (fun _ h => h) rfl hin2 rfl (by decide +kernel) hn hf hl hdg kk
theorem cv_Lw_17_HM (S : CallFix p m c cc nL s args tbl "HoldMapsLaw") (hB : so_B tbl s0 D vcl tys) (K : va_K D vcl tys s) (E : so_Kn s0 s) (P : so_P D vcl s0.heap.size σ H) (hS : va_S (so_A s0.heap.size) s.heap H locs) (he : σ o = some (tg, .inr (0, fs))) (hM : Met l y_HM_refer [.code y_HM_refer b_HM_refer 6 (some .int)] (so_rm k1 mc ms) (va_Pc (.ref o :: As) (so_Pre s0 D vcl σ)) Qc mc ms free) (hA : As.length = 3) (hk : k1 < k) (hc1 : cells + mc ≤ mcR) (hs1 : slots + ms ≤ msR) (hsize : ls.size = nL) (hst : st0 = As.reverse ++ .ref o :: rest) (hW : (rest.map fun v => v.category).sum ≤ 8) (hdg : decode cc pc = .ok (.invokevirtual 17, 3)) : va_Run p l e (so_rm k mcR msR) s m args below meth c H locs cells slots mc ms (F0 m pc ls st0) rest (Qc (Value.ref o :: As).toArray) free := ru_V S hB K E P hS hM he rfl wd_368 wd_369 wd_370 wd_371 wd_1 ⟨by decide +kernel, by decide +kernel, by rw [hA]; decide +kernel⟩ (by decide) hk hc1 hs1 hsize hst hW hdg
theorem gf_HM_78_Th (S : CallFix p m c cc nL s args tbl "HoldMaps") (K : va_K D vcl tys s) (P : so_P D vcl N0 σ H) (he : σ a = some (tg, .inr (2, fs))) (hv : fs[1]? = some v) (hdg : decode cc pc = .ok (.getfield 78, 3)) (kk : W p l e R s m args below meth c H locs cells slots Q (F0 m (pc + 3) ls (v :: rest))) : W p l e R s m args below meth c H locs cells slots Q (F0 m pc ls (.ref a :: rest)) := so_get S K P (T := F_Th) (N := 4) i_Th he rfl 1 (by decide) (S.2.2.2.2 _ wd_351) (fun _ h => h) hv hdg kk
theorem cv_Lw_21_HM (S : CallFix p m c cc nL s args tbl "HoldMapsLaw") (hB : so_B tbl s0 D vcl tys) (K : va_K D vcl tys s) (E : so_Kn s0 s) (P : so_P D vcl s0.heap.size σ H) (hS : va_S (so_A s0.heap.size) s.heap H locs) (he : σ o = some (tg, .inr (0, fs))) (hM : Met l y_HM_root [.code y_HM_root b_HM_root 5 (some .boolean)] (so_rm k1 mc ms) (va_Pc (.ref o :: As) (so_Pre s0 D vcl σ)) Qc mc ms free) (hA : As.length = 2) (hk : k1 < k) (hc1 : cells + mc ≤ mcR) (hs1 : slots + ms ≤ msR) (hsize : ls.size = nL) (hst : st0 = As.reverse ++ .ref o :: rest) (hW : (rest.map fun v => v.category).sum ≤ 8) (hdg : decode cc pc = .ok (.invokevirtual 21, 3)) : va_Run p l e (so_rm k mcR msR) s m args below meth c H locs cells slots mc ms (F0 m pc ls st0) rest (Qc (Value.ref o :: As).toArray) free := ru_V S hB K E P hS hM he rfl wd_377 wd_378 wd_379 wd_380 wd_1 ⟨by decide +kernel, by decide +kernel, by rw [hA]; decide +kernel⟩ (by decide) hk hc1 hs1 hsize hst hW hdg
theorem gf_HM_84_Th (S : CallFix p m c cc nL s args tbl "HoldMaps") (K : va_K D vcl tys s) (P : so_P D vcl N0 σ H) (he : σ a = some (tg, .inr (2, fs))) (hv : fs[2]? = some v) (hdg : decode cc pc = .ok (.getfield 84, 3)) (kk : W p l e R s m args below meth c H locs cells slots Q (F0 m (pc + 3) ls (v :: rest))) : W p l e R s m args below meth c H locs cells slots Q (F0 m pc ls (.ref a :: rest)) := so_get S K P (T := F_Th) (N := 4) i_Th he rfl 2 (by decide) (S.2.2.2.2 _ wd_353) (fun _ h => h) hv hdg kk
theorem pf_HM_84_Th (S : CallFix p m c cc nL s args tbl "HoldMaps") (K : va_K D vcl tys s) (P : so_P D vcl N0 σ H) (hS : va_S (so_A N0) H0 H locs) (he : σ a = some (tg, .inr (2, fs))) (hl : 2 < fs.length) (hn : narrow (.boolean) v = v) (hf : fits (.boolean) v = true) (hdg : decode cc pc = .ok (.putfield 84, 3)) (kk : ∀ (H1 : Heap) (locs1 : List Loc), so_P D vcl N0 (so_up σ a (tg, .inr (2, fs.set 2 v))) H1 → va_S (so_A N0) H0 H1 locs1 → W p l e R s m args below meth c H1 locs1 cells slots Q (F0 m (pc + 3) ls rest)) : W p l e R s m args below meth c H locs cells slots Q (F0 m pc ls (v :: .ref a :: rest)) := so_put S K P hS (T := F_Th) (N := 4) i_Th t_Th t_Th_ok n_Th he rfl 2 (by decide) (S.2.2.2.2 _ wd_353) (fun _ h => h) rfl (by decide +kernel) hn hf hl hdg kk
theorem cv_Lw_25_HM (S : CallFix p m c cc nL s args tbl "HoldMapsLaw") (hB : so_B tbl s0 D vcl tys) (K : va_K D vcl tys s) (E : so_Kn s0 s) (P : so_P D vcl s0.heap.size σ H) (hS : va_S (so_A s0.heap.size) s.heap H locs) (he : σ o = some (tg, .inr (0, fs))) (hM : Met l y_HM_put [.code y_HM_put b_HM_put 10 (some .int)] (so_rm k1 mc ms) (va_Pc (.ref o :: As) (so_Pre s0 D vcl σ)) Qc mc ms free) (hA : As.length = 3) (hk : k1 < k) (hc1 : cells + mc ≤ mcR) (hs1 : slots + ms ≤ msR) (hsize : ls.size = nL) (hst : st0 = As.reverse ++ .ref o :: rest) (hW : (rest.map fun v => v.category).sum ≤ 8) (hdg : decode cc pc = .ok (.invokevirtual 25, 3)) : va_Run p l e (so_rm k mcR msR) s m args below meth c H locs cells slots mc ms (F0 m pc ls st0) rest (Qc (Value.ref o :: As).toArray) free := ru_V S hB K E P hS hM he rfl wd_385 wd_386 wd_387 wd_388 wd_1 ⟨by decide +kernel, by decide +kernel, by rw [hA]; decide +kernel⟩ (by decide) hk hc1 hs1 hsize hst hW hdg
theorem cv_HM_88_HM (S : CallFix p m c cc nL s args tbl "HoldMaps") (hB : so_B tbl s0 D vcl tys) (K : va_K D vcl tys s) (E : so_Kn s0 s) (P : so_P D vcl s0.heap.size σ H) (hS : va_S (so_A s0.heap.size) s.heap H locs) (he : σ o = some (tg, .inr (0, fs))) (hM : Met l y_HM_isKeyOf [.code y_HM_isKeyOf b_HM_isKeyOf 3 (some .boolean)] (so_rm k1 mc ms) (va_Pc (.ref o :: As) (so_Pre s0 D vcl σ)) Qc mc ms free) (hA : As.length = 2) (hk : k1 < k) (hc1 : cells + mc ≤ mcR) (hs1 : slots + ms ≤ msR) (hsize : ls.size = nL) (hst : st0 = As.reverse ++ .ref o :: rest) (hW : (rest.map fun v => v.category).sum ≤ 8) (hdg : decode cc pc = .ok (.invokevirtual 88, 3)) : va_Run p l e (so_rm k mcR msR) s m args below meth c H locs cells slots mc ms (F0 m pc ls st0) rest (Qc (Value.ref o :: As).toArray) free := ru_V S hB K E P hS hM he rfl wd_389 wd_391 (tbl_sel (q := (y_HM_isKeyOf, 4)) (List.mem_of_getElem? (i := 1) rfl)) wd_392 wd_1 ⟨by decide +kernel, by decide +kernel, by rw [hA]; decide +kernel⟩ (by decide) hk hc1 hs1 hsize hst hW hdg
theorem cv_HM_98_We (S : CallFix p m c cc nL s args tbl "HoldMaps") (hB : so_B tbl s0 D vcl tys) (K : va_K D vcl tys s) (E : so_Kn s0 s) (P : so_P D vcl s0.heap.size σ H) (hS : va_S (so_A s0.heap.size) s.heap H locs) (he : σ o = some (tg, .inr (4, fs))) (hM : Met l y_Ta_markOf [.code y_Ta_markOf b_Ta_markOf 3 (some .int)] (so_rm k1 mc ms) (va_Pc (.ref o :: As) (so_Pre s0 D vcl σ)) Qc mc ms free) (hA : As.length = 2) (hk : k1 < k) (hc1 : cells + mc ≤ mcR) (hs1 : slots + ms ≤ msR) (hsize : ls.size = nL) (hst : st0 = As.reverse ++ .ref o :: rest) (hW : (rest.map fun v => v.category).sum ≤ 8) (hdg : decode cc pc = .ok (.invokevirtual 98, 3)) : va_Run p l e (so_rm k mcR msR) s m args below meth c H locs cells slots mc ms (F0 m pc ls st0) rest (Qc (Value.ref o :: As).toArray) free := ru_U (x := ⟨"HoldMaps$Table", "markOf", "(II)I"⟩) (owner := "HoldMaps$Table") S hB K E P hS hM he rfl wd_405 wd_407 (va_Decl.of (S.2.2.2.2 _ wd_406) (S.2.2.2.2 _ wd_415)) wd_406 wd_414 wd_415 wd_3 ⟨by decide +kernel, by decide +kernel, by rw [hA]; decide +kernel⟩ (by decide) hk hc1 hs1 hsize hst hW hdg
theorem cv_HM_98_So (S : CallFix p m c cc nL s args tbl "HoldMaps") (hB : so_B tbl s0 D vcl tys) (K : va_K D vcl tys s) (E : so_Kn s0 s) (P : so_P D vcl s0.heap.size σ H) (hS : va_S (so_A s0.heap.size) s.heap H locs) (he : σ o = some (tg, .inr (5, fs))) (hM : Met l y_Ta_markOf [.code y_Ta_markOf b_Ta_markOf 3 (some .int)] (so_rm k1 mc ms) (va_Pc (.ref o :: As) (so_Pre s0 D vcl σ)) Qc mc ms free) (hA : As.length = 2) (hk : k1 < k) (hc1 : cells + mc ≤ mcR) (hs1 : slots + ms ≤ msR) (hsize : ls.size = nL) (hst : st0 = As.reverse ++ .ref o :: rest) (hW : (rest.map fun v => v.category).sum ≤ 8) (hdg : decode cc pc = .ok (.invokevirtual 98, 3)) : va_Run p l e (so_rm k mcR msR) s m args below meth c H locs cells slots mc ms (F0 m pc ls st0) rest (Qc (Value.ref o :: As).toArray) free := ru_U (x := ⟨"HoldMaps$Table", "markOf", "(II)I"⟩) (owner := "HoldMaps$Table") S hB K E P hS hM he rfl wd_405 wd_407 (va_Decl.of (S.2.2.2.2 _ wd_406) (S.2.2.2.2 _ wd_415)) wd_406 wd_413 wd_415 wd_3 ⟨by decide +kernel, by decide +kernel, by rw [hA]; decide +kernel⟩ (by decide) hk hc1 hs1 hsize hst hW hdg
theorem cv_HM_98_Id (S : CallFix p m c cc nL s args tbl "HoldMaps") (hB : so_B tbl s0 D vcl tys) (K : va_K D vcl tys s) (E : so_Kn s0 s) (P : so_P D vcl s0.heap.size σ H) (hS : va_S (so_A s0.heap.size) s.heap H locs) (he : σ o = some (tg, .inr (6, fs))) (hM : Met l y_Id_markOf [.code y_Id_markOf b_Id_markOf 3 (some .int)] (so_rm k1 mc ms) (va_Pc (.ref o :: As) (so_Pre s0 D vcl σ)) Qc mc ms free) (hA : As.length = 2) (hk : k1 < k) (hc1 : cells + mc ≤ mcR) (hs1 : slots + ms ≤ msR) (hsize : ls.size = nL) (hst : st0 = As.reverse ++ .ref o :: rest) (hW : (rest.map fun v => v.category).sum ≤ 8) (hdg : decode cc pc = .ok (.invokevirtual 98, 3)) : va_Run p l e (so_rm k mcR msR) s m args below meth c H locs cells slots mc ms (F0 m pc ls st0) rest (Qc (Value.ref o :: As).toArray) free := ru_U (x := ⟨"HoldMaps$Table", "markOf", "(II)I"⟩) (owner := "HoldMaps$Table") S hB K E P hS hM he rfl wd_405 wd_407 (va_Decl.of (S.2.2.2.2 _ wd_406) (S.2.2.2.2 _ wd_415)) wd_409 wd_408 wd_410 wd_10 ⟨by decide +kernel, by decide +kernel, by rw [hA]; decide +kernel⟩ (by decide) hk hc1 hs1 hsize hst hW hdg
theorem cv_HM_98_Pl (S : CallFix p m c cc nL s args tbl "HoldMaps") (hB : so_B tbl s0 D vcl tys) (K : va_K D vcl tys s) (E : so_Kn s0 s) (P : so_P D vcl s0.heap.size σ H) (hS : va_S (so_A s0.heap.size) s.heap H locs) (he : σ o = some (tg, .inr (7, fs))) (hM : Met l y_Ta_markOf [.code y_Ta_markOf b_Ta_markOf 3 (some .int)] (so_rm k1 mc ms) (va_Pc (.ref o :: As) (so_Pre s0 D vcl σ)) Qc mc ms free) (hA : As.length = 2) (hk : k1 < k) (hc1 : cells + mc ≤ mcR) (hs1 : slots + ms ≤ msR) (hsize : ls.size = nL) (hst : st0 = As.reverse ++ .ref o :: rest) (hW : (rest.map fun v => v.category).sum ≤ 8) (hdg : decode cc pc = .ok (.invokevirtual 98, 3)) : va_Run p l e (so_rm k mcR msR) s m args below meth c H locs cells slots mc ms (F0 m pc ls st0) rest (Qc (Value.ref o :: As).toArray) free := ru_U (x := ⟨"HoldMaps$Table", "markOf", "(II)I"⟩) (owner := "HoldMaps$Table") S hB K E P hS hM he rfl wd_405 wd_407 (va_Decl.of (S.2.2.2.2 _ wd_406) (S.2.2.2.2 _ wd_415)) wd_406 wd_412 wd_415 wd_3 ⟨by decide +kernel, by decide +kernel, by rw [hA]; decide +kernel⟩ (by decide) hk hc1 hs1 hsize hst hW hdg
theorem cv_HM_98_La (S : CallFix p m c cc nL s args tbl "HoldMaps") (hB : so_B tbl s0 D vcl tys) (K : va_K D vcl tys s) (E : so_Kn s0 s) (P : so_P D vcl s0.heap.size σ H) (hS : va_S (so_A s0.heap.size) s.heap H locs) (he : σ o = some (tg, .inr (8, fs))) (hM : Met l y_Ta_markOf [.code y_Ta_markOf b_Ta_markOf 3 (some .int)] (so_rm k1 mc ms) (va_Pc (.ref o :: As) (so_Pre s0 D vcl σ)) Qc mc ms free) (hA : As.length = 2) (hk : k1 < k) (hc1 : cells + mc ≤ mcR) (hs1 : slots + ms ≤ msR) (hsize : ls.size = nL) (hst : st0 = As.reverse ++ .ref o :: rest) (hW : (rest.map fun v => v.category).sum ≤ 8) (hdg : decode cc pc = .ok (.invokevirtual 98, 3)) : va_Run p l e (so_rm k mcR msR) s m args below meth c H locs cells slots mc ms (F0 m pc ls st0) rest (Qc (Value.ref o :: As).toArray) free := ru_U (x := ⟨"HoldMaps$Table", "markOf", "(II)I"⟩) (owner := "HoldMaps$Table") S hB K E P hS hM he rfl wd_405 wd_407 (va_Decl.of (S.2.2.2.2 _ wd_406) (S.2.2.2.2 _ wd_415)) wd_406 wd_411 wd_415 wd_3 ⟨by decide +kernel, by decide +kernel, by rw [hA]; decide +kernel⟩ (by decide) hk hc1 hs1 hsize hst hW hdg
theorem cv_HM_102_We (S : CallFix p m c cc nL s args tbl "HoldMaps") (hB : so_B tbl s0 D vcl tys) (K : va_K D vcl tys s) (E : so_Kn s0 s) (P : so_P D vcl s0.heap.size σ H) (hS : va_S (so_A s0.heap.size) s.heap H locs) (he : σ o = some (tg, .inr (4, fs))) (hM : Met l y_Ta_find [.code y_Ta_find b_Ta_find 4 (some .int)] (so_rm k1 mc ms) (va_Pc (.ref o :: As) (so_Pre s0 D vcl σ)) Qc mc ms free) (hA : As.length = 1) (hk : k1 < k) (hc1 : cells + mc ≤ mcR) (hs1 : slots + ms ≤ msR) (hsize : ls.size = nL) (hst : st0 = As.reverse ++ .ref o :: rest) (hW : (rest.map fun v => v.category).sum ≤ 8) (hdg : decode cc pc = .ok (.invokevirtual 102, 3)) : va_Run p l e (so_rm k mcR msR) s m args below meth c H locs cells slots mc ms (F0 m pc ls st0) rest (Qc (Value.ref o :: As).toArray) free := ru_U (x := ⟨"HoldMaps$Table", "find", "(I)I"⟩) (owner := "HoldMaps$Table") S hB K E P hS hM he rfl wd_416 wd_418 (va_Decl.of (S.2.2.2.2 _ wd_417) (S.2.2.2.2 _ wd_424)) wd_417 wd_423 wd_424 wd_3 ⟨by decide +kernel, by decide +kernel, by rw [hA]; decide +kernel⟩ (by decide) hk hc1 hs1 hsize hst hW hdg
theorem cv_HM_102_So (S : CallFix p m c cc nL s args tbl "HoldMaps") (hB : so_B tbl s0 D vcl tys) (K : va_K D vcl tys s) (E : so_Kn s0 s) (P : so_P D vcl s0.heap.size σ H) (hS : va_S (so_A s0.heap.size) s.heap H locs) (he : σ o = some (tg, .inr (5, fs))) (hM : Met l y_Ta_find [.code y_Ta_find b_Ta_find 4 (some .int)] (so_rm k1 mc ms) (va_Pc (.ref o :: As) (so_Pre s0 D vcl σ)) Qc mc ms free) (hA : As.length = 1) (hk : k1 < k) (hc1 : cells + mc ≤ mcR) (hs1 : slots + ms ≤ msR) (hsize : ls.size = nL) (hst : st0 = As.reverse ++ .ref o :: rest) (hW : (rest.map fun v => v.category).sum ≤ 8) (hdg : decode cc pc = .ok (.invokevirtual 102, 3)) : va_Run p l e (so_rm k mcR msR) s m args below meth c H locs cells slots mc ms (F0 m pc ls st0) rest (Qc (Value.ref o :: As).toArray) free := ru_U (x := ⟨"HoldMaps$Table", "find", "(I)I"⟩) (owner := "HoldMaps$Table") S hB K E P hS hM he rfl wd_416 wd_418 (va_Decl.of (S.2.2.2.2 _ wd_417) (S.2.2.2.2 _ wd_424)) wd_417 wd_422 wd_424 wd_3 ⟨by decide +kernel, by decide +kernel, by rw [hA]; decide +kernel⟩ (by decide) hk hc1 hs1 hsize hst hW hdg
theorem cv_HM_102_Id (S : CallFix p m c cc nL s args tbl "HoldMaps") (hB : so_B tbl s0 D vcl tys) (K : va_K D vcl tys s) (E : so_Kn s0 s) (P : so_P D vcl s0.heap.size σ H) (hS : va_S (so_A s0.heap.size) s.heap H locs) (he : σ o = some (tg, .inr (6, fs))) (hM : Met l y_Ta_find [.code y_Ta_find b_Ta_find 4 (some .int)] (so_rm k1 mc ms) (va_Pc (.ref o :: As) (so_Pre s0 D vcl σ)) Qc mc ms free) (hA : As.length = 1) (hk : k1 < k) (hc1 : cells + mc ≤ mcR) (hs1 : slots + ms ≤ msR) (hsize : ls.size = nL) (hst : st0 = As.reverse ++ .ref o :: rest) (hW : (rest.map fun v => v.category).sum ≤ 8) (hdg : decode cc pc = .ok (.invokevirtual 102, 3)) : va_Run p l e (so_rm k mcR msR) s m args below meth c H locs cells slots mc ms (F0 m pc ls st0) rest (Qc (Value.ref o :: As).toArray) free := ru_U (x := ⟨"HoldMaps$Table", "find", "(I)I"⟩) (owner := "HoldMaps$Table") S hB K E P hS hM he rfl wd_416 wd_418 (va_Decl.of (S.2.2.2.2 _ wd_417) (S.2.2.2.2 _ wd_424)) wd_417 wd_419 wd_424 wd_3 ⟨by decide +kernel, by decide +kernel, by rw [hA]; decide +kernel⟩ (by decide) hk hc1 hs1 hsize hst hW hdg
theorem cv_HM_102_Pl (S : CallFix p m c cc nL s args tbl "HoldMaps") (hB : so_B tbl s0 D vcl tys) (K : va_K D vcl tys s) (E : so_Kn s0 s) (P : so_P D vcl s0.heap.size σ H) (hS : va_S (so_A s0.heap.size) s.heap H locs) (he : σ o = some (tg, .inr (7, fs))) (hM : Met l y_Ta_find [.code y_Ta_find b_Ta_find 4 (some .int)] (so_rm k1 mc ms) (va_Pc (.ref o :: As) (so_Pre s0 D vcl σ)) Qc mc ms free) (hA : As.length = 1) (hk : k1 < k) (hc1 : cells + mc ≤ mcR) (hs1 : slots + ms ≤ msR) (hsize : ls.size = nL) (hst : st0 = As.reverse ++ .ref o :: rest) (hW : (rest.map fun v => v.category).sum ≤ 8) (hdg : decode cc pc = .ok (.invokevirtual 102, 3)) : va_Run p l e (so_rm k mcR msR) s m args below meth c H locs cells slots mc ms (F0 m pc ls st0) rest (Qc (Value.ref o :: As).toArray) free := ru_U (x := ⟨"HoldMaps$Table", "find", "(I)I"⟩) (owner := "HoldMaps$Table") S hB K E P hS hM he rfl wd_416 wd_418 (va_Decl.of (S.2.2.2.2 _ wd_417) (S.2.2.2.2 _ wd_424)) wd_417 wd_421 wd_424 wd_3 ⟨by decide +kernel, by decide +kernel, by rw [hA]; decide +kernel⟩ (by decide) hk hc1 hs1 hsize hst hW hdg
theorem cv_HM_102_La (S : CallFix p m c cc nL s args tbl "HoldMaps") (hB : so_B tbl s0 D vcl tys) (K : va_K D vcl tys s) (E : so_Kn s0 s) (P : so_P D vcl s0.heap.size σ H) (hS : va_S (so_A s0.heap.size) s.heap H locs) (he : σ o = some (tg, .inr (8, fs))) (hM : Met l y_Ta_find [.code y_Ta_find b_Ta_find 4 (some .int)] (so_rm k1 mc ms) (va_Pc (.ref o :: As) (so_Pre s0 D vcl σ)) Qc mc ms free) (hA : As.length = 1) (hk : k1 < k) (hc1 : cells + mc ≤ mcR) (hs1 : slots + ms ≤ msR) (hsize : ls.size = nL) (hst : st0 = As.reverse ++ .ref o :: rest) (hW : (rest.map fun v => v.category).sum ≤ 8) (hdg : decode cc pc = .ok (.invokevirtual 102, 3)) : va_Run p l e (so_rm k mcR msR) s m args below meth c H locs cells slots mc ms (F0 m pc ls st0) rest (Qc (Value.ref o :: As).toArray) free := ru_U (x := ⟨"HoldMaps$Table", "find", "(I)I"⟩) (owner := "HoldMaps$Table") S hB K E P hS hM he rfl wd_416 wd_418 (va_Decl.of (S.2.2.2.2 _ wd_417) (S.2.2.2.2 _ wd_424)) wd_417 wd_420 wd_424 wd_3 ⟨by decide +kernel, by decide +kernel, by rw [hA]; decide +kernel⟩ (by decide) hk hc1 hs1 hsize hst hW hdg
theorem cv_HM_106_We (S : CallFix p m c cc nL s args tbl "HoldMaps") (hB : so_B tbl s0 D vcl tys) (K : va_K D vcl tys s) (E : so_Kn s0 s) (P : so_P D vcl s0.heap.size σ H) (hS : va_S (so_A s0.heap.size) s.heap H locs) (he : σ o = some (tg, .inr (4, fs))) (hM : Met l y_Ro_entryAt [.code y_Ro_entryAt b_Ro_entryAt 2 (some (.object "HoldMaps$Entry"))] (so_rm k1 mc ms) (va_Pc (.ref o :: As) (so_Pre s0 D vcl σ)) Qc mc ms free) (hA : As.length = 1) (hk : k1 < k) (hc1 : cells + mc ≤ mcR) (hs1 : slots + ms ≤ msR) (hsize : ls.size = nL) (hst : st0 = As.reverse ++ .ref o :: rest) (hW : (rest.map fun v => v.category).sum ≤ 8) (hdg : decode cc pc = .ok (.invokevirtual 106, 3)) : va_Run p l e (so_rm k mcR msR) s m args below meth c H locs cells slots mc ms (F0 m pc ls st0) rest (Qc (Value.ref o :: As).toArray) free := ru_U (x := ⟨"HoldMaps$Table", "entryAt", "(I)LHoldMaps$Entry;"⟩) (owner := "HoldMaps$Table") S hB K E P hS hM he rfl wd_457 wd_428 (va_Decl.abs (va_Nw.of rfl (S.2.2.2.2 _ wd_427))) wd_437 wd_456 wd_438 wd_4 ⟨by decide +kernel, by decide +kernel, by rw [hA]; decide +kernel⟩ (by decide) hk hc1 hs1 hsize hst hW hdg
theorem cv_HM_106_So (S : CallFix p m c cc nL s args tbl "HoldMaps") (hB : so_B tbl s0 D vcl tys) (K : va_K D vcl tys s) (E : so_Kn s0 s) (P : so_P D vcl s0.heap.size σ H) (hS : va_S (so_A s0.heap.size) s.heap H locs) (he : σ o = some (tg, .inr (5, fs))) (hM : Met l y_Ro_entryAt [.code y_Ro_entryAt b_Ro_entryAt 2 (some (.object "HoldMaps$Entry"))] (so_rm k1 mc ms) (va_Pc (.ref o :: As) (so_Pre s0 D vcl σ)) Qc mc ms free) (hA : As.length = 1) (hk : k1 < k) (hc1 : cells + mc ≤ mcR) (hs1 : slots + ms ≤ msR) (hsize : ls.size = nL) (hst : st0 = As.reverse ++ .ref o :: rest) (hW : (rest.map fun v => v.category).sum ≤ 8) (hdg : decode cc pc = .ok (.invokevirtual 106, 3)) : va_Run p l e (so_rm k mcR msR) s m args below meth c H locs cells slots mc ms (F0 m pc ls st0) rest (Qc (Value.ref o :: As).toArray) free := ru_U (x := ⟨"HoldMaps$Table", "entryAt", "(I)LHoldMaps$Entry;"⟩) (owner := "HoldMaps$Table") S hB K E P hS hM he rfl wd_457 wd_428 (va_Decl.abs (va_Nw.of rfl (S.2.2.2.2 _ wd_427))) wd_437 wd_455 wd_438 wd_4 ⟨by decide +kernel, by decide +kernel, by rw [hA]; decide +kernel⟩ (by decide) hk hc1 hs1 hsize hst hW hdg
theorem cv_HM_106_Id (S : CallFix p m c cc nL s args tbl "HoldMaps") (hB : so_B tbl s0 D vcl tys) (K : va_K D vcl tys s) (E : so_Kn s0 s) (P : so_P D vcl s0.heap.size σ H) (hS : va_S (so_A s0.heap.size) s.heap H locs) (he : σ o = some (tg, .inr (6, fs))) (hM : Met l y_Id_entryAt [.code y_Id_entryAt b_Id_entryAt 3 (some (.object "HoldMaps$Entry"))] (so_rm k1 mc ms) (va_Pc (.ref o :: As) (so_Pre s0 D vcl σ)) Qc mc ms free) (hA : As.length = 1) (hk : k1 < k) (hc1 : cells + mc ≤ mcR) (hs1 : slots + ms ≤ msR) (hsize : ls.size = nL) (hst : st0 = As.reverse ++ .ref o :: rest) (hW : (rest.map fun v => v.category).sum ≤ 8) (hdg : decode cc pc = .ok (.invokevirtual 106, 3)) : va_Run p l e (so_rm k mcR msR) s m args below meth c H locs cells slots mc ms (F0 m pc ls st0) rest (Qc (Value.ref o :: As).toArray) free := ru_U (x := ⟨"HoldMaps$Table", "entryAt", "(I)LHoldMaps$Entry;"⟩) (owner := "HoldMaps$Table") S hB K E P hS hM he rfl wd_457 wd_428 (va_Decl.abs (va_Nw.of rfl (S.2.2.2.2 _ wd_427))) wd_430 wd_429 wd_431 wd_10 ⟨by decide +kernel, by decide +kernel, by rw [hA]; decide +kernel⟩ (by decide) hk hc1 hs1 hsize hst hW hdg
theorem cv_HM_106_Pl (S : CallFix p m c cc nL s args tbl "HoldMaps") (hB : so_B tbl s0 D vcl tys) (K : va_K D vcl tys s) (E : so_Kn s0 s) (P : so_P D vcl s0.heap.size σ H) (hS : va_S (so_A s0.heap.size) s.heap H locs) (he : σ o = some (tg, .inr (7, fs))) (hM : Met l y_Ro_entryAt [.code y_Ro_entryAt b_Ro_entryAt 2 (some (.object "HoldMaps$Entry"))] (so_rm k1 mc ms) (va_Pc (.ref o :: As) (so_Pre s0 D vcl σ)) Qc mc ms free) (hA : As.length = 1) (hk : k1 < k) (hc1 : cells + mc ≤ mcR) (hs1 : slots + ms ≤ msR) (hsize : ls.size = nL) (hst : st0 = As.reverse ++ .ref o :: rest) (hW : (rest.map fun v => v.category).sum ≤ 8) (hdg : decode cc pc = .ok (.invokevirtual 106, 3)) : va_Run p l e (so_rm k mcR msR) s m args below meth c H locs cells slots mc ms (F0 m pc ls st0) rest (Qc (Value.ref o :: As).toArray) free := ru_U (x := ⟨"HoldMaps$Table", "entryAt", "(I)LHoldMaps$Entry;"⟩) (owner := "HoldMaps$Table") S hB K E P hS hM he rfl wd_457 wd_428 (va_Decl.abs (va_Nw.of rfl (S.2.2.2.2 _ wd_427))) wd_437 wd_454 wd_438 wd_4 ⟨by decide +kernel, by decide +kernel, by rw [hA]; decide +kernel⟩ (by decide) hk hc1 hs1 hsize hst hW hdg
theorem cv_HM_106_La (S : CallFix p m c cc nL s args tbl "HoldMaps") (hB : so_B tbl s0 D vcl tys) (K : va_K D vcl tys s) (E : so_Kn s0 s) (P : so_P D vcl s0.heap.size σ H) (hS : va_S (so_A s0.heap.size) s.heap H locs) (he : σ o = some (tg, .inr (8, fs))) (hM : Met l y_Ro_entryAt [.code y_Ro_entryAt b_Ro_entryAt 2 (some (.object "HoldMaps$Entry"))] (so_rm k1 mc ms) (va_Pc (.ref o :: As) (so_Pre s0 D vcl σ)) Qc mc ms free) (hA : As.length = 1) (hk : k1 < k) (hc1 : cells + mc ≤ mcR) (hs1 : slots + ms ≤ msR) (hsize : ls.size = nL) (hst : st0 = As.reverse ++ .ref o :: rest) (hW : (rest.map fun v => v.category).sum ≤ 8) (hdg : decode cc pc = .ok (.invokevirtual 106, 3)) : va_Run p l e (so_rm k mcR msR) s m args below meth c H locs cells slots mc ms (F0 m pc ls st0) rest (Qc (Value.ref o :: As).toArray) free := ru_U (x := ⟨"HoldMaps$Table", "entryAt", "(I)LHoldMaps$Entry;"⟩) (owner := "HoldMaps$Table") S hB K E P hS hM he rfl wd_457 wd_428 (va_Decl.abs (va_Nw.of rfl (S.2.2.2.2 _ wd_427))) wd_437 wd_436 wd_438 wd_4 ⟨by decide +kernel, by decide +kernel, by rw [hA]; decide +kernel⟩ (by decide) hk hc1 hs1 hsize hst hW hdg
theorem cv_HM_110_We (S : CallFix p m c cc nL s args tbl "HoldMaps") (hB : so_B tbl s0 D vcl tys) (K : va_K D vcl tys s) (E : so_Kn s0 s) (P : so_P D vcl s0.heap.size σ H) (hS : va_S (so_A s0.heap.size) s.heap H locs) (he : σ o = some (tg, .inr (4, fs))) (hM : Met l y_Ta_isFull [.code y_Ta_isFull b_Ta_isFull 1 (some .boolean)] (so_rm k1 mc ms) (va_Pc (.ref o :: As) (so_Pre s0 D vcl σ)) Qc mc ms free) (hA : As.length = 0) (hk : k1 < k) (hc1 : cells + mc ≤ mcR) (hs1 : slots + ms ≤ msR) (hsize : ls.size = nL) (hst : st0 = As.reverse ++ .ref o :: rest) (hW : (rest.map fun v => v.category).sum ≤ 8) (hdg : decode cc pc = .ok (.invokevirtual 110, 3)) : va_Run p l e (so_rm k mcR msR) s m args below meth c H locs cells slots mc ms (F0 m pc ls st0) rest (Qc (Value.ref o :: As).toArray) free := ru_U (x := ⟨"HoldMaps$Table", "isFull", "()Z"⟩) (owner := "HoldMaps$Table") S hB K E P hS hM he rfl wd_458 wd_460 (va_Decl.of (S.2.2.2.2 _ wd_459) (S.2.2.2.2 _ wd_468)) wd_459 wd_467 wd_468 wd_3 ⟨by decide +kernel, by decide +kernel, by rw [hA]; decide +kernel⟩ (by decide) hk hc1 hs1 hsize hst hW hdg
theorem cv_HM_110_So (S : CallFix p m c cc nL s args tbl "HoldMaps") (hB : so_B tbl s0 D vcl tys) (K : va_K D vcl tys s) (E : so_Kn s0 s) (P : so_P D vcl s0.heap.size σ H) (hS : va_S (so_A s0.heap.size) s.heap H locs) (he : σ o = some (tg, .inr (5, fs))) (hM : Met l y_Ta_isFull [.code y_Ta_isFull b_Ta_isFull 1 (some .boolean)] (so_rm k1 mc ms) (va_Pc (.ref o :: As) (so_Pre s0 D vcl σ)) Qc mc ms free) (hA : As.length = 0) (hk : k1 < k) (hc1 : cells + mc ≤ mcR) (hs1 : slots + ms ≤ msR) (hsize : ls.size = nL) (hst : st0 = As.reverse ++ .ref o :: rest) (hW : (rest.map fun v => v.category).sum ≤ 8) (hdg : decode cc pc = .ok (.invokevirtual 110, 3)) : va_Run p l e (so_rm k mcR msR) s m args below meth c H locs cells slots mc ms (F0 m pc ls st0) rest (Qc (Value.ref o :: As).toArray) free := ru_U (x := ⟨"HoldMaps$Table", "isFull", "()Z"⟩) (owner := "HoldMaps$Table") S hB K E P hS hM he rfl wd_458 wd_460 (va_Decl.of (S.2.2.2.2 _ wd_459) (S.2.2.2.2 _ wd_468)) wd_459 wd_466 wd_468 wd_3 ⟨by decide +kernel, by decide +kernel, by rw [hA]; decide +kernel⟩ (by decide) hk hc1 hs1 hsize hst hW hdg
theorem cv_HM_110_Id (S : CallFix p m c cc nL s args tbl "HoldMaps") (hB : so_B tbl s0 D vcl tys) (K : va_K D vcl tys s) (E : so_Kn s0 s) (P : so_P D vcl s0.heap.size σ H) (hS : va_S (so_A s0.heap.size) s.heap H locs) (he : σ o = some (tg, .inr (6, fs))) (hM : Met l y_Id_isFull [.code y_Id_isFull b_Id_isFull 1 (some .boolean)] (so_rm k1 mc ms) (va_Pc (.ref o :: As) (so_Pre s0 D vcl σ)) Qc mc ms free) (hA : As.length = 0) (hk : k1 < k) (hc1 : cells + mc ≤ mcR) (hs1 : slots + ms ≤ msR) (hsize : ls.size = nL) (hst : st0 = As.reverse ++ .ref o :: rest) (hW : (rest.map fun v => v.category).sum ≤ 8) (hdg : decode cc pc = .ok (.invokevirtual 110, 3)) : va_Run p l e (so_rm k mcR msR) s m args below meth c H locs cells slots mc ms (F0 m pc ls st0) rest (Qc (Value.ref o :: As).toArray) free := ru_U (x := ⟨"HoldMaps$Table", "isFull", "()Z"⟩) (owner := "HoldMaps$Table") S hB K E P hS hM he rfl wd_458 wd_460 (va_Decl.of (S.2.2.2.2 _ wd_459) (S.2.2.2.2 _ wd_468)) wd_462 wd_461 wd_463 wd_10 ⟨by decide +kernel, by decide +kernel, by rw [hA]; decide +kernel⟩ (by decide) hk hc1 hs1 hsize hst hW hdg
theorem cv_HM_110_Pl (S : CallFix p m c cc nL s args tbl "HoldMaps") (hB : so_B tbl s0 D vcl tys) (K : va_K D vcl tys s) (E : so_Kn s0 s) (P : so_P D vcl s0.heap.size σ H) (hS : va_S (so_A s0.heap.size) s.heap H locs) (he : σ o = some (tg, .inr (7, fs))) (hM : Met l y_Ta_isFull [.code y_Ta_isFull b_Ta_isFull 1 (some .boolean)] (so_rm k1 mc ms) (va_Pc (.ref o :: As) (so_Pre s0 D vcl σ)) Qc mc ms free) (hA : As.length = 0) (hk : k1 < k) (hc1 : cells + mc ≤ mcR) (hs1 : slots + ms ≤ msR) (hsize : ls.size = nL) (hst : st0 = As.reverse ++ .ref o :: rest) (hW : (rest.map fun v => v.category).sum ≤ 8) (hdg : decode cc pc = .ok (.invokevirtual 110, 3)) : va_Run p l e (so_rm k mcR msR) s m args below meth c H locs cells slots mc ms (F0 m pc ls st0) rest (Qc (Value.ref o :: As).toArray) free := ru_U (x := ⟨"HoldMaps$Table", "isFull", "()Z"⟩) (owner := "HoldMaps$Table") S hB K E P hS hM he rfl wd_458 wd_460 (va_Decl.of (S.2.2.2.2 _ wd_459) (S.2.2.2.2 _ wd_468)) wd_459 wd_465 wd_468 wd_3 ⟨by decide +kernel, by decide +kernel, by rw [hA]; decide +kernel⟩ (by decide) hk hc1 hs1 hsize hst hW hdg
theorem cv_HM_110_La (S : CallFix p m c cc nL s args tbl "HoldMaps") (hB : so_B tbl s0 D vcl tys) (K : va_K D vcl tys s) (E : so_Kn s0 s) (P : so_P D vcl s0.heap.size σ H) (hS : va_S (so_A s0.heap.size) s.heap H locs) (he : σ o = some (tg, .inr (8, fs))) (hM : Met l y_Ta_isFull [.code y_Ta_isFull b_Ta_isFull 1 (some .boolean)] (so_rm k1 mc ms) (va_Pc (.ref o :: As) (so_Pre s0 D vcl σ)) Qc mc ms free) (hA : As.length = 0) (hk : k1 < k) (hc1 : cells + mc ≤ mcR) (hs1 : slots + ms ≤ msR) (hsize : ls.size = nL) (hst : st0 = As.reverse ++ .ref o :: rest) (hW : (rest.map fun v => v.category).sum ≤ 8) (hdg : decode cc pc = .ok (.invokevirtual 110, 3)) : va_Run p l e (so_rm k mcR msR) s m args below meth c H locs cells slots mc ms (F0 m pc ls st0) rest (Qc (Value.ref o :: As).toArray) free := ru_U (x := ⟨"HoldMaps$Table", "isFull", "()Z"⟩) (owner := "HoldMaps$Table") S hB K E P hS hM he rfl wd_458 wd_460 (va_Decl.of (S.2.2.2.2 _ wd_459) (S.2.2.2.2 _ wd_468)) wd_459 wd_464 wd_468 wd_3 ⟨by decide +kernel, by decide +kernel, by rw [hA]; decide +kernel⟩ (by decide) hk hc1 hs1 hsize hst hW hdg
theorem cv_HM_116_We (S : CallFix p m c cc nL s args tbl "HoldMaps") (hB : so_B tbl s0 D vcl tys) (K : va_K D vcl tys s) (E : so_Kn s0 s) (P : so_P D vcl s0.heap.size σ H) (hS : va_S (so_A s0.heap.size) s.heap H locs) (he : σ o = some (tg, .inr (4, fs))) (hM : Met l y_Ta_tick [.code y_Ta_tick b_Ta_tick 1 none] (so_rm k1 mc ms) (va_Pc (.ref o :: As) (so_Pre s0 D vcl σ)) Qc mc ms free) (hA : As.length = 0) (hk : k1 < k) (hc1 : cells + mc ≤ mcR) (hs1 : slots + ms ≤ msR) (hsize : ls.size = nL) (hst : st0 = As.reverse ++ .ref o :: rest) (hW : (rest.map fun v => v.category).sum ≤ 8) (hdg : decode cc pc = .ok (.invokevirtual 116, 3)) : va_Run p l e (so_rm k mcR msR) s m args below meth c H locs cells slots mc ms (F0 m pc ls st0) rest (Qc (Value.ref o :: As).toArray) free := ru_U (x := ⟨"HoldMaps$Table", "tick", "()V"⟩) (owner := "HoldMaps$Table") S hB K E P hS hM he rfl wd_470 wd_472 (va_Decl.of (S.2.2.2.2 _ wd_471) (S.2.2.2.2 _ wd_480)) wd_471 wd_479 wd_480 wd_3 ⟨by decide +kernel, by decide +kernel, by rw [hA]; decide +kernel⟩ (by decide) hk hc1 hs1 hsize hst hW hdg
theorem cv_HM_116_So (S : CallFix p m c cc nL s args tbl "HoldMaps") (hB : so_B tbl s0 D vcl tys) (K : va_K D vcl tys s) (E : so_Kn s0 s) (P : so_P D vcl s0.heap.size σ H) (hS : va_S (so_A s0.heap.size) s.heap H locs) (he : σ o = some (tg, .inr (5, fs))) (hM : Met l y_So_tick [.code y_So_tick b_So_tick 1 none] (so_rm k1 mc ms) (va_Pc (.ref o :: As) (so_Pre s0 D vcl σ)) Qc mc ms free) (hA : As.length = 0) (hk : k1 < k) (hc1 : cells + mc ≤ mcR) (hs1 : slots + ms ≤ msR) (hsize : ls.size = nL) (hst : st0 = As.reverse ++ .ref o :: rest) (hW : (rest.map fun v => v.category).sum ≤ 8) (hdg : decode cc pc = .ok (.invokevirtual 116, 3)) : va_Run p l e (so_rm k mcR msR) s m args below meth c H locs cells slots mc ms (F0 m pc ls st0) rest (Qc (Value.ref o :: As).toArray) free := ru_U (x := ⟨"HoldMaps$Table", "tick", "()V"⟩) (owner := "HoldMaps$Table") S hB K E P hS hM he rfl wd_470 wd_472 (va_Decl.of (S.2.2.2.2 _ wd_471) (S.2.2.2.2 _ wd_480)) wd_477 wd_476 wd_478 wd_9 ⟨by decide +kernel, by decide +kernel, by rw [hA]; decide +kernel⟩ (by decide) hk hc1 hs1 hsize hst hW hdg
theorem cv_HM_116_Id (S : CallFix p m c cc nL s args tbl "HoldMaps") (hB : so_B tbl s0 D vcl tys) (K : va_K D vcl tys s) (E : so_Kn s0 s) (P : so_P D vcl s0.heap.size σ H) (hS : va_S (so_A s0.heap.size) s.heap H locs) (he : σ o = some (tg, .inr (6, fs))) (hM : Met l y_Ta_tick [.code y_Ta_tick b_Ta_tick 1 none] (so_rm k1 mc ms) (va_Pc (.ref o :: As) (so_Pre s0 D vcl σ)) Qc mc ms free) (hA : As.length = 0) (hk : k1 < k) (hc1 : cells + mc ≤ mcR) (hs1 : slots + ms ≤ msR) (hsize : ls.size = nL) (hst : st0 = As.reverse ++ .ref o :: rest) (hW : (rest.map fun v => v.category).sum ≤ 8) (hdg : decode cc pc = .ok (.invokevirtual 116, 3)) : va_Run p l e (so_rm k mcR msR) s m args below meth c H locs cells slots mc ms (F0 m pc ls st0) rest (Qc (Value.ref o :: As).toArray) free := ru_U (x := ⟨"HoldMaps$Table", "tick", "()V"⟩) (owner := "HoldMaps$Table") S hB K E P hS hM he rfl wd_470 wd_472 (va_Decl.of (S.2.2.2.2 _ wd_471) (S.2.2.2.2 _ wd_480)) wd_471 wd_473 wd_480 wd_3 ⟨by decide +kernel, by decide +kernel, by rw [hA]; decide +kernel⟩ (by decide) hk hc1 hs1 hsize hst hW hdg
theorem cv_HM_116_Pl (S : CallFix p m c cc nL s args tbl "HoldMaps") (hB : so_B tbl s0 D vcl tys) (K : va_K D vcl tys s) (E : so_Kn s0 s) (P : so_P D vcl s0.heap.size σ H) (hS : va_S (so_A s0.heap.size) s.heap H locs) (he : σ o = some (tg, .inr (7, fs))) (hM : Met l y_Ta_tick [.code y_Ta_tick b_Ta_tick 1 none] (so_rm k1 mc ms) (va_Pc (.ref o :: As) (so_Pre s0 D vcl σ)) Qc mc ms free) (hA : As.length = 0) (hk : k1 < k) (hc1 : cells + mc ≤ mcR) (hs1 : slots + ms ≤ msR) (hsize : ls.size = nL) (hst : st0 = As.reverse ++ .ref o :: rest) (hW : (rest.map fun v => v.category).sum ≤ 8) (hdg : decode cc pc = .ok (.invokevirtual 116, 3)) : va_Run p l e (so_rm k mcR msR) s m args below meth c H locs cells slots mc ms (F0 m pc ls st0) rest (Qc (Value.ref o :: As).toArray) free := ru_U (x := ⟨"HoldMaps$Table", "tick", "()V"⟩) (owner := "HoldMaps$Table") S hB K E P hS hM he rfl wd_470 wd_472 (va_Decl.of (S.2.2.2.2 _ wd_471) (S.2.2.2.2 _ wd_480)) wd_471 wd_475 wd_480 wd_3 ⟨by decide +kernel, by decide +kernel, by rw [hA]; decide +kernel⟩ (by decide) hk hc1 hs1 hsize hst hW hdg
theorem cv_HM_116_La (S : CallFix p m c cc nL s args tbl "HoldMaps") (hB : so_B tbl s0 D vcl tys) (K : va_K D vcl tys s) (E : so_Kn s0 s) (P : so_P D vcl s0.heap.size σ H) (hS : va_S (so_A s0.heap.size) s.heap H locs) (he : σ o = some (tg, .inr (8, fs))) (hM : Met l y_Ta_tick [.code y_Ta_tick b_Ta_tick 1 none] (so_rm k1 mc ms) (va_Pc (.ref o :: As) (so_Pre s0 D vcl σ)) Qc mc ms free) (hA : As.length = 0) (hk : k1 < k) (hc1 : cells + mc ≤ mcR) (hs1 : slots + ms ≤ msR) (hsize : ls.size = nL) (hst : st0 = As.reverse ++ .ref o :: rest) (hW : (rest.map fun v => v.category).sum ≤ 8) (hdg : decode cc pc = .ok (.invokevirtual 116, 3)) : va_Run p l e (so_rm k mcR msR) s m args below meth c H locs cells slots mc ms (F0 m pc ls st0) rest (Qc (Value.ref o :: As).toArray) free := ru_U (x := ⟨"HoldMaps$Table", "tick", "()V"⟩) (owner := "HoldMaps$Table") S hB K E P hS hM he rfl wd_470 wd_472 (va_Decl.of (S.2.2.2.2 _ wd_471) (S.2.2.2.2 _ wd_480)) wd_471 wd_474 wd_480 wd_3 ⟨by decide +kernel, by decide +kernel, by rw [hA]; decide +kernel⟩ (by decide) hk hc1 hs1 hsize hst hW hdg
theorem cv_HM_121_We (S : CallFix p m c cc nL s args tbl "HoldMaps") (hB : so_B tbl s0 D vcl tys) (K : va_K D vcl tys s) (E : so_Kn s0 s) (P : so_P D vcl s0.heap.size σ H) (hS : va_S (so_A s0.heap.size) s.heap H locs) (he : σ o = some (tg, .inr (4, fs))) (hM : Met l y_Ta_keyOf [.code y_Ta_keyOf b_Ta_keyOf 3 (some .int)] (so_rm k1 mc ms) (va_Pc (.ref o :: As) (so_Pre s0 D vcl σ)) Qc mc ms free) (hA : As.length = 2) (hk : k1 < k) (hc1 : cells + mc ≤ mcR) (hs1 : slots + ms ≤ msR) (hsize : ls.size = nL) (hst : st0 = As.reverse ++ .ref o :: rest) (hW : (rest.map fun v => v.category).sum ≤ 8) (hdg : decode cc pc = .ok (.invokevirtual 121, 3)) : va_Run p l e (so_rm k mcR msR) s m args below meth c H locs cells slots mc ms (F0 m pc ls st0) rest (Qc (Value.ref o :: As).toArray) free := ru_U (x := ⟨"HoldMaps$Table", "keyOf", "(II)I"⟩) (owner := "HoldMaps$Table") S hB K E P hS hM he rfl wd_483 wd_485 (va_Decl.of (S.2.2.2.2 _ wd_484) (S.2.2.2.2 _ wd_493)) wd_484 wd_492 wd_493 wd_3 ⟨by decide +kernel, by decide +kernel, by rw [hA]; decide +kernel⟩ (by decide) hk hc1 hs1 hsize hst hW hdg
theorem cv_HM_121_So (S : CallFix p m c cc nL s args tbl "HoldMaps") (hB : so_B tbl s0 D vcl tys) (K : va_K D vcl tys s) (E : so_Kn s0 s) (P : so_P D vcl s0.heap.size σ H) (hS : va_S (so_A s0.heap.size) s.heap H locs) (he : σ o = some (tg, .inr (5, fs))) (hM : Met l y_Ta_keyOf [.code y_Ta_keyOf b_Ta_keyOf 3 (some .int)] (so_rm k1 mc ms) (va_Pc (.ref o :: As) (so_Pre s0 D vcl σ)) Qc mc ms free) (hA : As.length = 2) (hk : k1 < k) (hc1 : cells + mc ≤ mcR) (hs1 : slots + ms ≤ msR) (hsize : ls.size = nL) (hst : st0 = As.reverse ++ .ref o :: rest) (hW : (rest.map fun v => v.category).sum ≤ 8) (hdg : decode cc pc = .ok (.invokevirtual 121, 3)) : va_Run p l e (so_rm k mcR msR) s m args below meth c H locs cells slots mc ms (F0 m pc ls st0) rest (Qc (Value.ref o :: As).toArray) free := ru_U (x := ⟨"HoldMaps$Table", "keyOf", "(II)I"⟩) (owner := "HoldMaps$Table") S hB K E P hS hM he rfl wd_483 wd_485 (va_Decl.of (S.2.2.2.2 _ wd_484) (S.2.2.2.2 _ wd_493)) wd_484 wd_491 wd_493 wd_3 ⟨by decide +kernel, by decide +kernel, by rw [hA]; decide +kernel⟩ (by decide) hk hc1 hs1 hsize hst hW hdg
theorem cv_HM_121_Id (S : CallFix p m c cc nL s args tbl "HoldMaps") (hB : so_B tbl s0 D vcl tys) (K : va_K D vcl tys s) (E : so_Kn s0 s) (P : so_P D vcl s0.heap.size σ H) (hS : va_S (so_A s0.heap.size) s.heap H locs) (he : σ o = some (tg, .inr (6, fs))) (hM : Met l y_Ta_keyOf [.code y_Ta_keyOf b_Ta_keyOf 3 (some .int)] (so_rm k1 mc ms) (va_Pc (.ref o :: As) (so_Pre s0 D vcl σ)) Qc mc ms free) (hA : As.length = 2) (hk : k1 < k) (hc1 : cells + mc ≤ mcR) (hs1 : slots + ms ≤ msR) (hsize : ls.size = nL) (hst : st0 = As.reverse ++ .ref o :: rest) (hW : (rest.map fun v => v.category).sum ≤ 8) (hdg : decode cc pc = .ok (.invokevirtual 121, 3)) : va_Run p l e (so_rm k mcR msR) s m args below meth c H locs cells slots mc ms (F0 m pc ls st0) rest (Qc (Value.ref o :: As).toArray) free := ru_U (x := ⟨"HoldMaps$Table", "keyOf", "(II)I"⟩) (owner := "HoldMaps$Table") S hB K E P hS hM he rfl wd_483 wd_485 (va_Decl.of (S.2.2.2.2 _ wd_484) (S.2.2.2.2 _ wd_493)) wd_484 wd_486 wd_493 wd_3 ⟨by decide +kernel, by decide +kernel, by rw [hA]; decide +kernel⟩ (by decide) hk hc1 hs1 hsize hst hW hdg
theorem cv_HM_121_Pl (S : CallFix p m c cc nL s args tbl "HoldMaps") (hB : so_B tbl s0 D vcl tys) (K : va_K D vcl tys s) (E : so_Kn s0 s) (P : so_P D vcl s0.heap.size σ H) (hS : va_S (so_A s0.heap.size) s.heap H locs) (he : σ o = some (tg, .inr (7, fs))) (hM : Met l y_Pl_keyOf [.code y_Pl_keyOf b_Pl_keyOf 3 (some .int)] (so_rm k1 mc ms) (va_Pc (.ref o :: As) (so_Pre s0 D vcl σ)) Qc mc ms free) (hA : As.length = 2) (hk : k1 < k) (hc1 : cells + mc ≤ mcR) (hs1 : slots + ms ≤ msR) (hsize : ls.size = nL) (hst : st0 = As.reverse ++ .ref o :: rest) (hW : (rest.map fun v => v.category).sum ≤ 8) (hdg : decode cc pc = .ok (.invokevirtual 121, 3)) : va_Run p l e (so_rm k mcR msR) s m args below meth c H locs cells slots mc ms (F0 m pc ls st0) rest (Qc (Value.ref o :: As).toArray) free := ru_U (x := ⟨"HoldMaps$Table", "keyOf", "(II)I"⟩) (owner := "HoldMaps$Table") S hB K E P hS hM he rfl wd_483 wd_485 (va_Decl.of (S.2.2.2.2 _ wd_484) (S.2.2.2.2 _ wd_493)) wd_489 wd_488 wd_490 wd_11 ⟨by decide +kernel, by decide +kernel, by rw [hA]; decide +kernel⟩ (by decide) hk hc1 hs1 hsize hst hW hdg
theorem cv_HM_121_La (S : CallFix p m c cc nL s args tbl "HoldMaps") (hB : so_B tbl s0 D vcl tys) (K : va_K D vcl tys s) (E : so_Kn s0 s) (P : so_P D vcl s0.heap.size σ H) (hS : va_S (so_A s0.heap.size) s.heap H locs) (he : σ o = some (tg, .inr (8, fs))) (hM : Met l y_Ta_keyOf [.code y_Ta_keyOf b_Ta_keyOf 3 (some .int)] (so_rm k1 mc ms) (va_Pc (.ref o :: As) (so_Pre s0 D vcl σ)) Qc mc ms free) (hA : As.length = 2) (hk : k1 < k) (hc1 : cells + mc ≤ mcR) (hs1 : slots + ms ≤ msR) (hsize : ls.size = nL) (hst : st0 = As.reverse ++ .ref o :: rest) (hW : (rest.map fun v => v.category).sum ≤ 8) (hdg : decode cc pc = .ok (.invokevirtual 121, 3)) : va_Run p l e (so_rm k mcR msR) s m args below meth c H locs cells slots mc ms (F0 m pc ls st0) rest (Qc (Value.ref o :: As).toArray) free := ru_U (x := ⟨"HoldMaps$Table", "keyOf", "(II)I"⟩) (owner := "HoldMaps$Table") S hB K E P hS hM he rfl wd_483 wd_485 (va_Decl.of (S.2.2.2.2 _ wd_484) (S.2.2.2.2 _ wd_493)) wd_484 wd_487 wd_493 wd_3 ⟨by decide +kernel, by decide +kernel, by rw [hA]; decide +kernel⟩ (by decide) hk hc1 hs1 hsize hst hW hdg
theorem ci_HM_124 (S : CallFix p m c cc nL s args tbl "HoldMaps") (hB : so_B tbl s0 D vcl tys) (E : so_Kn s0 s) (P : so_P D vcl s0.heap.size σ H) (hS : va_S (so_A s0.heap.size) s.heap H locs) (hM : Met l y_En_init [.code y_En_init b_En_init 4 none] (so_rm k1 mc ms) (va_Pc (.ref o :: As) (so_Pre s0 D vcl σ)) Qc mc ms free) (hA : As.length = 3) (hk : k1 < k) (hc1 : cells + mc ≤ mcR) (hs1 : slots + ms ≤ msR) (hsize : ls.size = nL) (hst : st0 = As.reverse ++ .ref o :: rest) (hW : (rest.map fun v => v.category).sum ≤ 8) (hdg : decode cc pc = .ok (.invokespecial 124, 3)) : va_Run p l e (so_rm k mcR msR) s m args below meth c H locs cells slots mc ms (F0 m pc ls st0) rest (Qc (Value.ref o :: As).toArray) free := ru_I S hB E P hS hM wd_494 wd_495 wd_496 wd_22 rfl ⟨by decide +kernel, by decide +kernel, by rw [hA]; decide +kernel⟩ (by decide) hk hc1 hs1 hsize hst hW hdg
theorem cv_HM_127_We (S : CallFix p m c cc nL s args tbl "HoldMaps") (hB : so_B tbl s0 D vcl tys) (K : va_K D vcl tys s) (E : so_Kn s0 s) (P : so_P D vcl s0.heap.size σ H) (hS : va_S (so_A s0.heap.size) s.heap H locs) (he : σ o = some (tg, .inr (4, fs))) (hM : Met l y_We_add [.code y_We_add b_We_add 2 none] (so_rm k1 mc ms) (va_Pc (.ref o :: As) (so_Pre s0 D vcl σ)) Qc mc ms free) (hA : As.length = 1) (hk : k1 < k) (hc1 : cells + mc ≤ mcR) (hs1 : slots + ms ≤ msR) (hsize : ls.size = nL) (hst : st0 = As.reverse ++ .ref o :: rest) (hW : (rest.map fun v => v.category).sum ≤ 8) (hdg : decode cc pc = .ok (.invokevirtual 127, 3)) : va_Run p l e (so_rm k mcR msR) s m args below meth c H locs cells slots mc ms (F0 m pc ls st0) rest (Qc (Value.ref o :: As).toArray) free := ru_U (x := ⟨"HoldMaps$Table", "add", "(LHoldMaps$Entry;)V"⟩) (owner := "HoldMaps$Table") S hB K E P hS hM he rfl wd_519 wd_521 (va_Decl.abs (va_Nw.of rfl (S.2.2.2.2 _ wd_520))) wd_635 wd_634 wd_636 wd_5 ⟨by decide +kernel, by decide +kernel, by rw [hA]; decide +kernel⟩ (by decide) hk hc1 hs1 hsize hst hW hdg
theorem cv_HM_127_So (S : CallFix p m c cc nL s args tbl "HoldMaps") (hB : so_B tbl s0 D vcl tys) (K : va_K D vcl tys s) (E : so_Kn s0 s) (P : so_P D vcl s0.heap.size σ H) (hS : va_S (so_A s0.heap.size) s.heap H locs) (he : σ o = some (tg, .inr (5, fs))) (hM : Met l y_So_add [.code y_So_add b_So_add 2 none] (so_rm k1 mc ms) (va_Pc (.ref o :: As) (so_Pre s0 D vcl σ)) Qc mc ms free) (hA : As.length = 1) (hk : k1 < k) (hc1 : cells + mc ≤ mcR) (hs1 : slots + ms ≤ msR) (hsize : ls.size = nL) (hst : st0 = As.reverse ++ .ref o :: rest) (hW : (rest.map fun v => v.category).sum ≤ 8) (hdg : decode cc pc = .ok (.invokevirtual 127, 3)) : va_Run p l e (so_rm k mcR msR) s m args below meth c H locs cells slots mc ms (F0 m pc ls st0) rest (Qc (Value.ref o :: As).toArray) free := ru_U (x := ⟨"HoldMaps$Table", "add", "(LHoldMaps$Entry;)V"⟩) (owner := "HoldMaps$Table") S hB K E P hS hM he rfl wd_519 wd_521 (va_Decl.abs (va_Nw.of rfl (S.2.2.2.2 _ wd_520))) wd_629 wd_628 wd_630 wd_9 ⟨by decide +kernel, by decide +kernel, by rw [hA]; decide +kernel⟩ (by decide) hk hc1 hs1 hsize hst hW hdg
theorem cv_HM_127_Id (S : CallFix p m c cc nL s args tbl "HoldMaps") (hB : so_B tbl s0 D vcl tys) (K : va_K D vcl tys s) (E : so_Kn s0 s) (P : so_P D vcl s0.heap.size σ H) (hS : va_S (so_A s0.heap.size) s.heap H locs) (he : σ o = some (tg, .inr (6, fs))) (hM : Met l y_Id_add [.code y_Id_add b_Id_add 5 none] (so_rm k1 mc ms) (va_Pc (.ref o :: As) (so_Pre s0 D vcl σ)) Qc mc ms free) (hA : As.length = 1) (hk : k1 < k) (hc1 : cells + mc ≤ mcR) (hs1 : slots + ms ≤ msR) (hsize : ls.size = nL) (hst : st0 = As.reverse ++ .ref o :: rest) (hW : (rest.map fun v => v.category).sum ≤ 8) (hdg : decode cc pc = .ok (.invokevirtual 127, 3)) : va_Run p l e (so_rm k mcR msR) s m args below meth c H locs cells slots mc ms (F0 m pc ls st0) rest (Qc (Value.ref o :: As).toArray) free := ru_U (x := ⟨"HoldMaps$Table", "add", "(LHoldMaps$Entry;)V"⟩) (owner := "HoldMaps$Table") S hB K E P hS hM he rfl wd_519 wd_521 (va_Decl.abs (va_Nw.of rfl (S.2.2.2.2 _ wd_520))) wd_523 wd_522 wd_524 wd_10 ⟨by decide +kernel, by decide +kernel, by rw [hA]; decide +kernel⟩ (by decide) hk hc1 hs1 hsize hst hW hdg
theorem cv_HM_127_Pl (S : CallFix p m c cc nL s args tbl "HoldMaps") (hB : so_B tbl s0 D vcl tys) (K : va_K D vcl tys s) (E : so_Kn s0 s) (P : so_P D vcl s0.heap.size σ H) (hS : va_S (so_A s0.heap.size) s.heap H locs) (he : σ o = some (tg, .inr (7, fs))) (hM : Met l y_Pl_add [.code y_Pl_add b_Pl_add 3 none] (so_rm k1 mc ms) (va_Pc (.ref o :: As) (so_Pre s0 D vcl σ)) Qc mc ms free) (hA : As.length = 1) (hk : k1 < k) (hc1 : cells + mc ≤ mcR) (hs1 : slots + ms ≤ msR) (hsize : ls.size = nL) (hst : st0 = As.reverse ++ .ref o :: rest) (hW : (rest.map fun v => v.category).sum ≤ 8) (hdg : decode cc pc = .ok (.invokevirtual 127, 3)) : va_Run p l e (so_rm k mcR msR) s m args below meth c H locs cells slots mc ms (F0 m pc ls st0) rest (Qc (Value.ref o :: As).toArray) free := ru_U (x := ⟨"HoldMaps$Table", "add", "(LHoldMaps$Entry;)V"⟩) (owner := "HoldMaps$Table") S hB K E P hS hM he rfl wd_519 wd_521 (va_Decl.abs (va_Nw.of rfl (S.2.2.2.2 _ wd_520))) wd_615 wd_614 wd_616 wd_11 ⟨by decide +kernel, by decide +kernel, by rw [hA]; decide +kernel⟩ (by decide) hk hc1 hs1 hsize hst hW hdg
theorem cv_HM_127_La (S : CallFix p m c cc nL s args tbl "HoldMaps") (hB : so_B tbl s0 D vcl tys) (K : va_K D vcl tys s) (E : so_Kn s0 s) (P : so_P D vcl s0.heap.size σ H) (hS : va_S (so_A s0.heap.size) s.heap H locs) (he : σ o = some (tg, .inr (8, fs))) (hM : Met l y_La_add [.code y_La_add b_La_add 2 none] (so_rm k1 mc ms) (va_Pc (.ref o :: As) (so_Pre s0 D vcl σ)) Qc mc ms free) (hA : As.length = 1) (hk : k1 < k) (hc1 : cells + mc ≤ mcR) (hs1 : slots + ms ≤ msR) (hsize : ls.size = nL) (hst : st0 = As.reverse ++ .ref o :: rest) (hW : (rest.map fun v => v.category).sum ≤ 8) (hdg : decode cc pc = .ok (.invokevirtual 127, 3)) : va_Run p l e (so_rm k mcR msR) s m args below meth c H locs cells slots mc ms (F0 m pc ls st0) rest (Qc (Value.ref o :: As).toArray) free := ru_U (x := ⟨"HoldMaps$Table", "add", "(LHoldMaps$Entry;)V"⟩) (owner := "HoldMaps$Table") S hB K E P hS hM he rfl wd_519 wd_521 (va_Decl.abs (va_Nw.of rfl (S.2.2.2.2 _ wd_520))) wd_529 wd_528 wd_530 wd_12 ⟨by decide +kernel, by decide +kernel, by rw [hA]; decide +kernel⟩ (by decide) hk hc1 hs1 hsize hst hW hdg
theorem gf_HM_131_En (S : CallFix p m c cc nL s args tbl "HoldMaps") (K : va_K D vcl tys s) (P : so_P D vcl N0 σ H) (he : σ a = some (tg, .inr (3, fs))) (hv : fs[2]? = some v) (hdg : decode cc pc = .ok (.getfield 131, 3)) (kk : W p l e R s m args below meth c H locs cells slots Q (F0 m (pc + 3) ls (v :: rest))) : W p l e R s m args below meth c H locs cells slots Q (F0 m pc ls (.ref a :: rest)) := so_get S K P (T := F_En) (N := 4) i_En he rfl 2 (by decide) (S.2.2.2.2 _ wd_506) (fun _ h => h) hv hdg kk
theorem pf_HM_131_En (S : CallFix p m c cc nL s args tbl "HoldMaps") (K : va_K D vcl tys s) (P : so_P D vcl N0 σ H) (hS : va_S (so_A N0) H0 H locs) (he : σ a = some (tg, .inr (3, fs))) (hl : 2 < fs.length) (hn : narrow (.int) v = v) (hf : fits (.int) v = true) (hdg : decode cc pc = .ok (.putfield 131, 3)) (kk : ∀ (H1 : Heap) (locs1 : List Loc), so_P D vcl N0 (so_up σ a (tg, .inr (3, fs.set 2 v))) H1 → va_S (so_A N0) H0 H1 locs1 → W p l e R s m args below meth c H1 locs1 cells slots Q (F0 m (pc + 3) ls rest)) : W p l e R s m args below meth c H locs cells slots Q (F0 m pc ls (v :: .ref a :: rest)) := so_put S K P hS (T := F_En) (N := 4) i_En t_En t_En_ok n_En he rfl 2 (by decide) (S.2.2.2.2 _ wd_506) (fun _ h => h) rfl (by decide +kernel) hn hf hl hdg kk
theorem cv_HM_132_We (S : CallFix p m c cc nL s args tbl "HoldMaps") (hB : so_B tbl s0 D vcl tys) (K : va_K D vcl tys s) (E : so_Kn s0 s) (P : so_P D vcl s0.heap.size σ H) (hS : va_S (so_A s0.heap.size) s.heap H locs) (he : σ o = some (tg, .inr (4, fs))) (hM : Met l y_Ta_use [.code y_Ta_use b_Ta_use 2 none] (so_rm k1 mc ms) (va_Pc (.ref o :: As) (so_Pre s0 D vcl σ)) Qc mc ms free) (hA : As.length = 1) (hk : k1 < k) (hc1 : cells + mc ≤ mcR) (hs1 : slots + ms ≤ msR) (hsize : ls.size = nL) (hst : st0 = As.reverse ++ .ref o :: rest) (hW : (rest.map fun v => v.category).sum ≤ 8) (hdg : decode cc pc = .ok (.invokevirtual 132, 3)) : va_Run p l e (so_rm k mcR msR) s m args below meth c H locs cells slots mc ms (F0 m pc ls st0) rest (Qc (Value.ref o :: As).toArray) free := ru_U (x := ⟨"HoldMaps$Table", "use", "(I)V"⟩) (owner := "HoldMaps$Table") S hB K E P hS hM he rfl wd_658 wd_660 (va_Decl.of (S.2.2.2.2 _ wd_659) (S.2.2.2.2 _ wd_676)) wd_659 wd_675 wd_676 wd_3 ⟨by decide +kernel, by decide +kernel, by rw [hA]; decide +kernel⟩ (by decide) hk hc1 hs1 hsize hst hW hdg
theorem cv_HM_132_So (S : CallFix p m c cc nL s args tbl "HoldMaps") (hB : so_B tbl s0 D vcl tys) (K : va_K D vcl tys s) (E : so_Kn s0 s) (P : so_P D vcl s0.heap.size σ H) (hS : va_S (so_A s0.heap.size) s.heap H locs) (he : σ o = some (tg, .inr (5, fs))) (hM : Met l y_So_use [.code y_So_use b_So_use 3 none] (so_rm k1 mc ms) (va_Pc (.ref o :: As) (so_Pre s0 D vcl σ)) Qc mc ms free) (hA : As.length = 1) (hk : k1 < k) (hc1 : cells + mc ≤ mcR) (hs1 : slots + ms ≤ msR) (hsize : ls.size = nL) (hst : st0 = As.reverse ++ .ref o :: rest) (hW : (rest.map fun v => v.category).sum ≤ 8) (hdg : decode cc pc = .ok (.invokevirtual 132, 3)) : va_Run p l e (so_rm k mcR msR) s m args below meth c H locs cells slots mc ms (F0 m pc ls st0) rest (Qc (Value.ref o :: As).toArray) free := ru_U (x := ⟨"HoldMaps$Table", "use", "(I)V"⟩) (owner := "HoldMaps$Table") S hB K E P hS hM he rfl wd_658 wd_660 (va_Decl.of (S.2.2.2.2 _ wd_659) (S.2.2.2.2 _ wd_676)) wd_669 wd_668 wd_670 wd_9 ⟨by decide +kernel, by decide +kernel, by rw [hA]; decide +kernel⟩ (by decide) hk hc1 hs1 hsize hst hW hdg
theorem cv_HM_132_Id (S : CallFix p m c cc nL s args tbl "HoldMaps") (hB : so_B tbl s0 D vcl tys) (K : va_K D vcl tys s) (E : so_Kn s0 s) (P : so_P D vcl s0.heap.size σ H) (hS : va_S (so_A s0.heap.size) s.heap H locs) (he : σ o = some (tg, .inr (6, fs))) (hM : Met l y_Ta_use [.code y_Ta_use b_Ta_use 2 none] (so_rm k1 mc ms) (va_Pc (.ref o :: As) (so_Pre s0 D vcl σ)) Qc mc ms free) (hA : As.length = 1) (hk : k1 < k) (hc1 : cells + mc ≤ mcR) (hs1 : slots + ms ≤ msR) (hsize : ls.size = nL) (hst : st0 = As.reverse ++ .ref o :: rest) (hW : (rest.map fun v => v.category).sum ≤ 8) (hdg : decode cc pc = .ok (.invokevirtual 132, 3)) : va_Run p l e (so_rm k mcR msR) s m args below meth c H locs cells slots mc ms (F0 m pc ls st0) rest (Qc (Value.ref o :: As).toArray) free := ru_U (x := ⟨"HoldMaps$Table", "use", "(I)V"⟩) (owner := "HoldMaps$Table") S hB K E P hS hM he rfl wd_658 wd_660 (va_Decl.of (S.2.2.2.2 _ wd_659) (S.2.2.2.2 _ wd_676)) wd_659 wd_661 wd_676 wd_3 ⟨by decide +kernel, by decide +kernel, by rw [hA]; decide +kernel⟩ (by decide) hk hc1 hs1 hsize hst hW hdg
theorem cv_HM_132_Pl (S : CallFix p m c cc nL s args tbl "HoldMaps") (hB : so_B tbl s0 D vcl tys) (K : va_K D vcl tys s) (E : so_Kn s0 s) (P : so_P D vcl s0.heap.size σ H) (hS : va_S (so_A s0.heap.size) s.heap H locs) (he : σ o = some (tg, .inr (7, fs))) (hM : Met l y_Ta_use [.code y_Ta_use b_Ta_use 2 none] (so_rm k1 mc ms) (va_Pc (.ref o :: As) (so_Pre s0 D vcl σ)) Qc mc ms free) (hA : As.length = 1) (hk : k1 < k) (hc1 : cells + mc ≤ mcR) (hs1 : slots + ms ≤ msR) (hsize : ls.size = nL) (hst : st0 = As.reverse ++ .ref o :: rest) (hW : (rest.map fun v => v.category).sum ≤ 8) (hdg : decode cc pc = .ok (.invokevirtual 132, 3)) : va_Run p l e (so_rm k mcR msR) s m args below meth c H locs cells slots mc ms (F0 m pc ls st0) rest (Qc (Value.ref o :: As).toArray) free := ru_U (x := ⟨"HoldMaps$Table", "use", "(I)V"⟩) (owner := "HoldMaps$Table") S hB K E P hS hM he rfl wd_658 wd_660 (va_Decl.of (S.2.2.2.2 _ wd_659) (S.2.2.2.2 _ wd_676)) wd_659 wd_667 wd_676 wd_3 ⟨by decide +kernel, by decide +kernel, by rw [hA]; decide +kernel⟩ (by decide) hk hc1 hs1 hsize hst hW hdg
theorem cv_HM_132_La (S : CallFix p m c cc nL s args tbl "HoldMaps") (hB : so_B tbl s0 D vcl tys) (K : va_K D vcl tys s) (E : so_Kn s0 s) (P : so_P D vcl s0.heap.size σ H) (hS : va_S (so_A s0.heap.size) s.heap H locs) (he : σ o = some (tg, .inr (8, fs))) (hM : Met l y_La_use [.code y_La_use b_La_use 3 none] (so_rm k1 mc ms) (va_Pc (.ref o :: As) (so_Pre s0 D vcl σ)) Qc mc ms free) (hA : As.length = 1) (hk : k1 < k) (hc1 : cells + mc ≤ mcR) (hs1 : slots + ms ≤ msR) (hsize : ls.size = nL) (hst : st0 = As.reverse ++ .ref o :: rest) (hW : (rest.map fun v => v.category).sum ≤ 8) (hdg : decode cc pc = .ok (.invokevirtual 132, 3)) : va_Run p l e (so_rm k mcR msR) s m args below meth c H locs cells slots mc ms (F0 m pc ls st0) rest (Qc (Value.ref o :: As).toArray) free := ru_U (x := ⟨"HoldMaps$Table", "use", "(I)V"⟩) (owner := "HoldMaps$Table") S hB K E P hS hM he rfl wd_658 wd_660 (va_Decl.of (S.2.2.2.2 _ wd_659) (S.2.2.2.2 _ wd_676)) wd_663 wd_662 wd_664 wd_12 ⟨by decide +kernel, by decide +kernel, by rw [hA]; decide +kernel⟩ (by decide) hk hc1 hs1 hsize hst hW hdg
theorem cv_HM_205_We (S : CallFix p m c cc nL s args tbl "HoldMaps") (hB : so_B tbl s0 D vcl tys) (K : va_K D vcl tys s) (E : so_Kn s0 s) (P : so_P D vcl s0.heap.size σ H) (hS : va_S (so_A s0.heap.size) s.heap H locs) (he : σ o = some (tg, .inr (4, fs))) (hM : Met l y_Ta_takes [.code y_Ta_takes b_Ta_takes 2 (some .boolean)] (so_rm k1 mc ms) (va_Pc (.ref o :: As) (so_Pre s0 D vcl σ)) Qc mc ms free) (hA : As.length = 1) (hk : k1 < k) (hc1 : cells + mc ≤ mcR) (hs1 : slots + ms ≤ msR) (hsize : ls.size = nL) (hst : st0 = As.reverse ++ .ref o :: rest) (hW : (rest.map fun v => v.category).sum ≤ 8) (hdg : decode cc pc = .ok (.invokevirtual 205, 3)) : va_Run p l e (so_rm k mcR msR) s m args below meth c H locs cells slots mc ms (F0 m pc ls st0) rest (Qc (Value.ref o :: As).toArray) free := ru_U (x := ⟨"HoldMaps$Table", "takes", "(I)Z"⟩) (owner := "HoldMaps$Table") S hB K E P hS hM he rfl wd_393 wd_395 (va_Decl.of (S.2.2.2.2 _ wd_394) (S.2.2.2.2 _ wd_403)) wd_394 wd_402 wd_403 wd_3 ⟨by decide +kernel, by decide +kernel, by rw [hA]; decide +kernel⟩ (by decide) hk hc1 hs1 hsize hst hW hdg
theorem cv_HM_205_So (S : CallFix p m c cc nL s args tbl "HoldMaps") (hB : so_B tbl s0 D vcl tys) (K : va_K D vcl tys s) (E : so_Kn s0 s) (P : so_P D vcl s0.heap.size σ H) (hS : va_S (so_A s0.heap.size) s.heap H locs) (he : σ o = some (tg, .inr (5, fs))) (hM : Met l y_Ta_takes [.code y_Ta_takes b_Ta_takes 2 (some .boolean)] (so_rm k1 mc ms) (va_Pc (.ref o :: As) (so_Pre s0 D vcl σ)) Qc mc ms free) (hA : As.length = 1) (hk : k1 < k) (hc1 : cells + mc ≤ mcR) (hs1 : slots + ms ≤ msR) (hsize : ls.size = nL) (hst : st0 = As.reverse ++ .ref o :: rest) (hW : (rest.map fun v => v.category).sum ≤ 8) (hdg : decode cc pc = .ok (.invokevirtual 205, 3)) : va_Run p l e (so_rm k mcR msR) s m args below meth c H locs cells slots mc ms (F0 m pc ls st0) rest (Qc (Value.ref o :: As).toArray) free := ru_U (x := ⟨"HoldMaps$Table", "takes", "(I)Z"⟩) (owner := "HoldMaps$Table") S hB K E P hS hM he rfl wd_393 wd_395 (va_Decl.of (S.2.2.2.2 _ wd_394) (S.2.2.2.2 _ wd_403)) wd_394 wd_401 wd_403 wd_3 ⟨by decide +kernel, by decide +kernel, by rw [hA]; decide +kernel⟩ (by decide) hk hc1 hs1 hsize hst hW hdg
theorem cv_HM_205_Id (S : CallFix p m c cc nL s args tbl "HoldMaps") (hB : so_B tbl s0 D vcl tys) (K : va_K D vcl tys s) (E : so_Kn s0 s) (P : so_P D vcl s0.heap.size σ H) (hS : va_S (so_A s0.heap.size) s.heap H locs) (he : σ o = some (tg, .inr (6, fs))) (hM : Met l y_Ta_takes [.code y_Ta_takes b_Ta_takes 2 (some .boolean)] (so_rm k1 mc ms) (va_Pc (.ref o :: As) (so_Pre s0 D vcl σ)) Qc mc ms free) (hA : As.length = 1) (hk : k1 < k) (hc1 : cells + mc ≤ mcR) (hs1 : slots + ms ≤ msR) (hsize : ls.size = nL) (hst : st0 = As.reverse ++ .ref o :: rest) (hW : (rest.map fun v => v.category).sum ≤ 8) (hdg : decode cc pc = .ok (.invokevirtual 205, 3)) : va_Run p l e (so_rm k mcR msR) s m args below meth c H locs cells slots mc ms (F0 m pc ls st0) rest (Qc (Value.ref o :: As).toArray) free := ru_U (x := ⟨"HoldMaps$Table", "takes", "(I)Z"⟩) (owner := "HoldMaps$Table") S hB K E P hS hM he rfl wd_393 wd_395 (va_Decl.of (S.2.2.2.2 _ wd_394) (S.2.2.2.2 _ wd_403)) wd_394 wd_396 wd_403 wd_3 ⟨by decide +kernel, by decide +kernel, by rw [hA]; decide +kernel⟩ (by decide) hk hc1 hs1 hsize hst hW hdg
theorem cv_HM_205_Pl (S : CallFix p m c cc nL s args tbl "HoldMaps") (hB : so_B tbl s0 D vcl tys) (K : va_K D vcl tys s) (E : so_Kn s0 s) (P : so_P D vcl s0.heap.size σ H) (hS : va_S (so_A s0.heap.size) s.heap H locs) (he : σ o = some (tg, .inr (7, fs))) (hM : Met l y_Pl_takes [.code y_Pl_takes b_Pl_takes 2 (some .boolean)] (so_rm k1 mc ms) (va_Pc (.ref o :: As) (so_Pre s0 D vcl σ)) Qc mc ms free) (hA : As.length = 1) (hk : k1 < k) (hc1 : cells + mc ≤ mcR) (hs1 : slots + ms ≤ msR) (hsize : ls.size = nL) (hst : st0 = As.reverse ++ .ref o :: rest) (hW : (rest.map fun v => v.category).sum ≤ 8) (hdg : decode cc pc = .ok (.invokevirtual 205, 3)) : va_Run p l e (so_rm k mcR msR) s m args below meth c H locs cells slots mc ms (F0 m pc ls st0) rest (Qc (Value.ref o :: As).toArray) free := ru_U (x := ⟨"HoldMaps$Table", "takes", "(I)Z"⟩) (owner := "HoldMaps$Table") S hB K E P hS hM he rfl wd_393 wd_395 (va_Decl.of (S.2.2.2.2 _ wd_394) (S.2.2.2.2 _ wd_403)) wd_399 wd_398 wd_400 wd_11 ⟨by decide +kernel, by decide +kernel, by rw [hA]; decide +kernel⟩ (by decide) hk hc1 hs1 hsize hst hW hdg
theorem cv_HM_205_La (S : CallFix p m c cc nL s args tbl "HoldMaps") (hB : so_B tbl s0 D vcl tys) (K : va_K D vcl tys s) (E : so_Kn s0 s) (P : so_P D vcl s0.heap.size σ H) (hS : va_S (so_A s0.heap.size) s.heap H locs) (he : σ o = some (tg, .inr (8, fs))) (hM : Met l y_Ta_takes [.code y_Ta_takes b_Ta_takes 2 (some .boolean)] (so_rm k1 mc ms) (va_Pc (.ref o :: As) (so_Pre s0 D vcl σ)) Qc mc ms free) (hA : As.length = 1) (hk : k1 < k) (hc1 : cells + mc ≤ mcR) (hs1 : slots + ms ≤ msR) (hsize : ls.size = nL) (hst : st0 = As.reverse ++ .ref o :: rest) (hW : (rest.map fun v => v.category).sum ≤ 8) (hdg : decode cc pc = .ok (.invokevirtual 205, 3)) : va_Run p l e (so_rm k mcR msR) s m args below meth c H locs cells slots mc ms (F0 m pc ls st0) rest (Qc (Value.ref o :: As).toArray) free := ru_U (x := ⟨"HoldMaps$Table", "takes", "(I)Z"⟩) (owner := "HoldMaps$Table") S hB K E P hS hM he rfl wd_393 wd_395 (va_Decl.of (S.2.2.2.2 _ wd_394) (S.2.2.2.2 _ wd_403)) wd_394 wd_397 wd_403 wd_3 ⟨by decide +kernel, by decide +kernel, by rw [hA]; decide +kernel⟩ (by decide) hk hc1 hs1 hsize hst hW hdg
theorem cv_Ta_24_We (S : CallFix p m c cc nL s args tbl "HoldMaps$Table") (hB : so_B tbl s0 D vcl tys) (K : va_K D vcl tys s) (E : so_Kn s0 s) (P : so_P D vcl s0.heap.size σ H) (hS : va_S (so_A s0.heap.size) s.heap H locs) (he : σ o = some (tg, .inr (4, fs))) (hM : Met l y_Ro_length [.code y_Ro_length b_Ro_length 1 (some .int)] (so_rm k1 mc ms) (va_Pc (.ref o :: As) (so_Pre s0 D vcl σ)) Qc mc ms free) (hA : As.length = 0) (hk : k1 < k) (hc1 : cells + mc ≤ mcR) (hs1 : slots + ms ≤ msR) (hsize : ls.size = nL) (hst : st0 = As.reverse ++ .ref o :: rest) (hW : (rest.map fun v => v.category).sum ≤ 8) (hdg : decode cc pc = .ok (.invokevirtual 24, 3)) : va_Run p l e (so_rm k mcR msR) s m args below meth c H locs cells slots mc ms (F0 m pc ls st0) rest (Qc (Value.ref o :: As).toArray) free := ru_U (x := ⟨"HoldMaps$Table", "length", "()I"⟩) (owner := "HoldMaps$Table") S hB K E P hS hM he rfl wd_425 wd_215 (va_Decl.abs (va_Nw.of rfl (S.2.2.2.2 _ wd_214))) wd_220 wd_228 wd_221 wd_4 ⟨by decide +kernel, by decide +kernel, by rw [hA]; decide +kernel⟩ (by decide) hk hc1 hs1 hsize hst hW hdg
theorem cv_Ta_24_So (S : CallFix p m c cc nL s args tbl "HoldMaps$Table") (hB : so_B tbl s0 D vcl tys) (K : va_K D vcl tys s) (E : so_Kn s0 s) (P : so_P D vcl s0.heap.size σ H) (hS : va_S (so_A s0.heap.size) s.heap H locs) (he : σ o = some (tg, .inr (5, fs))) (hM : Met l y_Ro_length [.code y_Ro_length b_Ro_length 1 (some .int)] (so_rm k1 mc ms) (va_Pc (.ref o :: As) (so_Pre s0 D vcl σ)) Qc mc ms free) (hA : As.length = 0) (hk : k1 < k) (hc1 : cells + mc ≤ mcR) (hs1 : slots + ms ≤ msR) (hsize : ls.size = nL) (hst : st0 = As.reverse ++ .ref o :: rest) (hW : (rest.map fun v => v.category).sum ≤ 8) (hdg : decode cc pc = .ok (.invokevirtual 24, 3)) : va_Run p l e (so_rm k mcR msR) s m args below meth c H locs cells slots mc ms (F0 m pc ls st0) rest (Qc (Value.ref o :: As).toArray) free := ru_U (x := ⟨"HoldMaps$Table", "length", "()I"⟩) (owner := "HoldMaps$Table") S hB K E P hS hM he rfl wd_425 wd_215 (va_Decl.abs (va_Nw.of rfl (S.2.2.2.2 _ wd_214))) wd_220 wd_227 wd_221 wd_4 ⟨by decide +kernel, by decide +kernel, by rw [hA]; decide +kernel⟩ (by decide) hk hc1 hs1 hsize hst hW hdg
theorem cv_Ta_24_Id (S : CallFix p m c cc nL s args tbl "HoldMaps$Table") (hB : so_B tbl s0 D vcl tys) (K : va_K D vcl tys s) (E : so_Kn s0 s) (P : so_P D vcl s0.heap.size σ H) (hS : va_S (so_A s0.heap.size) s.heap H locs) (he : σ o = some (tg, .inr (6, fs))) (hM : Met l y_Id_length [.code y_Id_length b_Id_length 1 (some .int)] (so_rm k1 mc ms) (va_Pc (.ref o :: As) (so_Pre s0 D vcl σ)) Qc mc ms free) (hA : As.length = 0) (hk : k1 < k) (hc1 : cells + mc ≤ mcR) (hs1 : slots + ms ≤ msR) (hsize : ls.size = nL) (hst : st0 = As.reverse ++ .ref o :: rest) (hW : (rest.map fun v => v.category).sum ≤ 8) (hdg : decode cc pc = .ok (.invokevirtual 24, 3)) : va_Run p l e (so_rm k mcR msR) s m args below meth c H locs cells slots mc ms (F0 m pc ls st0) rest (Qc (Value.ref o :: As).toArray) free := ru_U (x := ⟨"HoldMaps$Table", "length", "()I"⟩) (owner := "HoldMaps$Table") S hB K E P hS hM he rfl wd_425 wd_215 (va_Decl.abs (va_Nw.of rfl (S.2.2.2.2 _ wd_214))) wd_217 wd_216 wd_218 wd_10 ⟨by decide +kernel, by decide +kernel, by rw [hA]; decide +kernel⟩ (by decide) hk hc1 hs1 hsize hst hW hdg
theorem cv_Ta_24_Pl (S : CallFix p m c cc nL s args tbl "HoldMaps$Table") (hB : so_B tbl s0 D vcl tys) (K : va_K D vcl tys s) (E : so_Kn s0 s) (P : so_P D vcl s0.heap.size σ H) (hS : va_S (so_A s0.heap.size) s.heap H locs) (he : σ o = some (tg, .inr (7, fs))) (hM : Met l y_Ro_length [.code y_Ro_length b_Ro_length 1 (some .int)] (so_rm k1 mc ms) (va_Pc (.ref o :: As) (so_Pre s0 D vcl σ)) Qc mc ms free) (hA : As.length = 0) (hk : k1 < k) (hc1 : cells + mc ≤ mcR) (hs1 : slots + ms ≤ msR) (hsize : ls.size = nL) (hst : st0 = As.reverse ++ .ref o :: rest) (hW : (rest.map fun v => v.category).sum ≤ 8) (hdg : decode cc pc = .ok (.invokevirtual 24, 3)) : va_Run p l e (so_rm k mcR msR) s m args below meth c H locs cells slots mc ms (F0 m pc ls st0) rest (Qc (Value.ref o :: As).toArray) free := ru_U (x := ⟨"HoldMaps$Table", "length", "()I"⟩) (owner := "HoldMaps$Table") S hB K E P hS hM he rfl wd_425 wd_215 (va_Decl.abs (va_Nw.of rfl (S.2.2.2.2 _ wd_214))) wd_220 wd_226 wd_221 wd_4 ⟨by decide +kernel, by decide +kernel, by rw [hA]; decide +kernel⟩ (by decide) hk hc1 hs1 hsize hst hW hdg
theorem cv_Ta_24_La (S : CallFix p m c cc nL s args tbl "HoldMaps$Table") (hB : so_B tbl s0 D vcl tys) (K : va_K D vcl tys s) (E : so_Kn s0 s) (P : so_P D vcl s0.heap.size σ H) (hS : va_S (so_A s0.heap.size) s.heap H locs) (he : σ o = some (tg, .inr (8, fs))) (hM : Met l y_Ro_length [.code y_Ro_length b_Ro_length 1 (some .int)] (so_rm k1 mc ms) (va_Pc (.ref o :: As) (so_Pre s0 D vcl σ)) Qc mc ms free) (hA : As.length = 0) (hk : k1 < k) (hc1 : cells + mc ≤ mcR) (hs1 : slots + ms ≤ msR) (hsize : ls.size = nL) (hst : st0 = As.reverse ++ .ref o :: rest) (hW : (rest.map fun v => v.category).sum ≤ 8) (hdg : decode cc pc = .ok (.invokevirtual 24, 3)) : va_Run p l e (so_rm k mcR msR) s m args below meth c H locs cells slots mc ms (F0 m pc ls st0) rest (Qc (Value.ref o :: As).toArray) free := ru_U (x := ⟨"HoldMaps$Table", "length", "()I"⟩) (owner := "HoldMaps$Table") S hB K E P hS hM he rfl wd_425 wd_215 (va_Decl.abs (va_Nw.of rfl (S.2.2.2.2 _ wd_214))) wd_220 wd_219 wd_221 wd_4 ⟨by decide +kernel, by decide +kernel, by rw [hA]; decide +kernel⟩ (by decide) hk hc1 hs1 hsize hst hW hdg
theorem cv_Ta_9_We (S : CallFix p m c cc nL s args tbl "HoldMaps$Table") (hB : so_B tbl s0 D vcl tys) (K : va_K D vcl tys s) (E : so_Kn s0 s) (P : so_P D vcl s0.heap.size σ H) (hS : va_S (so_A s0.heap.size) s.heap H locs) (he : σ o = some (tg, .inr (4, fs))) (hM : Met l y_Ro_entryAt [.code y_Ro_entryAt b_Ro_entryAt 2 (some (.object "HoldMaps$Entry"))] (so_rm k1 mc ms) (va_Pc (.ref o :: As) (so_Pre s0 D vcl σ)) Qc mc ms free) (hA : As.length = 1) (hk : k1 < k) (hc1 : cells + mc ≤ mcR) (hs1 : slots + ms ≤ msR) (hsize : ls.size = nL) (hst : st0 = As.reverse ++ .ref o :: rest) (hW : (rest.map fun v => v.category).sum ≤ 8) (hdg : decode cc pc = .ok (.invokevirtual 9, 3)) : va_Run p l e (so_rm k mcR msR) s m args below meth c H locs cells slots mc ms (F0 m pc ls st0) rest (Qc (Value.ref o :: As).toArray) free := ru_U (x := ⟨"HoldMaps$Table", "entryAt", "(I)LHoldMaps$Entry;"⟩) (owner := "HoldMaps$Table") S hB K E P hS hM he rfl wd_426 wd_428 (va_Decl.abs (va_Nw.of rfl (S.2.2.2.2 _ wd_427))) wd_437 wd_456 wd_438 wd_4 ⟨by decide +kernel, by decide +kernel, by rw [hA]; decide +kernel⟩ (by decide) hk hc1 hs1 hsize hst hW hdg
theorem cv_Ta_9_So (S : CallFix p m c cc nL s args tbl "HoldMaps$Table") (hB : so_B tbl s0 D vcl tys) (K : va_K D vcl tys s) (E : so_Kn s0 s) (P : so_P D vcl s0.heap.size σ H) (hS : va_S (so_A s0.heap.size) s.heap H locs) (he : σ o = some (tg, .inr (5, fs))) (hM : Met l y_Ro_entryAt [.code y_Ro_entryAt b_Ro_entryAt 2 (some (.object "HoldMaps$Entry"))] (so_rm k1 mc ms) (va_Pc (.ref o :: As) (so_Pre s0 D vcl σ)) Qc mc ms free) (hA : As.length = 1) (hk : k1 < k) (hc1 : cells + mc ≤ mcR) (hs1 : slots + ms ≤ msR) (hsize : ls.size = nL) (hst : st0 = As.reverse ++ .ref o :: rest) (hW : (rest.map fun v => v.category).sum ≤ 8) (hdg : decode cc pc = .ok (.invokevirtual 9, 3)) : va_Run p l e (so_rm k mcR msR) s m args below meth c H locs cells slots mc ms (F0 m pc ls st0) rest (Qc (Value.ref o :: As).toArray) free := ru_U (x := ⟨"HoldMaps$Table", "entryAt", "(I)LHoldMaps$Entry;"⟩) (owner := "HoldMaps$Table") S hB K E P hS hM he rfl wd_426 wd_428 (va_Decl.abs (va_Nw.of rfl (S.2.2.2.2 _ wd_427))) wd_437 wd_455 wd_438 wd_4 ⟨by decide +kernel, by decide +kernel, by rw [hA]; decide +kernel⟩ (by decide) hk hc1 hs1 hsize hst hW hdg
theorem cv_Ta_9_Id (S : CallFix p m c cc nL s args tbl "HoldMaps$Table") (hB : so_B tbl s0 D vcl tys) (K : va_K D vcl tys s) (E : so_Kn s0 s) (P : so_P D vcl s0.heap.size σ H) (hS : va_S (so_A s0.heap.size) s.heap H locs) (he : σ o = some (tg, .inr (6, fs))) (hM : Met l y_Id_entryAt [.code y_Id_entryAt b_Id_entryAt 3 (some (.object "HoldMaps$Entry"))] (so_rm k1 mc ms) (va_Pc (.ref o :: As) (so_Pre s0 D vcl σ)) Qc mc ms free) (hA : As.length = 1) (hk : k1 < k) (hc1 : cells + mc ≤ mcR) (hs1 : slots + ms ≤ msR) (hsize : ls.size = nL) (hst : st0 = As.reverse ++ .ref o :: rest) (hW : (rest.map fun v => v.category).sum ≤ 8) (hdg : decode cc pc = .ok (.invokevirtual 9, 3)) : va_Run p l e (so_rm k mcR msR) s m args below meth c H locs cells slots mc ms (F0 m pc ls st0) rest (Qc (Value.ref o :: As).toArray) free := ru_U (x := ⟨"HoldMaps$Table", "entryAt", "(I)LHoldMaps$Entry;"⟩) (owner := "HoldMaps$Table") S hB K E P hS hM he rfl wd_426 wd_428 (va_Decl.abs (va_Nw.of rfl (S.2.2.2.2 _ wd_427))) wd_430 wd_429 wd_431 wd_10 ⟨by decide +kernel, by decide +kernel, by rw [hA]; decide +kernel⟩ (by decide) hk hc1 hs1 hsize hst hW hdg
theorem cv_Ta_9_Pl (S : CallFix p m c cc nL s args tbl "HoldMaps$Table") (hB : so_B tbl s0 D vcl tys) (K : va_K D vcl tys s) (E : so_Kn s0 s) (P : so_P D vcl s0.heap.size σ H) (hS : va_S (so_A s0.heap.size) s.heap H locs) (he : σ o = some (tg, .inr (7, fs))) (hM : Met l y_Ro_entryAt [.code y_Ro_entryAt b_Ro_entryAt 2 (some (.object "HoldMaps$Entry"))] (so_rm k1 mc ms) (va_Pc (.ref o :: As) (so_Pre s0 D vcl σ)) Qc mc ms free) (hA : As.length = 1) (hk : k1 < k) (hc1 : cells + mc ≤ mcR) (hs1 : slots + ms ≤ msR) (hsize : ls.size = nL) (hst : st0 = As.reverse ++ .ref o :: rest) (hW : (rest.map fun v => v.category).sum ≤ 8) (hdg : decode cc pc = .ok (.invokevirtual 9, 3)) : va_Run p l e (so_rm k mcR msR) s m args below meth c H locs cells slots mc ms (F0 m pc ls st0) rest (Qc (Value.ref o :: As).toArray) free := ru_U (x := ⟨"HoldMaps$Table", "entryAt", "(I)LHoldMaps$Entry;"⟩) (owner := "HoldMaps$Table") S hB K E P hS hM he rfl wd_426 wd_428 (va_Decl.abs (va_Nw.of rfl (S.2.2.2.2 _ wd_427))) wd_437 wd_454 wd_438 wd_4 ⟨by decide +kernel, by decide +kernel, by rw [hA]; decide +kernel⟩ (by decide) hk hc1 hs1 hsize hst hW hdg
theorem cv_Ta_9_La (S : CallFix p m c cc nL s args tbl "HoldMaps$Table") (hB : so_B tbl s0 D vcl tys) (K : va_K D vcl tys s) (E : so_Kn s0 s) (P : so_P D vcl s0.heap.size σ H) (hS : va_S (so_A s0.heap.size) s.heap H locs) (he : σ o = some (tg, .inr (8, fs))) (hM : Met l y_Ro_entryAt [.code y_Ro_entryAt b_Ro_entryAt 2 (some (.object "HoldMaps$Entry"))] (so_rm k1 mc ms) (va_Pc (.ref o :: As) (so_Pre s0 D vcl σ)) Qc mc ms free) (hA : As.length = 1) (hk : k1 < k) (hc1 : cells + mc ≤ mcR) (hs1 : slots + ms ≤ msR) (hsize : ls.size = nL) (hst : st0 = As.reverse ++ .ref o :: rest) (hW : (rest.map fun v => v.category).sum ≤ 8) (hdg : decode cc pc = .ok (.invokevirtual 9, 3)) : va_Run p l e (so_rm k mcR msR) s m args below meth c H locs cells slots mc ms (F0 m pc ls st0) rest (Qc (Value.ref o :: As).toArray) free := ru_U (x := ⟨"HoldMaps$Table", "entryAt", "(I)LHoldMaps$Entry;"⟩) (owner := "HoldMaps$Table") S hB K E P hS hM he rfl wd_426 wd_428 (va_Decl.abs (va_Nw.of rfl (S.2.2.2.2 _ wd_427))) wd_437 wd_436 wd_438 wd_4 ⟨by decide +kernel, by decide +kernel, by rw [hA]; decide +kernel⟩ (by decide) hk hc1 hs1 hsize hst hW hdg
theorem gf_Ta_28_En (S : CallFix p m c cc nL s args tbl "HoldMaps$Table") (K : va_K D vcl tys s) (P : so_P D vcl N0 σ H) (he : σ a = some (tg, .inr (3, fs))) (hv : fs[1]? = some v) (hdg : decode cc pc = .ok (.getfield 28, 3)) (kk : W p l e R s m args below meth c H locs cells slots Q (F0 m (pc + 3) ls (v :: rest))) : W p l e R s m args below meth c H locs cells slots Q (F0 m pc ls (.ref a :: rest)) := so_get S K P (T := F_En) (N := 4) i_En he rfl 1 (by decide) (S.2.2.2.2 _ wd_504) (fun _ h => h) hv hdg kk
theorem cv_Id_21_Id (S : CallFix p m c cc nL s args tbl "HoldMaps$IdentityMap") (hB : so_B tbl s0 D vcl tys) (K : va_K D vcl tys s) (E : so_Kn s0 s) (P : so_P D vcl s0.heap.size σ H) (hS : va_S (so_A s0.heap.size) s.heap H locs) (he : σ o = some (tg, .inr (6, fs))) (hM : Met l y_Id_slotOf [.code y_Id_slotOf b_Id_slotOf 4 (some .int)] (so_rm k1 mc ms) (va_Pc (.ref o :: As) (so_Pre s0 D vcl σ)) Qc mc ms free) (hA : As.length = 1) (hk : k1 < k) (hc1 : cells + mc ≤ mcR) (hs1 : slots + ms ≤ msR) (hsize : ls.size = nL) (hst : st0 = As.reverse ++ .ref o :: rest) (hW : (rest.map fun v => v.category).sum ≤ 8) (hdg : decode cc pc = .ok (.invokevirtual 21, 3)) : va_Run p l e (so_rm k mcR msR) s m args below meth c H locs cells slots mc ms (F0 m pc ls st0) rest (Qc (Value.ref o :: As).toArray) free := ru_V S hB K E P hS hM he rfl wd_432 wd_434 (tbl_sel (q := (y_Id_slotOf, 5)) (List.mem_of_getElem? (i := 2) rfl)) wd_435 wd_10 ⟨by decide +kernel, by decide +kernel, by rw [hA]; decide +kernel⟩ (by decide) hk hc1 hs1 hsize hst hW hdg
theorem gf_Id_11_Id (S : CallFix p m c cc nL s args tbl "HoldMaps$IdentityMap") (K : va_K D vcl tys s) (P : so_P D vcl N0 σ H) (he : σ a = some (tg, .inr (6, fs))) (hv : fs[3]? = some v) (hdg : decode cc pc = .ok (.getfield 11, 3)) (kk : W p l e R s m args below meth c H locs cells slots Q (F0 m (pc + 3) ls (v :: rest))) : W p l e R s m args below meth c H locs cells slots Q (F0 m pc ls (.ref a :: rest)) := so_get S K P (T := F_Id) (N := 5) i_Id he rfl 3 (by decide) (S.2.2.2.2 _ wd_161) (fun _ h => h) hv hdg kk
theorem cv_Ro_20_AL (S : CallFix p m c cc nL s args tbl "HoldMaps$Row") (hB : so_B tbl s0 D vcl tys) (K : va_K D vcl tys s) (E : so_Kn s0 s) (P : so_P D vcl s0.heap.size σ H) (hS : va_S (so_A s0.heap.size) s.heap H locs) (he : σ o = some (tg, .inr (9, fs))) (hM : Met l y_AL_get [.code y_AL_get b_AL_get 2 (some (.object "java/lang/Object"))] (so_rm k1 mc ms) (va_Pc (.ref o :: As) (so_Pre s0 D vcl σ)) Qc mc ms free) (hA : As.length = 1) (hk : k1 < k) (hc1 : cells + mc ≤ mcR) (hs1 : slots + ms ≤ msR) (hsize : ls.size = nL) (hst : st0 = As.reverse ++ .ref o :: rest) (hW : (rest.map fun v => v.category).sum ≤ 8) (hdg : decode cc pc = .ok (.invokevirtual 20, 3)) : va_Run p l e (so_rm k mcR msR) s m args below meth c H locs cells slots mc ms (F0 m pc ls st0) rest (Qc (Value.ref o :: As).toArray) free := ru_V S hB K E P hS hM he rfl wd_439 wd_440 wd_441 wd_442 wd_8 ⟨by decide +kernel, by decide +kernel, by rw [hA]; decide +kernel⟩ (by decide) hk hc1 hs1 hsize hst hW hdg
theorem cs_AL_118 (S : CallFix p m c cc nL s args tbl "java/util/ArrayList") (hB : so_B tbl s0 D vcl tys) (E : so_Kn s0 s) (P : so_P D vcl s0.heap.size σ H) (hS : va_S (so_A s0.heap.size) s.heap H locs) (hM : Met l y_Os_checkIndex [.code y_Os_checkIndex b_Os_checkIndex 2 (some .int)] (so_rm k1 mc ms) (va_Pc As (so_Pre s0 D vcl σ)) Qc mc ms free) (hA : As.length = 2) (hk : k1 < k) (hc1 : cells + mc ≤ mcR) (hs1 : slots + ms ≤ msR) (hsize : ls.size = nL) (hst : st0 = As.reverse ++ rest) (hW : (rest.map fun v => v.category).sum ≤ 8) (hdg : decode cc pc = .ok (.invokestatic 118, 3)) : va_Run p l e (so_rm k mcR msR) s m args below meth c H locs cells slots mc ms (F0 m pc ls st0) rest (Qc As.toArray) free := ru_S S hB E P hS hM wd_443 wd_444 wd_445 wd_20 ⟨by decide +kernel, by decide +kernel, by rw [hA]; decide +kernel⟩ (by decide) hk hc1 hs1 hsize hst hW hdg
theorem cv_AL_123_AL (S : CallFix p m c cc nL s args tbl "java/util/ArrayList") (hB : so_B tbl s0 D vcl tys) (K : va_K D vcl tys s) (E : so_Kn s0 s) (P : so_P D vcl s0.heap.size σ H) (hS : va_S (so_A s0.heap.size) s.heap H locs) (he : σ o = some (tg, .inr (9, fs))) (hM : Met l y_AL_elementData [.code y_AL_elementData b_AL_elementData 2 (some (.object "java/lang/Object"))] (so_rm k1 mc ms) (va_Pc (.ref o :: As) (so_Pre s0 D vcl σ)) Qc mc ms free) (hA : As.length = 1) (hk : k1 < k) (hc1 : cells + mc ≤ mcR) (hs1 : slots + ms ≤ msR) (hsize : ls.size = nL) (hst : st0 = As.reverse ++ .ref o :: rest) (hW : (rest.map fun v => v.category).sum ≤ 8) (hdg : decode cc pc = .ok (.invokevirtual 123, 3)) : va_Run p l e (so_rm k mcR msR) s m args below meth c H locs cells slots mc ms (F0 m pc ls st0) rest (Qc (Value.ref o :: As).toArray) free := ru_V S hB K E P hS hM he rfl wd_449 wd_450 wd_451 wd_452 wd_8 ⟨by decide +kernel, by decide +kernel, by rw [hA]; decide +kernel⟩ (by decide) hk hc1 hs1 hsize hst hW hdg
theorem cs_Os_105 (S : CallFix p m c cc nL s args tbl "java/util/Objects") (hB : so_B tbl s0 D vcl tys) (E : so_Kn s0 s) (P : so_P D vcl s0.heap.size σ H) (hS : va_S (so_A s0.heap.size) s.heap H locs) (hM : Met l y_Pr_checkIndex [.code y_Pr_checkIndex b_Pr_checkIndex 3 (some .int)] (so_rm k1 mc ms) (va_Pc As (so_Pre s0 D vcl σ)) Qc mc ms free) (hA : As.length = 3) (hk : k1 < k) (hc1 : cells + mc ≤ mcR) (hs1 : slots + ms ≤ msR) (hsize : ls.size = nL) (hst : st0 = As.reverse ++ rest) (hW : (rest.map fun v => v.category).sum ≤ 8) (hdg : decode cc pc = .ok (.invokestatic 105, 3)) : va_Run p l e (so_rm k mcR msR) s m args below meth c H locs cells slots mc ms (F0 m pc ls st0) rest (Qc As.toArray) free := ru_S S hB E P hS hM wd_446 wd_447 wd_448 wd_21 ⟨by decide +kernel, by decide +kernel, by rw [hA]; decide +kernel⟩ (by decide) hk hc1 hs1 hsize hst hW hdg
theorem gf_AL_9_AL (S : CallFix p m c cc nL s args tbl "java/util/ArrayList") (K : va_K D vcl tys s) (P : so_P D vcl N0 σ H) (he : σ a = some (tg, .inr (9, fs))) (hv : fs[1]? = some v) (hdg : decode cc pc = .ok (.getfield 9, 3)) (kk : W p l e R s m args below meth c H locs cells slots Q (F0 m (pc + 3) ls (v :: rest))) : W p l e R s m args below meth c H locs cells slots Q (F0 m pc ls (.ref a :: rest)) := so_get S K P (T := F_AL) (N := 3) i_AL he rfl 1 (by decide) (S.2.2.2.2 _ wd_86) (fun _ h => h) hv hdg kk
theorem gf_So_9_So (S : CallFix p m c cc nL s args tbl "HoldMaps$SoftMap") (K : va_K D vcl tys s) (P : so_P D vcl N0 σ H) (he : σ a = some (tg, .inr (5, fs))) (hv : fs[4]? = some v) (hdg : decode cc pc = .ok (.getfield 9, 3)) (kk : W p l e R s m args below meth c H locs cells slots Q (F0 m (pc + 3) ls (v :: rest))) : W p l e R s m args below meth c H locs cells slots Q (F0 m pc ls (.ref a :: rest)) := so_get S K P (T := F_So) (N := 5) i_So he rfl 4 (by decide) (S.2.2.2.2 _ wd_142) (fun _ h => h) hv hdg kk
theorem pf_So_9_So (S : CallFix p m c cc nL s args tbl "HoldMaps$SoftMap") (K : va_K D vcl tys s) (P : so_P D vcl N0 σ H) (hS : va_S (so_A N0) H0 H locs) (he : σ a = some (tg, .inr (5, fs))) (hl : 4 < fs.length) (hn : narrow (.int) v = v) (hf : fits (.int) v = true) (hdg : decode cc pc = .ok (.putfield 9, 3)) (kk : ∀ (H1 : Heap) (locs1 : List Loc), so_P D vcl N0 (so_up σ a (tg, .inr (5, fs.set 4 v))) H1 → va_S (so_A N0) H0 H1 locs1 → W p l e R s m args below meth c H1 locs1 cells slots Q (F0 m (pc + 3) ls rest)) : W p l e R s m args below meth c H locs cells slots Q (F0 m pc ls (v :: .ref a :: rest)) := so_put S K P hS (T := F_So) (N := 5) i_So t_So t_So_ok n_So he rfl 4 (by decide) (S.2.2.2.2 _ wd_142) (fun _ h => h) rfl (by decide +kernel) hn hf hl hdg kk
theorem pf_En_7_En (S : CallFix p m c cc nL s args tbl "HoldMaps$Entry") (K : va_K D vcl tys s) (P : so_P D vcl N0 σ H) (hS : va_S (so_A N0) H0 H locs) (hin2 : meth.name = "<init>") (he : σ a = some (tg, .inr (3, fs))) (hl : 0 < fs.length) (hn : narrow (.int) v = v) (hf : fits (.int) v = true) (hdg : decode cc pc = .ok (.putfield 7, 3)) (kk : ∀ (H1 : Heap) (locs1 : List Loc), so_P D vcl N0 (so_up σ a (tg, .inr (3, fs.set 0 v))) H1 → va_S (so_A N0) H0 H1 locs1 → W p l e R s m args below meth c H1 locs1 cells slots Q (F0 m (pc + 3) ls rest)) : W p l e R s m args below meth c H locs cells slots Q (F0 m pc ls (v :: .ref a :: rest)) := so_putF S K P hS (T := F_En) (N := 4) i_En t_En t_En_ok n_En he rfl 0 (by decide) (S.2.2.2.2 _ wd_498) (fun _ h => h) rfl hin2 rfl (by decide +kernel) hn hf hl hdg kk
theorem pf_En_13_En (S : CallFix p m c cc nL s args tbl "HoldMaps$Entry") (K : va_K D vcl tys s) (P : so_P D vcl N0 σ H) (hS : va_S (so_A N0) H0 H locs) (hin2 : meth.name = "<init>") (he : σ a = some (tg, .inr (3, fs))) (hl : 1 < fs.length) (hn : narrow (.int) v = v) (hf : fits (.int) v = true) (hdg : decode cc pc = .ok (.putfield 13, 3)) (kk : ∀ (H1 : Heap) (locs1 : List Loc), so_P D vcl N0 (so_up σ a (tg, .inr (3, fs.set 1 v))) H1 → va_S (so_A N0) H0 H1 locs1 → W p l e R s m args below meth c H1 locs1 cells slots Q (F0 m (pc + 3) ls rest)) : W p l e R s m args below meth c H locs cells slots Q (F0 m pc ls (v :: .ref a :: rest)) := so_putF S K P hS (T := F_En) (N := 4) i_En t_En t_En_ok n_En he rfl 1 (by decide) (S.2.2.2.2 _ wd_502) (fun _ h => h) rfl hin2 rfl (by decide +kernel) hn hf hl hdg kk
theorem pf_En_16_En (S : CallFix p m c cc nL s args tbl "HoldMaps$Entry") (K : va_K D vcl tys s) (P : so_P D vcl N0 σ H) (hS : va_S (so_A N0) H0 H locs) (he : σ a = some (tg, .inr (3, fs))) (hl : 2 < fs.length) (hn : narrow (.int) v = v) (hf : fits (.int) v = true) (hdg : decode cc pc = .ok (.putfield 16, 3)) (kk : ∀ (H1 : Heap) (locs1 : List Loc), so_P D vcl N0 (so_up σ a (tg, .inr (3, fs.set 2 v))) H1 → va_S (so_A N0) H0 H1 locs1 → W p l e R s m args below meth c H1 locs1 cells slots Q (F0 m (pc + 3) ls rest)) : W p l e R s m args below meth c H locs cells slots Q (F0 m pc ls (v :: .ref a :: rest)) := so_put S K P hS (T := F_En) (N := 4) i_En t_En t_En_ok n_En he rfl 2 (by decide) (S.2.2.2.2 _ wd_505) (fun _ h => h) rfl (by decide +kernel) hn hf hl hdg kk
theorem cs_Id_25 (S : CallFix p m c cc nL s args tbl "HoldMaps$IdentityMap") (hB : so_B tbl s0 D vcl tys) (E : so_Kn s0 s) (P : so_P D vcl s0.heap.size σ H) (hS : va_S (so_A s0.heap.size) s.heap H locs) (hM : Met l y_Id_firstSlot [.code y_Id_firstSlot b_Id_firstSlot 1 (some .int)] (so_rm k1 mc ms) (va_Pc As (so_Pre s0 D vcl σ)) Qc mc ms free) (hA : As.length = 1) (hk : k1 < k) (hc1 : cells + mc ≤ mcR) (hs1 : slots + ms ≤ msR) (hsize : ls.size = nL) (hst : st0 = As.reverse ++ rest) (hW : (rest.map fun v => v.category).sum ≤ 8) (hdg : decode cc pc = .ok (.invokestatic 25, 3)) : va_Run p l e (so_rm k mcR msR) s m args below meth c H locs cells slots mc ms (F0 m pc ls st0) rest (Qc As.toArray) free := ru_S S hB E P hS hM wd_525 wd_526 wd_527 wd_10 ⟨by decide +kernel, by decide +kernel, by rw [hA]; decide +kernel⟩ (by decide) hk hc1 hs1 hsize hst hW hdg
theorem pf_Id_17_Id (S : CallFix p m c cc nL s args tbl "HoldMaps$IdentityMap") (K : va_K D vcl tys s) (P : so_P D vcl N0 σ H) (hS : va_S (so_A N0) H0 H locs) (he : σ a = some (tg, .inr (6, fs))) (hl : 4 < fs.length) (hn : narrow (.int) v = v) (hf : fits (.int) v = true) (hdg : decode cc pc = .ok (.putfield 17, 3)) (kk : ∀ (H1 : Heap) (locs1 : List Loc), so_P D vcl N0 (so_up σ a (tg, .inr (6, fs.set 4 v))) H1 → va_S (so_A N0) H0 H1 locs1 → W p l e R s m args below meth c H1 locs1 cells slots Q (F0 m (pc + 3) ls rest)) : W p l e R s m args below meth c H locs cells slots Q (F0 m pc ls (v :: .ref a :: rest)) := so_put S K P hS (T := F_Id) (N := 5) i_Id t_Id t_Id_ok n_Id he rfl 4 (by decide) (S.2.2.2.2 _ wd_162) (fun _ h => h) rfl (by decide +kernel) hn hf hl hdg kk
theorem pf_Id_29_Id (S : CallFix p m c cc nL s args tbl "HoldMaps$IdentityMap") (K : va_K D vcl tys s) (P : so_P D vcl N0 σ H) (hS : va_S (so_A N0) H0 H locs) (he : σ a = some (tg, .inr (6, fs))) (hl : 1 < fs.length) (hn : narrow (.boolean) v = v) (hf : fits (.boolean) v = true) (hdg : decode cc pc = .ok (.putfield 29, 3)) (kk : ∀ (H1 : Heap) (locs1 : List Loc), so_P D vcl N0 (so_up σ a (tg, .inr (6, fs.set 1 v))) H1 → va_S (so_A N0) H0 H1 locs1 → W p l e R s m args below meth c H1 locs1 cells slots Q (F0 m (pc + 3) ls rest)) : W p l e R s m args below meth c H locs cells slots Q (F0 m pc ls (v :: .ref a :: rest)) := so_put S K P hS (T := F_Id) (N := 5) i_Id t_Id t_Id_ok n_Id he rfl 1 (by decide) (S.2.2.2.2 _ wd_119) (fun x h => u_same (S.2.2.2.2 _ wd_120) x h) rfl (by decide +kernel) hn hf hl hdg kk
theorem gf_Id_37_En (S : CallFix p m c cc nL s args tbl "HoldMaps$IdentityMap") (K : va_K D vcl tys s) (P : so_P D vcl N0 σ H) (he : σ a = some (tg, .inr (3, fs))) (hv : fs[0]? = some v) (hdg : decode cc pc = .ok (.getfield 37, 3)) (kk : W p l e R s m args below meth c H locs cells slots Q (F0 m (pc + 3) ls (v :: rest))) : W p l e R s m args below meth c H locs cells slots Q (F0 m pc ls (.ref a :: rest)) := so_get S K P (T := F_En) (N := 4) i_En he rfl 0 (by decide) (S.2.2.2.2 _ wd_501) (fun _ h => h) hv hdg kk
theorem cv_La_9_La (S : CallFix p m c cc nL s args tbl "HoldMaps$LatestMap") (hB : so_B tbl s0 D vcl tys) (K : va_K D vcl tys s) (E : so_Kn s0 s) (P : so_P D vcl s0.heap.size σ H) (hS : va_S (so_A s0.heap.size) s.heap H locs) (he : σ o = some (tg, .inr (8, fs))) (hM : Met l y_Ro_append [.code y_Ro_append b_Ro_append 2 none] (so_rm k1 mc ms) (va_Pc (.ref o :: As) (so_Pre s0 D vcl σ)) Qc mc ms free) (hA : As.length = 1) (hk : k1 < k) (hc1 : cells + mc ≤ mcR) (hs1 : slots + ms ≤ msR) (hsize : ls.size = nL) (hst : st0 = As.reverse ++ .ref o :: rest) (hW : (rest.map fun v => v.category).sum ≤ 8) (hdg : decode cc pc = .ok (.invokevirtual 9, 3)) : va_Run p l e (so_rm k mcR msR) s m args below meth c H locs cells slots mc ms (F0 m pc ls st0) rest (Qc (Value.ref o :: As).toArray) free := ru_U (x := ⟨"HoldMaps$LatestMap", "append", "(LHoldMaps$Entry;)V"⟩) (owner := "HoldMaps$Row") S hB K E P hS hM he rfl wd_531 wd_532 (va_Decl.abs (va_Nw.of rfl (S.2.2.2.2 _ wd_533))) wd_535 wd_534 wd_536 wd_4 ⟨by decide +kernel, by decide +kernel, by rw [hA]; decide +kernel⟩ (by decide) hk hc1 hs1 hsize hst hW hdg
theorem gf_La_15_La (S : CallFix p m c cc nL s args tbl "HoldMaps$LatestMap") (K : va_K D vcl tys s) (P : so_P D vcl N0 σ H) (he : σ a = some (tg, .inr (8, fs))) (hv : fs[3]? = some v) (hdg : decode cc pc = .ok (.getfield 15, 3)) (kk : W p l e R s m args below meth c H locs cells slots Q (F0 m (pc + 3) ls (v :: rest))) : W p l e R s m args below meth c H locs cells slots Q (F0 m pc ls (.ref a :: rest)) := so_get S K P (T := F_La) (N := 4) i_La he rfl 3 (by decide) (S.2.2.2.2 _ wd_106) (fun x h => u_same (S.2.2.2.2 _ wd_107) x h) hv hdg kk
theorem cv_La_19_AL (S : CallFix p m c cc nL s args tbl "HoldMaps$LatestMap") (hB : so_B tbl s0 D vcl tys) (K : va_K D vcl tys s) (E : so_Kn s0 s) (P : so_P D vcl s0.heap.size σ H) (hS : va_S (so_A s0.heap.size) s.heap H locs) (he : σ o = some (tg, .inr (9, fs))) (hM : Met l y_AL_size [.code y_AL_size b_AL_size 1 (some .int)] (so_rm k1 mc ms) (va_Pc (.ref o :: As) (so_Pre s0 D vcl σ)) Qc mc ms free) (hA : As.length = 0) (hk : k1 < k) (hc1 : cells + mc ≤ mcR) (hs1 : slots + ms ≤ msR) (hsize : ls.size = nL) (hst : st0 = As.reverse ++ .ref o :: rest) (hW : (rest.map fun v => v.category).sum ≤ 8) (hdg : decode cc pc = .ok (.invokevirtual 19, 3)) : va_Run p l e (so_rm k mcR msR) s m args below meth c H locs cells slots mc ms (F0 m pc ls st0) rest (Qc (Value.ref o :: As).toArray) free := ru_V S hB K E P hS hM he rfl wd_598 wd_223 wd_224 wd_225 wd_8 ⟨by decide +kernel, by decide +kernel, by rw [hA]; decide +kernel⟩ (by decide) hk hc1 hs1 hsize hst hW hdg
theorem cv_La_25_La (S : CallFix p m c cc nL s args tbl "HoldMaps$LatestMap") (hB : so_B tbl s0 D vcl tys) (K : va_K D vcl tys s) (E : so_Kn s0 s) (P : so_P D vcl s0.heap.size σ H) (hS : va_S (so_A s0.heap.size) s.heap H locs) (he : σ o = some (tg, .inr (8, fs))) (hM : Met l y_Ro_dropAt [.code y_Ro_dropAt b_Ro_dropAt 2 none] (so_rm k1 mc ms) (va_Pc (.ref o :: As) (so_Pre s0 D vcl σ)) Qc mc ms free) (hA : As.length = 1) (hk : k1 < k) (hc1 : cells + mc ≤ mcR) (hs1 : slots + ms ≤ msR) (hsize : ls.size = nL) (hst : st0 = As.reverse ++ .ref o :: rest) (hW : (rest.map fun v => v.category).sum ≤ 8) (hdg : decode cc pc = .ok (.invokevirtual 25, 3)) : va_Run p l e (so_rm k mcR msR) s m args below meth c H locs cells slots mc ms (F0 m pc ls st0) rest (Qc (Value.ref o :: As).toArray) free := ru_U (x := ⟨"HoldMaps$LatestMap", "dropAt", "(I)V"⟩) (owner := "HoldMaps$Row") S hB K E P hS hM he rfl wd_599 wd_600 (va_Decl.abs (va_Nw.of rfl (S.2.2.2.2 _ wd_601))) wd_603 wd_602 wd_604 wd_4 ⟨by decide +kernel, by decide +kernel, by rw [hA]; decide +kernel⟩ (by decide) hk hc1 hs1 hsize hst hW hdg
theorem cv_Ro_33_AL (S : CallFix p m c cc nL s args tbl "HoldMaps$Row") (hB : so_B tbl s0 D vcl tys) (K : va_K D vcl tys s) (E : so_Kn s0 s) (P : so_P D vcl s0.heap.size σ H) (hS : va_S (so_A s0.heap.size) s.heap H locs) (he : σ o = some (tg, .inr (9, fs))) (hM : Met l y_AL_add [.code y_AL_add b_AL_add 2 (some .boolean)] (so_rm k1 mc ms) (va_Pc (.ref o :: As) (so_Pre s0 D vcl σ)) Qc mc ms free) (hA : As.length = 1) (hk : k1 < k) (hc1 : cells + mc ≤ mcR) (hs1 : slots + ms ≤ msR) (hsize : ls.size = nL) (hst : st0 = As.reverse ++ .ref o :: rest) (hW : (rest.map fun v => v.category).sum ≤ 8) (hdg : decode cc pc = .ok (.invokevirtual 33, 3)) : va_Run p l e (so_rm k mcR msR) s m args below meth c H locs cells slots mc ms (F0 m pc ls st0) rest (Qc (Value.ref o :: As).toArray) free := ru_V S hB K E P hS hM he rfl wd_537 wd_538 wd_539 wd_540 wd_8 ⟨by decide +kernel, by decide +kernel, by rw [hA]; decide +kernel⟩ (by decide) hk hc1 hs1 hsize hst hW hdg
theorem pf_Ro_29_We (S : CallFix p m c cc nL s args tbl "HoldMaps$Row") (K : va_K D vcl tys s) (P : so_P D vcl N0 σ H) (hS : va_S (so_A N0) H0 H locs) (he : σ a = some (tg, .inr (4, fs))) (hl : 1 < fs.length) (hn : narrow (.boolean) v = v) (hf : fits (.boolean) v = true) (hdg : decode cc pc = .ok (.putfield 29, 3)) (kk : ∀ (H1 : Heap) (locs1 : List Loc), so_P D vcl N0 (so_up σ a (tg, .inr (4, fs.set 1 v))) H1 → va_S (so_A N0) H0 H1 locs1 → W p l e R s m args below meth c H1 locs1 cells slots Q (F0 m (pc + 3) ls rest)) : W p l e R s m args below meth c H locs cells slots Q (F0 m pc ls (v :: .ref a :: rest)) := so_put S K P hS (T := F_We) (N := 6) i_We t_We t_We_ok n_We he rfl 1 (by decide) (S.2.2.2.2 _ wd_117) (fun x h => u_same (S.2.2.2.2 _ wd_118) x h) rfl (by decide +kernel) hn hf hl hdg kk
theorem pf_Ro_29_So (S : CallFix p m c cc nL s args tbl "HoldMaps$Row") (K : va_K D vcl tys s) (P : so_P D vcl N0 σ H) (hS : va_S (so_A N0) H0 H locs) (he : σ a = some (tg, .inr (5, fs))) (hl : 1 < fs.length) (hn : narrow (.boolean) v = v) (hf : fits (.boolean) v = true) (hdg : decode cc pc = .ok (.putfield 29, 3)) (kk : ∀ (H1 : Heap) (locs1 : List Loc), so_P D vcl N0 (so_up σ a (tg, .inr (5, fs.set 1 v))) H1 → va_S (so_A N0) H0 H1 locs1 → W p l e R s m args below meth c H1 locs1 cells slots Q (F0 m (pc + 3) ls rest)) : W p l e R s m args below meth c H locs cells slots Q (F0 m pc ls (v :: .ref a :: rest)) := so_put S K P hS (T := F_So) (N := 5) i_So t_So t_So_ok n_So he rfl 1 (by decide) (S.2.2.2.2 _ wd_117) (fun x h => u_same (S.2.2.2.2 _ wd_118) x h) rfl (by decide +kernel) hn hf hl hdg kk
theorem pf_Ro_29_Pl (S : CallFix p m c cc nL s args tbl "HoldMaps$Row") (K : va_K D vcl tys s) (P : so_P D vcl N0 σ H) (hS : va_S (so_A N0) H0 H locs) (he : σ a = some (tg, .inr (7, fs))) (hl : 1 < fs.length) (hn : narrow (.boolean) v = v) (hf : fits (.boolean) v = true) (hdg : decode cc pc = .ok (.putfield 29, 3)) (kk : ∀ (H1 : Heap) (locs1 : List Loc), so_P D vcl N0 (so_up σ a (tg, .inr (7, fs.set 1 v))) H1 → va_S (so_A N0) H0 H1 locs1 → W p l e R s m args below meth c H1 locs1 cells slots Q (F0 m (pc + 3) ls rest)) : W p l e R s m args below meth c H locs cells slots Q (F0 m pc ls (v :: .ref a :: rest)) := so_put S K P hS (T := F_Pl) (N := 4) i_Pl t_Pl t_Pl_ok n_Pl he rfl 1 (by decide) (S.2.2.2.2 _ wd_117) (fun x h => u_same (S.2.2.2.2 _ wd_118) x h) rfl (by decide +kernel) hn hf hl hdg kk
theorem pf_Ro_29_La (S : CallFix p m c cc nL s args tbl "HoldMaps$Row") (K : va_K D vcl tys s) (P : so_P D vcl N0 σ H) (hS : va_S (so_A N0) H0 H locs) (he : σ a = some (tg, .inr (8, fs))) (hl : 1 < fs.length) (hn : narrow (.boolean) v = v) (hf : fits (.boolean) v = true) (hdg : decode cc pc = .ok (.putfield 29, 3)) (kk : ∀ (H1 : Heap) (locs1 : List Loc), so_P D vcl N0 (so_up σ a (tg, .inr (8, fs.set 1 v))) H1 → va_S (so_A N0) H0 H1 locs1 → W p l e R s m args below meth c H1 locs1 cells slots Q (F0 m (pc + 3) ls rest)) : W p l e R s m args below meth c H locs cells slots Q (F0 m pc ls (v :: .ref a :: rest)) := so_put S K P hS (T := F_La) (N := 4) i_La t_La t_La_ok n_La he rfl 1 (by decide) (S.2.2.2.2 _ wd_117) (fun x h => u_same (S.2.2.2.2 _ wd_118) x h) rfl (by decide +kernel) hn hf hl hdg kk
theorem gf_AL_63_AL (S : CallFix p m c cc nL s args tbl "java/util/ArrayList") (K : va_K D vcl tys s) (P : so_P D vcl N0 σ H) (he : σ a = some (tg, .inr (9, fs))) (hv : fs[0]? = some v) (hdg : decode cc pc = .ok (.getfield 63, 3)) (kk : W p l e R s m args below meth c H locs cells slots Q (F0 m (pc + 3) ls (v :: rest))) : W p l e R s m args below meth c H locs cells slots Q (F0 m pc ls (.ref a :: rest)) := so_get S K P (T := F_AL) (N := 3) i_AL he rfl 0 (by decide) (S.2.2.2.2 _ wd_89) (fun x h => u_same (S.2.2.2.2 _ wd_90) x h) hv hdg kk
theorem pf_AL_63_AL (S : CallFix p m c cc nL s args tbl "java/util/ArrayList") (K : va_K D vcl tys s) (P : so_P D vcl N0 σ H) (hS : va_S (so_A N0) H0 H locs) (he : σ a = some (tg, .inr (9, fs))) (hl : 0 < fs.length) (hn : narrow (.int) v = v) (hf : fits (.int) v = true) (hdg : decode cc pc = .ok (.putfield 63, 3)) (kk : ∀ (H1 : Heap) (locs1 : List Loc), so_P D vcl N0 (so_up σ a (tg, .inr (9, fs.set 0 v))) H1 → va_S (so_A N0) H0 H1 locs1 → W p l e R s m args below meth c H1 locs1 cells slots Q (F0 m (pc + 3) ls rest)) : W p l e R s m args below meth c H locs cells slots Q (F0 m pc ls (v :: .ref a :: rest)) := so_put S K P hS (T := F_AL) (N := 3) i_AL t_AL t_AL_ok n_AL he rfl 0 (by decide) (S.2.2.2.2 _ wd_89) (fun x h => u_same (S.2.2.2.2 _ wd_90) x h) rfl (by decide +kernel) hn hf hl hdg kk
theorem cv_AL_131_AL (S : CallFix p m c cc nL s args tbl "java/util/ArrayList") (hB : so_B tbl s0 D vcl tys) (K : va_K D vcl tys s) (E : so_Kn s0 s) (P : so_P D vcl s0.heap.size σ H) (hS : va_S (so_A s0.heap.size) s.heap H locs) (he : σ o = some (tg, .inr (9, fs))) (hM : Met l y_AL_add2 [.code y_AL_add2 b_AL_add2 4 none] (so_rm k1 mc ms) (va_Pc (.ref o :: As) (so_Pre s0 D vcl σ)) Qc mc ms free) (hA : As.length = 3) (hk : k1 < k) (hc1 : cells + mc ≤ mcR) (hs1 : slots + ms ≤ msR) (hsize : ls.size = nL) (hst : st0 = As.reverse ++ .ref o :: rest) (hW : (rest.map fun v => v.category).sum ≤ 8) (hdg : decode cc pc = .ok (.invokevirtual 131, 3)) : va_Run p l e (so_rm k mcR msR) s m args below meth c H locs cells slots mc ms (F0 m pc ls st0) rest (Qc (Value.ref o :: As).toArray) free := ru_V S hB K E P hS hM he rfl wd_541 wd_543 (tbl_sel (q := (y_AL_add2, 3)) (List.mem_of_getElem? (i := 3) rfl)) wd_544 wd_8 ⟨by decide +kernel, by decide +kernel, by rw [hA]; decide +kernel⟩ (by decide) hk hc1 hs1 hsize hst hW hdg
theorem cv_AL_129_AL (S : CallFix p m c cc nL s args tbl "java/util/ArrayList") (hB : so_B tbl s0 D vcl tys) (K : va_K D vcl tys s) (E : so_Kn s0 s) (P : so_P D vcl s0.heap.size σ H) (hS : va_S (so_A s0.heap.size) s.heap H locs) (he : σ o = some (tg, .inr (9, fs))) (hM : Met l y_AL_grow [.code y_AL_grow b_AL_grow 1 (some (.array (.object "java/lang/Object")))] (so_rm k1 mc ms) (va_Pc (.ref o :: As) (so_Pre s0 D vcl σ)) Qc mc ms free) (hA : As.length = 0) (hk : k1 < k) (hc1 : cells + mc ≤ mcR) (hs1 : slots + ms ≤ msR) (hsize : ls.size = nL) (hst : st0 = As.reverse ++ .ref o :: rest) (hW : (rest.map fun v => v.category).sum ≤ 8) (hdg : decode cc pc = .ok (.invokevirtual 129, 3)) : va_Run p l e (so_rm k mcR msR) s m args below meth c H locs cells slots mc ms (F0 m pc ls st0) rest (Qc (Value.ref o :: As).toArray) free := ru_V S hB K E P hS hM he rfl wd_545 wd_547 (tbl_sel (q := (y_AL_grow, 3)) (List.mem_of_getElem? (i := 4) rfl)) wd_548 wd_8 ⟨by decide +kernel, by decide +kernel, by rw [hA]; decide +kernel⟩ (by decide) hk hc1 hs1 hsize hst hW hdg
theorem pf_AL_48_AL (S : CallFix p m c cc nL s args tbl "java/util/ArrayList") (K : va_K D vcl tys s) (P : so_P D vcl N0 σ H) (hS : va_S (so_A N0) H0 H locs) (he : σ a = some (tg, .inr (9, fs))) (hl : 2 < fs.length) (hn : narrow (.int) v = v) (hf : fits (.int) v = true) (hdg : decode cc pc = .ok (.putfield 48, 3)) (kk : ∀ (H1 : Heap) (locs1 : List Loc), so_P D vcl N0 (so_up σ a (tg, .inr (9, fs.set 2 v))) H1 → va_S (so_A N0) H0 H1 locs1 → W p l e R s m args below meth c H1 locs1 cells slots Q (F0 m (pc + 3) ls rest)) : W p l e R s m args below meth c H locs cells slots Q (F0 m pc ls (v :: .ref a :: rest)) := so_put S K P hS (T := F_AL) (N := 3) i_AL t_AL t_AL_ok n_AL he rfl 2 (by decide) (S.2.2.2.2 _ wd_87) (fun _ h => h) rfl (by decide +kernel) hn hf hl hdg kk
theorem cv_AL_135_AL (S : CallFix p m c cc nL s args tbl "java/util/ArrayList") (hB : so_B tbl s0 D vcl tys) (K : va_K D vcl tys s) (E : so_Kn s0 s) (P : so_P D vcl s0.heap.size σ H) (hS : va_S (so_A s0.heap.size) s.heap H locs) (he : σ o = some (tg, .inr (9, fs))) (hM : Met l y_AL_rangeCheckForAdd [.code y_AL_rangeCheckForAdd b_AL_rangeCheckForAdd 2 none] (so_rm k1 mc ms) (va_Pc (.ref o :: As) (so_Pre s0 D vcl σ)) Qc mc ms free) (hA : As.length = 1) (hk : k1 < k) (hc1 : cells + mc ≤ mcR) (hs1 : slots + ms ≤ msR) (hsize : ls.size = nL) (hst : st0 = As.reverse ++ .ref o :: rest) (hW : (rest.map fun v => v.category).sum ≤ 8) (hdg : decode cc pc = .ok (.invokevirtual 135, 3)) : va_Run p l e (so_rm k mcR msR) s m args below meth c H locs cells slots mc ms (F0 m pc ls st0) rest (Qc (Value.ref o :: As).toArray) free := ru_V S hB K E P hS hM he rfl wd_624 wd_626 (tbl_sel (q := (y_AL_rangeCheckForAdd, 3)) (List.mem_of_getElem? (i := 7) rfl)) wd_627 wd_8 ⟨by decide +kernel, by decide +kernel, by rw [hA]; decide +kernel⟩ (by decide) hk hc1 hs1 hsize hst hW hdg
theorem cv_AL_69_AL (S : CallFix p m c cc nL s args tbl "java/util/ArrayList") (hB : so_B tbl s0 D vcl tys) (K : va_K D vcl tys s) (E : so_Kn s0 s) (P : so_P D vcl s0.heap.size σ H) (hS : va_S (so_A s0.heap.size) s.heap H locs) (he : σ o = some (tg, .inr (9, fs))) (hM : Met l y_AL_grow2 [.code y_AL_grow2 b_AL_grow2 4 (some (.array (.object "java/lang/Object")))] (so_rm k1 mc ms) (va_Pc (.ref o :: As) (so_Pre s0 D vcl σ)) Qc mc ms free) (hA : As.length = 1) (hk : k1 < k) (hc1 : cells + mc ≤ mcR) (hs1 : slots + ms ≤ msR) (hsize : ls.size = nL) (hst : st0 = As.reverse ++ .ref o :: rest) (hW : (rest.map fun v => v.category).sum ≤ 8) (hdg : decode cc pc = .ok (.invokevirtual 69, 3)) : va_Run p l e (so_rm k mcR msR) s m args below meth c H locs cells slots mc ms (F0 m pc ls st0) rest (Qc (Value.ref o :: As).toArray) free := ru_V S hB K E P hS hM he rfl wd_549 wd_551 (tbl_sel (q := (y_AL_grow2, 3)) (List.mem_of_getElem? (i := 5) rfl)) wd_552 wd_8 ⟨by decide +kernel, by decide +kernel, by rw [hA]; decide +kernel⟩ (by decide) hk hc1 hs1 hsize hst hW hdg
theorem cs_AL_73 (S : CallFix p m c cc nL s args tbl "java/util/ArrayList") (hB : so_B tbl s0 D vcl tys) (E : so_Kn s0 s) (P : so_P D vcl s0.heap.size σ H) (hS : va_S (so_A s0.heap.size) s.heap H locs) (hM : Met l y_As_newLength [.code y_As_newLength b_As_newLength 4 (some .int)] (so_rm k1 mc ms) (va_Pc As (so_Pre s0 D vcl σ)) Qc mc ms free) (hA : As.length = 3) (hk : k1 < k) (hc1 : cells + mc ≤ mcR) (hs1 : slots + ms ≤ msR) (hsize : ls.size = nL) (hst : st0 = As.reverse ++ rest) (hW : (rest.map fun v => v.category).sum ≤ 8) (hdg : decode cc pc = .ok (.invokestatic 73, 3)) : va_Run p l e (so_rm k mcR msR) s m args below meth c H locs cells slots mc ms (F0 m pc ls st0) rest (Qc As.toArray) free := ru_S S hB E P hS hM wd_553 wd_554 wd_555 wd_23 ⟨by decide +kernel, by decide +kernel, by rw [hA]; decide +kernel⟩ (by decide) hk hc1 hs1 hsize hst hW hdg
theorem cs_AL_66 (S : CallFix p m c cc nL s args tbl "java/util/ArrayList") (hB : so_B tbl s0 D vcl tys) (E : so_Kn s0 s) (P : so_P D vcl s0.heap.size σ H) (hS : va_S (so_A s0.heap.size) s.heap H locs) (hM : Met l y_Ar_copyOf [.code y_Ar_copyOf b_Ar_copyOf 2 (some (.array (.object "java/lang/Object")))] (so_rm k1 mc ms) (va_Pc As (so_Pre s0 D vcl σ)) Qc mc ms free) (hA : As.length = 2) (hk : k1 < k) (hc1 : cells + mc ≤ mcR) (hs1 : slots + ms ≤ msR) (hsize : ls.size = nL) (hst : st0 = As.reverse ++ rest) (hW : (rest.map fun v => v.category).sum ≤ 8) (hdg : decode cc pc = .ok (.invokestatic 66, 3)) : va_Run p l e (so_rm k mcR msR) s m args below meth c H locs cells slots mc ms (F0 m pc ls st0) rest (Qc As.toArray) free := ru_S S hB E P hS hM wd_563 wd_564 wd_565 wd_25 ⟨by decide +kernel, by decide +kernel, by rw [hA]; decide +kernel⟩ (by decide) hk hc1 hs1 hsize hst hW hdg
theorem cs_AL_79 (S : CallFix p m c cc nL s args tbl "java/util/ArrayList") (hB : so_B tbl s0 D vcl tys) (E : so_Kn s0 s) (P : so_P D vcl s0.heap.size σ H) (hS : va_S (so_A s0.heap.size) s.heap H locs) (hM : Met l y_Ma_max [.code y_Ma_max b_Ma_max 2 (some .int)] (so_rm k1 mc ms) (va_Pc As (so_Pre s0 D vcl σ)) Qc mc ms free) (hA : As.length = 2) (hk : k1 < k) (hc1 : cells + mc ≤ mcR) (hs1 : slots + ms ≤ msR) (hsize : ls.size = nL) (hst : st0 = As.reverse ++ rest) (hW : (rest.map fun v => v.category).sum ≤ 8) (hdg : decode cc pc = .ok (.invokestatic 79, 3)) : va_Run p l e (so_rm k mcR msR) s m args below meth c H locs cells slots mc ms (F0 m pc ls st0) rest (Qc As.toArray) free := ru_S S hB E P hS hM wd_596 wd_557 wd_558 wd_24 ⟨by decide +kernel, by decide +kernel, by rw [hA]; decide +kernel⟩ (by decide) hk hc1 hs1 hsize hst hW hdg
theorem cs_As_194 (S : CallFix p m c cc nL s args tbl "jdk/internal/util/ArraysSupport") (hB : so_B tbl s0 D vcl tys) (E : so_Kn s0 s) (P : so_P D vcl s0.heap.size σ H) (hS : va_S (so_A s0.heap.size) s.heap H locs) (hM : Met l y_Ma_max [.code y_Ma_max b_Ma_max 2 (some .int)] (so_rm k1 mc ms) (va_Pc As (so_Pre s0 D vcl σ)) Qc mc ms free) (hA : As.length = 2) (hk : k1 < k) (hc1 : cells + mc ≤ mcR) (hs1 : slots + ms ≤ msR) (hsize : ls.size = nL) (hst : st0 = As.reverse ++ rest) (hW : (rest.map fun v => v.category).sum ≤ 8) (hdg : decode cc pc = .ok (.invokestatic 194, 3)) : va_Run p l e (so_rm k mcR msR) s m args below meth c H locs cells slots mc ms (F0 m pc ls st0) rest (Qc As.toArray) free := ru_S S hB E P hS hM wd_556 wd_557 wd_558 wd_24 ⟨by decide +kernel, by decide +kernel, by rw [hA]; decide +kernel⟩ (by decide) hk hc1 hs1 hsize hst hW hdg
theorem cs_As_201 (S : CallFix p m c cc nL s args tbl "jdk/internal/util/ArraysSupport") (hB : so_B tbl s0 D vcl tys) (E : so_Kn s0 s) (P : so_P D vcl s0.heap.size σ H) (hS : va_S (so_A s0.heap.size) s.heap H locs) (hM : Met l y_As_hugeLength [.code y_As_hugeLength b_As_hugeLength 3 (some .int)] (so_rm k1 mc ms) (va_Pc As (so_Pre s0 D vcl σ)) Qc mc ms free) (hA : As.length = 2) (hk : k1 < k) (hc1 : cells + mc ≤ mcR) (hs1 : slots + ms ≤ msR) (hsize : ls.size = nL) (hst : st0 = As.reverse ++ rest) (hW : (rest.map fun v => v.category).sum ≤ 8) (hdg : decode cc pc = .ok (.invokestatic 201, 3)) : va_Run p l e (so_rm k mcR msR) s m args below meth c H locs cells slots mc ms (F0 m pc ls st0) rest (Qc As.toArray) free := ru_S S hB E P hS hM wd_560 wd_561 wd_562 wd_23 ⟨by decide +kernel, by decide +kernel, by rw [hA]; decide +kernel⟩ (by decide) hk hc1 hs1 hsize hst hW hdg
theorem cs_Ar_300 (S : CallFix p m c cc nL s args tbl "java/util/Arrays") (hB : so_B tbl s0 D vcl tys) (E : so_Kn s0 s) (P : so_P D vcl s0.heap.size σ H) (hS : va_S (so_A s0.heap.size) s.heap H locs) (hM : Met l y_Ar_copyOf2 [.code y_Ar_copyOf2 b_Ar_copyOf2 4 (some (.array (.object "java/lang/Object")))] (so_rm k1 mc ms) (va_Pc As (so_Pre s0 D vcl σ)) Qc mc ms free) (hA : As.length = 3) (hk : k1 < k) (hc1 : cells + mc ≤ mcR) (hs1 : slots + ms ≤ msR) (hsize : ls.size = nL) (hst : st0 = As.reverse ++ rest) (hW : (rest.map fun v => v.category).sum ≤ 8) (hdg : decode cc pc = .ok (.invokestatic 300, 3)) : va_Run p l e (so_rm k mcR msR) s m args below meth c H locs cells slots mc ms (F0 m pc ls st0) rest (Qc As.toArray) free := ru_S S hB E P hS hM wd_584 wd_585 wd_586 wd_25 ⟨by decide +kernel, by decide +kernel, by rw [hA]; decide +kernel⟩ (by decide) hk hc1 hs1 hsize hst hW hdg
theorem cs_Ar_304 (S : CallFix p m c cc nL s args tbl "java/util/Arrays") (hB : so_B tbl s0 D vcl tys) (E : so_Kn s0 s) (P : so_P D vcl s0.heap.size σ H) (hS : va_S (so_A s0.heap.size) s.heap H locs) (hM : Met l y_Ma_min [.code y_Ma_min b_Ma_min 2 (some .int)] (so_rm k1 mc ms) (va_Pc As (so_Pre s0 D vcl σ)) Qc mc ms free) (hA : As.length = 2) (hk : k1 < k) (hc1 : cells + mc ≤ mcR) (hs1 : slots + ms ≤ msR) (hsize : ls.size = nL) (hst : st0 = As.reverse ++ rest) (hW : (rest.map fun v => v.category).sum ≤ 8) (hdg : decode cc pc = .ok (.invokestatic 304, 3)) : va_Run p l e (so_rm k mcR msR) s m args below meth c H locs cells slots mc ms (F0 m pc ls st0) rest (Qc As.toArray) free := ru_S S hB E P hS hM wd_590 wd_591 wd_592 wd_24 ⟨by decide +kernel, by decide +kernel, by rw [hA]; decide +kernel⟩ (by decide) hk hc1 hs1 hsize hst hW hdg
theorem cv_Ro_26_AL (S : CallFix p m c cc nL s args tbl "HoldMaps$Row") (hB : so_B tbl s0 D vcl tys) (K : va_K D vcl tys s) (E : so_Kn s0 s) (P : so_P D vcl s0.heap.size σ H) (hS : va_S (so_A s0.heap.size) s.heap H locs) (he : σ o = some (tg, .inr (9, fs))) (hM : Met l y_AL_remove [.code y_AL_remove b_AL_remove 4 (some (.object "java/lang/Object"))] (so_rm k1 mc ms) (va_Pc (.ref o :: As) (so_Pre s0 D vcl σ)) Qc mc ms free) (hA : As.length = 1) (hk : k1 < k) (hc1 : cells + mc ≤ mcR) (hs1 : slots + ms ≤ msR) (hsize : ls.size = nL) (hst : st0 = As.reverse ++ .ref o :: rest) (hW : (rest.map fun v => v.category).sum ≤ 8) (hdg : decode cc pc = .ok (.invokevirtual 26, 3)) : va_Run p l e (so_rm k mcR msR) s m args below meth c H locs cells slots mc ms (F0 m pc ls st0) rest (Qc (Value.ref o :: As).toArray) free := ru_V S hB K E P hS hM he rfl wd_605 wd_606 wd_607 wd_608 wd_8 ⟨by decide +kernel, by decide +kernel, by rw [hA]; decide +kernel⟩ (by decide) hk hc1 hs1 hsize hst hW hdg
theorem cv_AL_144_AL (S : CallFix p m c cc nL s args tbl "java/util/ArrayList") (hB : so_B tbl s0 D vcl tys) (K : va_K D vcl tys s) (E : so_Kn s0 s) (P : so_P D vcl s0.heap.size σ H) (hS : va_S (so_A s0.heap.size) s.heap H locs) (he : σ o = some (tg, .inr (9, fs))) (hM : Met l y_AL_fastRemove [.code y_AL_fastRemove b_AL_fastRemove 4 none] (so_rm k1 mc ms) (va_Pc (.ref o :: As) (so_Pre s0 D vcl σ)) Qc mc ms free) (hA : As.length = 2) (hk : k1 < k) (hc1 : cells + mc ≤ mcR) (hs1 : slots + ms ≤ msR) (hsize : ls.size = nL) (hst : st0 = As.reverse ++ .ref o :: rest) (hW : (rest.map fun v => v.category).sum ≤ 8) (hdg : decode cc pc = .ok (.invokevirtual 144, 3)) : va_Run p l e (so_rm k mcR msR) s m args below meth c H locs cells slots mc ms (F0 m pc ls st0) rest (Qc (Value.ref o :: As).toArray) free := ru_V S hB K E P hS hM he rfl wd_609 wd_611 (tbl_sel (q := (y_AL_fastRemove, 3)) (List.mem_of_getElem? (i := 6) rfl)) wd_612 wd_8 ⟨by decide +kernel, by decide +kernel, by rw [hA]; decide +kernel⟩ (by decide) hk hc1 hs1 hsize hst hW hdg
theorem gf_Pl_9_Pl (S : CallFix p m c cc nL s args tbl "HoldMaps$PlacesMap") (K : va_K D vcl tys s) (P : so_P D vcl N0 σ H) (he : σ a = some (tg, .inr (7, fs))) (hv : fs[3]? = some v) (hdg : decode cc pc = .ok (.getfield 9, 3)) (kk : W p l e R s m args below meth c H locs cells slots Q (F0 m (pc + 3) ls (v :: rest))) : W p l e R s m args below meth c H locs cells slots Q (F0 m pc ls (.ref a :: rest)) := so_get S K P (T := F_Pl) (N := 4) i_Pl he rfl 3 (by decide) (S.2.2.2.2 _ wd_104) (fun x h => u_same (S.2.2.2.2 _ wd_105) x h) hv hdg kk
theorem cv_Pl_15_AL (S : CallFix p m c cc nL s args tbl "HoldMaps$PlacesMap") (hB : so_B tbl s0 D vcl tys) (K : va_K D vcl tys s) (E : so_Kn s0 s) (P : so_P D vcl s0.heap.size σ H) (hS : va_S (so_A s0.heap.size) s.heap H locs) (he : σ o = some (tg, .inr (9, fs))) (hM : Met l y_AL_size [.code y_AL_size b_AL_size 1 (some .int)] (so_rm k1 mc ms) (va_Pc (.ref o :: As) (so_Pre s0 D vcl σ)) Qc mc ms free) (hA : As.length = 0) (hk : k1 < k) (hc1 : cells + mc ≤ mcR) (hs1 : slots + ms ≤ msR) (hsize : ls.size = nL) (hst : st0 = As.reverse ++ .ref o :: rest) (hW : (rest.map fun v => v.category).sum ≤ 8) (hdg : decode cc pc = .ok (.invokevirtual 15, 3)) : va_Run p l e (so_rm k mcR msR) s m args below meth c H locs cells slots mc ms (F0 m pc ls st0) rest (Qc (Value.ref o :: As).toArray) free := ru_V S hB K E P hS hM he rfl wd_617 wd_223 wd_224 wd_225 wd_8 ⟨by decide +kernel, by decide +kernel, by rw [hA]; decide +kernel⟩ (by decide) hk hc1 hs1 hsize hst hW hdg
theorem cv_Pl_21_AL (S : CallFix p m c cc nL s args tbl "HoldMaps$PlacesMap") (hB : so_B tbl s0 D vcl tys) (K : va_K D vcl tys s) (E : so_Kn s0 s) (P : so_P D vcl s0.heap.size σ H) (hS : va_S (so_A s0.heap.size) s.heap H locs) (he : σ o = some (tg, .inr (9, fs))) (hM : Met l y_AL_get [.code y_AL_get b_AL_get 2 (some (.object "java/lang/Object"))] (so_rm k1 mc ms) (va_Pc (.ref o :: As) (so_Pre s0 D vcl σ)) Qc mc ms free) (hA : As.length = 1) (hk : k1 < k) (hc1 : cells + mc ≤ mcR) (hs1 : slots + ms ≤ msR) (hsize : ls.size = nL) (hst : st0 = As.reverse ++ .ref o :: rest) (hW : (rest.map fun v => v.category).sum ≤ 8) (hdg : decode cc pc = .ok (.invokevirtual 21, 3)) : va_Run p l e (so_rm k mcR msR) s m args below meth c H locs cells slots mc ms (F0 m pc ls st0) rest (Qc (Value.ref o :: As).toArray) free := ru_V S hB K E P hS hM he rfl wd_618 wd_440 wd_441 wd_442 wd_8 ⟨by decide +kernel, by decide +kernel, by rw [hA]; decide +kernel⟩ (by decide) hk hc1 hs1 hsize hst hW hdg
theorem gf_Pl_27_En (S : CallFix p m c cc nL s args tbl "HoldMaps$PlacesMap") (K : va_K D vcl tys s) (P : so_P D vcl N0 σ H) (he : σ a = some (tg, .inr (3, fs))) (hv : fs[0]? = some v) (hdg : decode cc pc = .ok (.getfield 27, 3)) (kk : W p l e R s m args below meth c H locs cells slots Q (F0 m (pc + 3) ls (v :: rest))) : W p l e R s m args below meth c H locs cells slots Q (F0 m pc ls (.ref a :: rest)) := so_get S K P (T := F_En) (N := 4) i_En he rfl 0 (by decide) (S.2.2.2.2 _ wd_499) (fun _ h => h) hv hdg kk
theorem cv_Pl_31_AL (S : CallFix p m c cc nL s args tbl "HoldMaps$PlacesMap") (hB : so_B tbl s0 D vcl tys) (K : va_K D vcl tys s) (E : so_Kn s0 s) (P : so_P D vcl s0.heap.size σ H) (hS : va_S (so_A s0.heap.size) s.heap H locs) (he : σ o = some (tg, .inr (9, fs))) (hM : Met l y_AL_add3 [.code y_AL_add3 b_AL_add3 5 none] (so_rm k1 mc ms) (va_Pc (.ref o :: As) (so_Pre s0 D vcl σ)) Qc mc ms free) (hA : As.length = 2) (hk : k1 < k) (hc1 : cells + mc ≤ mcR) (hs1 : slots + ms ≤ msR) (hsize : ls.size = nL) (hst : st0 = As.reverse ++ .ref o :: rest) (hW : (rest.map fun v => v.category).sum ≤ 8) (hdg : decode cc pc = .ok (.invokevirtual 31, 3)) : va_Run p l e (so_rm k mcR msR) s m args below meth c H locs cells slots mc ms (F0 m pc ls st0) rest (Qc (Value.ref o :: As).toArray) free := ru_V S hB K E P hS hM he rfl wd_620 wd_621 wd_622 wd_623 wd_8 ⟨by decide +kernel, by decide +kernel, by rw [hA]; decide +kernel⟩ (by decide) hk hc1 hs1 hsize hst hW hdg
theorem pf_Pl_35_Pl (S : CallFix p m c cc nL s args tbl "HoldMaps$PlacesMap") (K : va_K D vcl tys s) (P : so_P D vcl N0 σ H) (hS : va_S (so_A N0) H0 H locs) (he : σ a = some (tg, .inr (7, fs))) (hl : 1 < fs.length) (hn : narrow (.boolean) v = v) (hf : fits (.boolean) v = true) (hdg : decode cc pc = .ok (.putfield 35, 3)) (kk : ∀ (H1 : Heap) (locs1 : List Loc), so_P D vcl N0 (so_up σ a (tg, .inr (7, fs.set 1 v))) H1 → va_S (so_A N0) H0 H1 locs1 → W p l e R s m args below meth c H1 locs1 cells slots Q (F0 m (pc + 3) ls rest)) : W p l e R s m args below meth c H locs cells slots Q (F0 m pc ls (v :: .ref a :: rest)) := so_put S K P hS (T := F_Pl) (N := 4) i_Pl t_Pl t_Pl_ok n_Pl he rfl 1 (by decide) (S.2.2.2.2 _ wd_115) (fun x h => u_same (S.2.2.2.2 _ wd_116) x h) rfl (by decide +kernel) hn hf hl hdg kk
theorem pf_So_15_En (S : CallFix p m c cc nL s args tbl "HoldMaps$SoftMap") (K : va_K D vcl tys s) (P : so_P D vcl N0 σ H) (hS : va_S (so_A N0) H0 H locs) (he : σ a = some (tg, .inr (3, fs))) (hl : 3 < fs.length) (hn : narrow (.int) v = v) (hf : fits (.int) v = true) (hdg : decode cc pc = .ok (.putfield 15, 3)) (kk : ∀ (H1 : Heap) (locs1 : List Loc), so_P D vcl N0 (so_up σ a (tg, .inr (3, fs.set 3 v))) H1 → va_S (so_A N0) H0 H1 locs1 → W p l e R s m args below meth c H1 locs1 cells slots Q (F0 m (pc + 3) ls rest)) : W p l e R s m args below meth c H locs cells slots Q (F0 m pc ls (v :: .ref a :: rest)) := so_put S K P hS (T := F_En) (N := 4) i_En t_En t_En_ok n_En he rfl 3 (by decide) (S.2.2.2.2 _ wd_508) (fun _ h => h) rfl (by decide +kernel) hn hf hl hdg kk
theorem cv_So_20_So (S : CallFix p m c cc nL s args tbl "HoldMaps$SoftMap") (hB : so_B tbl s0 D vcl tys) (K : va_K D vcl tys s) (E : so_Kn s0 s) (P : so_P D vcl s0.heap.size σ H) (hS : va_S (so_A s0.heap.size) s.heap H locs) (he : σ o = some (tg, .inr (5, fs))) (hM : Met l y_Ro_append [.code y_Ro_append b_Ro_append 2 none] (so_rm k1 mc ms) (va_Pc (.ref o :: As) (so_Pre s0 D vcl σ)) Qc mc ms free) (hA : As.length = 1) (hk : k1 < k) (hc1 : cells + mc ≤ mcR) (hs1 : slots + ms ≤ msR) (hsize : ls.size = nL) (hst : st0 = As.reverse ++ .ref o :: rest) (hW : (rest.map fun v => v.category).sum ≤ 8) (hdg : decode cc pc = .ok (.invokevirtual 20, 3)) : va_Run p l e (so_rm k mcR msR) s m args below meth c H locs cells slots mc ms (F0 m pc ls st0) rest (Qc (Value.ref o :: As).toArray) free := ru_U (x := ⟨"HoldMaps$SoftMap", "append", "(LHoldMaps$Entry;)V"⟩) (owner := "HoldMaps$Row") S hB K E P hS hM he rfl wd_631 wd_632 (va_Decl.abs (va_Nw.of rfl (S.2.2.2.2 _ wd_533))) wd_535 wd_633 wd_536 wd_4 ⟨by decide +kernel, by decide +kernel, by rw [hA]; decide +kernel⟩ (by decide) hk hc1 hs1 hsize hst hW hdg
theorem cv_We_22_We (S : CallFix p m c cc nL s args tbl "HoldMaps$WeakMap") (hB : so_B tbl s0 D vcl tys) (K : va_K D vcl tys s) (E : so_Kn s0 s) (P : so_P D vcl s0.heap.size σ H) (hS : va_S (so_A s0.heap.size) s.heap H locs) (he : σ o = some (tg, .inr (4, fs))) (hM : Met l y_We_addToBucket [.code y_We_addToBucket b_We_addToBucket 4 none] (so_rm k1 mc ms) (va_Pc (.ref o :: As) (so_Pre s0 D vcl σ)) Qc mc ms free) (hA : As.length = 1) (hk : k1 < k) (hc1 : cells + mc ≤ mcR) (hs1 : slots + ms ≤ msR) (hsize : ls.size = nL) (hst : st0 = As.reverse ++ .ref o :: rest) (hW : (rest.map fun v => v.category).sum ≤ 8) (hdg : decode cc pc = .ok (.invokevirtual 22, 3)) : va_Run p l e (so_rm k mcR msR) s m args below meth c H locs cells slots mc ms (F0 m pc ls st0) rest (Qc (Value.ref o :: As).toArray) free := ru_V S hB K E P hS hM he rfl wd_637 wd_639 (tbl_sel (q := (y_We_addToBucket, 6)) (List.mem_of_getElem? (i := 8) rfl)) wd_640 wd_5 ⟨by decide +kernel, by decide +kernel, by rw [hA]; decide +kernel⟩ (by decide) hk hc1 hs1 hsize hst hW hdg
theorem pf_We_26_We (S : CallFix p m c cc nL s args tbl "HoldMaps$WeakMap") (K : va_K D vcl tys s) (P : so_P D vcl N0 σ H) (hS : va_S (so_A N0) H0 H locs) (he : σ a = some (tg, .inr (4, fs))) (hl : 1 < fs.length) (hn : narrow (.boolean) v = v) (hf : fits (.boolean) v = true) (hdg : decode cc pc = .ok (.putfield 26, 3)) (kk : ∀ (H1 : Heap) (locs1 : List Loc), so_P D vcl N0 (so_up σ a (tg, .inr (4, fs.set 1 v))) H1 → va_S (so_A N0) H0 H1 locs1 → W p l e R s m args below meth c H1 locs1 cells slots Q (F0 m (pc + 3) ls rest)) : W p l e R s m args below meth c H locs cells slots Q (F0 m pc ls (v :: .ref a :: rest)) := so_put S K P hS (T := F_We) (N := 6) i_We t_We t_We_ok n_We he rfl 1 (by decide) (S.2.2.2.2 _ wd_113) (fun x h => u_same (S.2.2.2.2 _ wd_114) x h) rfl (by decide +kernel) hn hf hl hdg kk
theorem gf_We_30_We (S : CallFix p m c cc nL s args tbl "HoldMaps$WeakMap") (K : va_K D vcl tys s) (P : so_P D vcl N0 σ H) (he : σ a = some (tg, .inr (4, fs))) (hv : fs[3]? = some v) (hdg : decode cc pc = .ok (.getfield 30, 3)) (kk : W p l e R s m args below meth c H locs cells slots Q (F0 m (pc + 3) ls (v :: rest))) : W p l e R s m args below meth c H locs cells slots Q (F0 m pc ls (.ref a :: rest)) := so_get S K P (T := F_We) (N := 6) i_We he rfl 3 (by decide) (S.2.2.2.2 _ wd_108) (fun x h => u_same (S.2.2.2.2 _ wd_109) x h) hv hdg kk
theorem cv_We_33_AL (S : CallFix p m c cc nL s args tbl "HoldMaps$WeakMap") (hB : so_B tbl s0 D vcl tys) (K : va_K D vcl tys s) (E : so_Kn s0 s) (P : so_P D vcl s0.heap.size σ H) (hS : va_S (so_A s0.heap.size) s.heap H locs) (he : σ o = some (tg, .inr (9, fs))) (hM : Met l y_AL_size [.code y_AL_size b_AL_size 1 (some .int)] (so_rm k1 mc ms) (va_Pc (.ref o :: As) (so_Pre s0 D vcl σ)) Qc mc ms free) (hA : As.length = 0) (hk : k1 < k) (hc1 : cells + mc ≤ mcR) (hs1 : slots + ms ≤ msR) (hsize : ls.size = nL) (hst : st0 = As.reverse ++ .ref o :: rest) (hW : (rest.map fun v => v.category).sum ≤ 8) (hdg : decode cc pc = .ok (.invokevirtual 33, 3)) : va_Run p l e (so_rm k mcR msR) s m args below meth c H locs cells slots mc ms (F0 m pc ls st0) rest (Qc (Value.ref o :: As).toArray) free := ru_V S hB K E P hS hM he rfl wd_645 wd_223 wd_224 wd_225 wd_8 ⟨by decide +kernel, by decide +kernel, by rw [hA]; decide +kernel⟩ (by decide) hk hc1 hs1 hsize hst hW hdg
theorem gf_We_18_We (S : CallFix p m c cc nL s args tbl "HoldMaps$WeakMap") (K : va_K D vcl tys s) (P : so_P D vcl N0 σ H) (he : σ a = some (tg, .inr (4, fs))) (hv : fs[5]? = some v) (hdg : decode cc pc = .ok (.getfield 18, 3)) (kk : W p l e R s m args below meth c H locs cells slots Q (F0 m (pc + 3) ls (v :: rest))) : W p l e R s m args below meth c H locs cells slots Q (F0 m pc ls (.ref a :: rest)) := so_get S K P (T := F_We) (N := 6) i_We he rfl 5 (by decide) (S.2.2.2.2 _ wd_101) (fun _ h => h) hv hdg kk
theorem cv_We_37_We (S : CallFix p m c cc nL s args tbl "HoldMaps$WeakMap") (hB : so_B tbl s0 D vcl tys) (K : va_K D vcl tys s) (E : so_Kn s0 s) (P : so_P D vcl s0.heap.size σ H) (hS : va_S (so_A s0.heap.size) s.heap H locs) (he : σ o = some (tg, .inr (4, fs))) (hM : Met l y_We_doubleBuckets [.code y_We_doubleBuckets b_We_doubleBuckets 2 none] (so_rm k1 mc ms) (va_Pc (.ref o :: As) (so_Pre s0 D vcl σ)) Qc mc ms free) (hA : As.length = 0) (hk : k1 < k) (hc1 : cells + mc ≤ mcR) (hs1 : slots + ms ≤ msR) (hsize : ls.size = nL) (hst : st0 = As.reverse ++ .ref o :: rest) (hW : (rest.map fun v => v.category).sum ≤ 8) (hdg : decode cc pc = .ok (.invokevirtual 37, 3)) : va_Run p l e (so_rm k mcR msR) s m args below meth c H locs cells slots mc ms (F0 m pc ls st0) rest (Qc (Value.ref o :: As).toArray) free := ru_V S hB K E P hS hM he rfl wd_649 wd_651 (tbl_sel (q := (y_We_doubleBuckets, 6)) (List.mem_of_getElem? (i := 10) rfl)) wd_652 wd_5 ⟨by decide +kernel, by decide +kernel, by rw [hA]; decide +kernel⟩ (by decide) hk hc1 hs1 hsize hst hW hdg
theorem cv_We_40_We (S : CallFix p m c cc nL s args tbl "HoldMaps$WeakMap") (hB : so_B tbl s0 D vcl tys) (K : va_K D vcl tys s) (E : so_Kn s0 s) (P : so_P D vcl s0.heap.size σ H) (hS : va_S (so_A s0.heap.size) s.heap H locs) (he : σ o = some (tg, .inr (4, fs))) (hM : Met l y_We_bucketOf [.code y_We_bucketOf b_We_bucketOf 3 (some .int)] (so_rm k1 mc ms) (va_Pc (.ref o :: As) (so_Pre s0 D vcl σ)) Qc mc ms free) (hA : As.length = 1) (hk : k1 < k) (hc1 : cells + mc ≤ mcR) (hs1 : slots + ms ≤ msR) (hsize : ls.size = nL) (hst : st0 = As.reverse ++ .ref o :: rest) (hW : (rest.map fun v => v.category).sum ≤ 8) (hdg : decode cc pc = .ok (.invokevirtual 40, 3)) : va_Run p l e (so_rm k mcR msR) s m args below meth c H locs cells slots mc ms (F0 m pc ls st0) rest (Qc (Value.ref o :: As).toArray) free := ru_V S hB K E P hS hM he rfl wd_641 wd_643 (tbl_sel (q := (y_We_bucketOf, 6)) (List.mem_of_getElem? (i := 9) rfl)) wd_644 wd_5 ⟨by decide +kernel, by decide +kernel, by rw [hA]; decide +kernel⟩ (by decide) hk hc1 hs1 hsize hst hW hdg
theorem cv_We_44_AL (S : CallFix p m c cc nL s args tbl "HoldMaps$WeakMap") (hB : so_B tbl s0 D vcl tys) (K : va_K D vcl tys s) (E : so_Kn s0 s) (P : so_P D vcl s0.heap.size σ H) (hS : va_S (so_A s0.heap.size) s.heap H locs) (he : σ o = some (tg, .inr (9, fs))) (hM : Met l y_AL_get [.code y_AL_get b_AL_get 2 (some (.object "java/lang/Object"))] (so_rm k1 mc ms) (va_Pc (.ref o :: As) (so_Pre s0 D vcl σ)) Qc mc ms free) (hA : As.length = 1) (hk : k1 < k) (hc1 : cells + mc ≤ mcR) (hs1 : slots + ms ≤ msR) (hsize : ls.size = nL) (hst : st0 = As.reverse ++ .ref o :: rest) (hW : (rest.map fun v => v.category).sum ≤ 8) (hdg : decode cc pc = .ok (.invokevirtual 44, 3)) : va_Run p l e (so_rm k mcR msR) s m args below meth c H locs cells slots mc ms (F0 m pc ls st0) rest (Qc (Value.ref o :: As).toArray) free := ru_V S hB K E P hS hM he rfl wd_646 wd_440 wd_441 wd_442 wd_8 ⟨by decide +kernel, by decide +kernel, by rw [hA]; decide +kernel⟩ (by decide) hk hc1 hs1 hsize hst hW hdg
theorem cv_We_50_AL (S : CallFix p m c cc nL s args tbl "HoldMaps$WeakMap") (hB : so_B tbl s0 D vcl tys) (K : va_K D vcl tys s) (E : so_Kn s0 s) (P : so_P D vcl s0.heap.size σ H) (hS : va_S (so_A s0.heap.size) s.heap H locs) (he : σ o = some (tg, .inr (9, fs))) (hM : Met l y_AL_add3 [.code y_AL_add3 b_AL_add3 5 none] (so_rm k1 mc ms) (va_Pc (.ref o :: As) (so_Pre s0 D vcl σ)) Qc mc ms free) (hA : As.length = 2) (hk : k1 < k) (hc1 : cells + mc ≤ mcR) (hs1 : slots + ms ≤ msR) (hsize : ls.size = nL) (hst : st0 = As.reverse ++ .ref o :: rest) (hW : (rest.map fun v => v.category).sum ≤ 8) (hdg : decode cc pc = .ok (.invokevirtual 50, 3)) : va_Run p l e (so_rm k mcR msR) s m args below meth c H locs cells slots mc ms (F0 m pc ls st0) rest (Qc (Value.ref o :: As).toArray) free := ru_V S hB K E P hS hM he rfl wd_648 wd_621 wd_622 wd_623 wd_8 ⟨by decide +kernel, by decide +kernel, by rw [hA]; decide +kernel⟩ (by decide) hk hc1 hs1 hsize hst hW hdg
theorem gf_We_54_En (S : CallFix p m c cc nL s args tbl "HoldMaps$WeakMap") (K : va_K D vcl tys s) (P : so_P D vcl N0 σ H) (he : σ a = some (tg, .inr (3, fs))) (hv : fs[1]? = some v) (hdg : decode cc pc = .ok (.getfield 54, 3)) (kk : W p l e R s m args below meth c H locs cells slots Q (F0 m (pc + 3) ls (v :: rest))) : W p l e R s m args below meth c H locs cells slots Q (F0 m pc ls (.ref a :: rest)) := so_get S K P (T := F_En) (N := 4) i_En he rfl 1 (by decide) (S.2.2.2.2 _ wd_503) (fun _ h => h) hv hdg kk
theorem gf_We_12_We (S : CallFix p m c cc nL s args tbl "HoldMaps$WeakMap") (K : va_K D vcl tys s) (P : so_P D vcl N0 σ H) (he : σ a = some (tg, .inr (4, fs))) (hv : fs[4]? = some v) (hdg : decode cc pc = .ok (.getfield 12, 3)) (kk : W p l e R s m args below meth c H locs cells slots Q (F0 m (pc + 3) ls (v :: rest))) : W p l e R s m args below meth c H locs cells slots Q (F0 m pc ls (.ref a :: rest)) := so_get S K P (T := F_We) (N := 6) i_We he rfl 4 (by decide) (S.2.2.2.2 _ wd_100) (fun _ h => h) hv hdg kk
theorem cv_We_57_AL (S : CallFix p m c cc nL s args tbl "HoldMaps$WeakMap") (hB : so_B tbl s0 D vcl tys) (K : va_K D vcl tys s) (E : so_Kn s0 s) (P : so_P D vcl s0.heap.size σ H) (hS : va_S (so_A s0.heap.size) s.heap H locs) (he : σ o = some (tg, .inr (9, fs))) (hM : Met l y_AL_clear [.code y_AL_clear b_AL_clear 4 none] (so_rm k1 mc ms) (va_Pc (.ref o :: As) (so_Pre s0 D vcl σ)) Qc mc ms free) (hA : As.length = 0) (hk : k1 < k) (hc1 : cells + mc ≤ mcR) (hs1 : slots + ms ≤ msR) (hsize : ls.size = nL) (hst : st0 = As.reverse ++ .ref o :: rest) (hW : (rest.map fun v => v.category).sum ≤ 8) (hdg : decode cc pc = .ok (.invokevirtual 57, 3)) : va_Run p l e (so_rm k mcR msR) s m args below meth c H locs cells slots mc ms (F0 m pc ls st0) rest (Qc (Value.ref o :: As).toArray) free := ru_V S hB K E P hS hM he rfl wd_653 wd_654 wd_655 wd_656 wd_8 ⟨by decide +kernel, by decide +kernel, by rw [hA]; decide +kernel⟩ (by decide) hk hc1 hs1 hsize hst hW hdg
theorem cv_We_60_AL (S : CallFix p m c cc nL s args tbl "HoldMaps$WeakMap") (hB : so_B tbl s0 D vcl tys) (K : va_K D vcl tys s) (E : so_Kn s0 s) (P : so_P D vcl s0.heap.size σ H) (hS : va_S (so_A s0.heap.size) s.heap H locs) (he : σ o = some (tg, .inr (9, fs))) (hM : Met l y_AL_add [.code y_AL_add b_AL_add 2 (some .boolean)] (so_rm k1 mc ms) (va_Pc (.ref o :: As) (so_Pre s0 D vcl σ)) Qc mc ms free) (hA : As.length = 1) (hk : k1 < k) (hc1 : cells + mc ≤ mcR) (hs1 : slots + ms ≤ msR) (hsize : ls.size = nL) (hst : st0 = As.reverse ++ .ref o :: rest) (hW : (rest.map fun v => v.category).sum ≤ 8) (hdg : decode cc pc = .ok (.invokevirtual 60, 3)) : va_Run p l e (so_rm k mcR msR) s m args below meth c H locs cells slots mc ms (F0 m pc ls st0) rest (Qc (Value.ref o :: As).toArray) free := ru_V S hB K E P hS hM he rfl wd_657 wd_538 wd_539 wd_540 wd_8 ⟨by decide +kernel, by decide +kernel, by rw [hA]; decide +kernel⟩ (by decide) hk hc1 hs1 hsize hst hW hdg
theorem cv_La_29_AL (S : CallFix p m c cc nL s args tbl "HoldMaps$LatestMap") (hB : so_B tbl s0 D vcl tys) (K : va_K D vcl tys s) (E : so_Kn s0 s) (P : so_P D vcl s0.heap.size σ H) (hS : va_S (so_A s0.heap.size) s.heap H locs) (he : σ o = some (tg, .inr (9, fs))) (hM : Met l y_AL_get [.code y_AL_get b_AL_get 2 (some (.object "java/lang/Object"))] (so_rm k1 mc ms) (va_Pc (.ref o :: As) (so_Pre s0 D vcl σ)) Qc mc ms free) (hA : As.length = 1) (hk : k1 < k) (hc1 : cells + mc ≤ mcR) (hs1 : slots + ms ≤ msR) (hsize : ls.size = nL) (hst : st0 = As.reverse ++ .ref o :: rest) (hW : (rest.map fun v => v.category).sum ≤ 8) (hdg : decode cc pc = .ok (.invokevirtual 29, 3)) : va_Run p l e (so_rm k mcR msR) s m args below meth c H locs cells slots mc ms (F0 m pc ls st0) rest (Qc (Value.ref o :: As).toArray) free := ru_V S hB K E P hS hM he rfl wd_665 wd_440 wd_441 wd_442 wd_8 ⟨by decide +kernel, by decide +kernel, by rw [hA]; decide +kernel⟩ (by decide) hk hc1 hs1 hsize hst hW hdg
theorem cv_So_24_So (S : CallFix p m c cc nL s args tbl "HoldMaps$SoftMap") (hB : so_B tbl s0 D vcl tys) (K : va_K D vcl tys s) (E : so_Kn s0 s) (P : so_P D vcl s0.heap.size σ H) (hS : va_S (so_A s0.heap.size) s.heap H locs) (he : σ o = some (tg, .inr (5, fs))) (hM : Met l y_Ro_entryAt [.code y_Ro_entryAt b_Ro_entryAt 2 (some (.object "HoldMaps$Entry"))] (so_rm k1 mc ms) (va_Pc (.ref o :: As) (so_Pre s0 D vcl σ)) Qc mc ms free) (hA : As.length = 1) (hk : k1 < k) (hc1 : cells + mc ≤ mcR) (hs1 : slots + ms ≤ msR) (hsize : ls.size = nL) (hst : st0 = As.reverse ++ .ref o :: rest) (hW : (rest.map fun v => v.category).sum ≤ 8) (hdg : decode cc pc = .ok (.invokevirtual 24, 3)) : va_Run p l e (so_rm k mcR msR) s m args below meth c H locs cells slots mc ms (F0 m pc ls st0) rest (Qc (Value.ref o :: As).toArray) free := ru_U (x := ⟨"HoldMaps$SoftMap", "entryAt", "(I)LHoldMaps$Entry;"⟩) (owner := "HoldMaps$Row") S hB K E P hS hM he rfl wd_671 wd_672 (va_Decl.abs (va_Nw.of rfl (S.2.2.2.2 _ wd_673))) wd_437 wd_674 wd_438 wd_4 ⟨by decide +kernel, by decide +kernel, by rw [hA]; decide +kernel⟩ (by decide) hk hc1 hs1 hsize hst hW hdg
theorem cv_Lw_28_HM (S : CallFix p m c cc nL s args tbl "HoldMapsLaw") (hB : so_B tbl s0 D vcl tys) (K : va_K D vcl tys s) (E : so_Kn s0 s) (P : so_P D vcl s0.heap.size σ H) (hS : va_S (so_A s0.heap.size) s.heap H locs) (he : σ o = some (tg, .inr (0, fs))) (hM : Met l y_HM_get [.code y_HM_get b_HM_get 6 (some .int)] (so_rm k1 mc ms) (va_Pc (.ref o :: As) (so_Pre s0 D vcl σ)) Qc mc ms free) (hA : As.length = 2) (hk : k1 < k) (hc1 : cells + mc ≤ mcR) (hs1 : slots + ms ≤ msR) (hsize : ls.size = nL) (hst : st0 = As.reverse ++ .ref o :: rest) (hW : (rest.map fun v => v.category).sum ≤ 8) (hdg : decode cc pc = .ok (.invokevirtual 28, 3)) : va_Run p l e (so_rm k mcR msR) s m args below meth c H locs cells slots mc ms (F0 m pc ls st0) rest (Qc (Value.ref o :: As).toArray) free := ru_V S hB K E P hS hM he rfl wd_680 wd_681 wd_682 wd_683 wd_1 ⟨by decide +kernel, by decide +kernel, by rw [hA]; decide +kernel⟩ (by decide) hk hc1 hs1 hsize hst hW hdg
theorem cv_HM_137_We (S : CallFix p m c cc nL s args tbl "HoldMaps") (hB : so_B tbl s0 D vcl tys) (K : va_K D vcl tys s) (E : so_Kn s0 s) (P : so_P D vcl s0.heap.size σ H) (hS : va_S (so_A s0.heap.size) s.heap H locs) (he : σ o = some (tg, .inr (4, fs))) (hM : Met l y_Ta_valueAt [.code y_Ta_valueAt b_Ta_valueAt 3 (some .int)] (so_rm k1 mc ms) (va_Pc (.ref o :: As) (so_Pre s0 D vcl σ)) Qc mc ms free) (hA : As.length = 1) (hk : k1 < k) (hc1 : cells + mc ≤ mcR) (hs1 : slots + ms ≤ msR) (hsize : ls.size = nL) (hst : st0 = As.reverse ++ .ref o :: rest) (hW : (rest.map fun v => v.category).sum ≤ 8) (hdg : decode cc pc = .ok (.invokevirtual 137, 3)) : va_Run p l e (so_rm k mcR msR) s m args below meth c H locs cells slots mc ms (F0 m pc ls st0) rest (Qc (Value.ref o :: As).toArray) free := ru_U (x := ⟨"HoldMaps$Table", "valueAt", "(I)I"⟩) (owner := "HoldMaps$Table") S hB K E P hS hM he rfl wd_685 wd_687 (va_Decl.of (S.2.2.2.2 _ wd_686) (S.2.2.2.2 _ wd_693)) wd_686 wd_692 wd_693 wd_3 ⟨by decide +kernel, by decide +kernel, by rw [hA]; decide +kernel⟩ (by decide) hk hc1 hs1 hsize hst hW hdg
theorem cv_HM_137_So (S : CallFix p m c cc nL s args tbl "HoldMaps") (hB : so_B tbl s0 D vcl tys) (K : va_K D vcl tys s) (E : so_Kn s0 s) (P : so_P D vcl s0.heap.size σ H) (hS : va_S (so_A s0.heap.size) s.heap H locs) (he : σ o = some (tg, .inr (5, fs))) (hM : Met l y_Ta_valueAt [.code y_Ta_valueAt b_Ta_valueAt 3 (some .int)] (so_rm k1 mc ms) (va_Pc (.ref o :: As) (so_Pre s0 D vcl σ)) Qc mc ms free) (hA : As.length = 1) (hk : k1 < k) (hc1 : cells + mc ≤ mcR) (hs1 : slots + ms ≤ msR) (hsize : ls.size = nL) (hst : st0 = As.reverse ++ .ref o :: rest) (hW : (rest.map fun v => v.category).sum ≤ 8) (hdg : decode cc pc = .ok (.invokevirtual 137, 3)) : va_Run p l e (so_rm k mcR msR) s m args below meth c H locs cells slots mc ms (F0 m pc ls st0) rest (Qc (Value.ref o :: As).toArray) free := ru_U (x := ⟨"HoldMaps$Table", "valueAt", "(I)I"⟩) (owner := "HoldMaps$Table") S hB K E P hS hM he rfl wd_685 wd_687 (va_Decl.of (S.2.2.2.2 _ wd_686) (S.2.2.2.2 _ wd_693)) wd_686 wd_691 wd_693 wd_3 ⟨by decide +kernel, by decide +kernel, by rw [hA]; decide +kernel⟩ (by decide) hk hc1 hs1 hsize hst hW hdg
theorem cv_HM_137_Id (S : CallFix p m c cc nL s args tbl "HoldMaps") (hB : so_B tbl s0 D vcl tys) (K : va_K D vcl tys s) (E : so_Kn s0 s) (P : so_P D vcl s0.heap.size σ H) (hS : va_S (so_A s0.heap.size) s.heap H locs) (he : σ o = some (tg, .inr (6, fs))) (hM : Met l y_Ta_valueAt [.code y_Ta_valueAt b_Ta_valueAt 3 (some .int)] (so_rm k1 mc ms) (va_Pc (.ref o :: As) (so_Pre s0 D vcl σ)) Qc mc ms free) (hA : As.length = 1) (hk : k1 < k) (hc1 : cells + mc ≤ mcR) (hs1 : slots + ms ≤ msR) (hsize : ls.size = nL) (hst : st0 = As.reverse ++ .ref o :: rest) (hW : (rest.map fun v => v.category).sum ≤ 8) (hdg : decode cc pc = .ok (.invokevirtual 137, 3)) : va_Run p l e (so_rm k mcR msR) s m args below meth c H locs cells slots mc ms (F0 m pc ls st0) rest (Qc (Value.ref o :: As).toArray) free := ru_U (x := ⟨"HoldMaps$Table", "valueAt", "(I)I"⟩) (owner := "HoldMaps$Table") S hB K E P hS hM he rfl wd_685 wd_687 (va_Decl.of (S.2.2.2.2 _ wd_686) (S.2.2.2.2 _ wd_693)) wd_686 wd_688 wd_693 wd_3 ⟨by decide +kernel, by decide +kernel, by rw [hA]; decide +kernel⟩ (by decide) hk hc1 hs1 hsize hst hW hdg
theorem cv_HM_137_Pl (S : CallFix p m c cc nL s args tbl "HoldMaps") (hB : so_B tbl s0 D vcl tys) (K : va_K D vcl tys s) (E : so_Kn s0 s) (P : so_P D vcl s0.heap.size σ H) (hS : va_S (so_A s0.heap.size) s.heap H locs) (he : σ o = some (tg, .inr (7, fs))) (hM : Met l y_Ta_valueAt [.code y_Ta_valueAt b_Ta_valueAt 3 (some .int)] (so_rm k1 mc ms) (va_Pc (.ref o :: As) (so_Pre s0 D vcl σ)) Qc mc ms free) (hA : As.length = 1) (hk : k1 < k) (hc1 : cells + mc ≤ mcR) (hs1 : slots + ms ≤ msR) (hsize : ls.size = nL) (hst : st0 = As.reverse ++ .ref o :: rest) (hW : (rest.map fun v => v.category).sum ≤ 8) (hdg : decode cc pc = .ok (.invokevirtual 137, 3)) : va_Run p l e (so_rm k mcR msR) s m args below meth c H locs cells slots mc ms (F0 m pc ls st0) rest (Qc (Value.ref o :: As).toArray) free := ru_U (x := ⟨"HoldMaps$Table", "valueAt", "(I)I"⟩) (owner := "HoldMaps$Table") S hB K E P hS hM he rfl wd_685 wd_687 (va_Decl.of (S.2.2.2.2 _ wd_686) (S.2.2.2.2 _ wd_693)) wd_686 wd_690 wd_693 wd_3 ⟨by decide +kernel, by decide +kernel, by rw [hA]; decide +kernel⟩ (by decide) hk hc1 hs1 hsize hst hW hdg
theorem cv_HM_137_La (S : CallFix p m c cc nL s args tbl "HoldMaps") (hB : so_B tbl s0 D vcl tys) (K : va_K D vcl tys s) (E : so_Kn s0 s) (P : so_P D vcl s0.heap.size σ H) (hS : va_S (so_A s0.heap.size) s.heap H locs) (he : σ o = some (tg, .inr (8, fs))) (hM : Met l y_Ta_valueAt [.code y_Ta_valueAt b_Ta_valueAt 3 (some .int)] (so_rm k1 mc ms) (va_Pc (.ref o :: As) (so_Pre s0 D vcl σ)) Qc mc ms free) (hA : As.length = 1) (hk : k1 < k) (hc1 : cells + mc ≤ mcR) (hs1 : slots + ms ≤ msR) (hsize : ls.size = nL) (hst : st0 = As.reverse ++ .ref o :: rest) (hW : (rest.map fun v => v.category).sum ≤ 8) (hdg : decode cc pc = .ok (.invokevirtual 137, 3)) : va_Run p l e (so_rm k mcR msR) s m args below meth c H locs cells slots mc ms (F0 m pc ls st0) rest (Qc (Value.ref o :: As).toArray) free := ru_U (x := ⟨"HoldMaps$Table", "valueAt", "(I)I"⟩) (owner := "HoldMaps$Table") S hB K E P hS hM he rfl wd_685 wd_687 (va_Decl.of (S.2.2.2.2 _ wd_686) (S.2.2.2.2 _ wd_693)) wd_686 wd_689 wd_693 wd_3 ⟨by decide +kernel, by decide +kernel, by rw [hA]; decide +kernel⟩ (by decide) hk hc1 hs1 hsize hst hW hdg
theorem gf_Ta_21_En (S : CallFix p m c cc nL s args tbl "HoldMaps$Table") (K : va_K D vcl tys s) (P : so_P D vcl N0 σ H) (he : σ a = some (tg, .inr (3, fs))) (hv : fs[2]? = some v) (hdg : decode cc pc = .ok (.getfield 21, 3)) (kk : W p l e R s m args below meth c H locs cells slots Q (F0 m (pc + 3) ls (v :: rest))) : W p l e R s m args below meth c H locs cells slots Q (F0 m pc ls (.ref a :: rest)) := so_get S K P (T := F_En) (N := 4) i_En he rfl 2 (by decide) (S.2.2.2.2 _ wd_507) (fun _ h => h) hv hdg kk
theorem cv_Lw_32_HM (S : CallFix p m c cc nL s args tbl "HoldMapsLaw") (hB : so_B tbl s0 D vcl tys) (K : va_K D vcl tys s) (E : so_Kn s0 s) (P : so_P D vcl s0.heap.size σ H) (hS : va_S (so_A s0.heap.size) s.heap H locs) (he : σ o = some (tg, .inr (0, fs))) (hM : Met l y_HM_remove [.code y_HM_remove b_HM_remove 6 (some .int)] (so_rm k1 mc ms) (va_Pc (.ref o :: As) (so_Pre s0 D vcl σ)) Qc mc ms free) (hA : As.length = 2) (hk : k1 < k) (hc1 : cells + mc ≤ mcR) (hs1 : slots + ms ≤ msR) (hsize : ls.size = nL) (hst : st0 = As.reverse ++ .ref o :: rest) (hW : (rest.map fun v => v.category).sum ≤ 8) (hdg : decode cc pc = .ok (.invokevirtual 32, 3)) : va_Run p l e (so_rm k mcR msR) s m args below meth c H locs cells slots mc ms (F0 m pc ls st0) rest (Qc (Value.ref o :: As).toArray) free := ru_V S hB K E P hS hM he rfl wd_697 wd_698 wd_699 wd_700 wd_1 ⟨by decide +kernel, by decide +kernel, by rw [hA]; decide +kernel⟩ (by decide) hk hc1 hs1 hsize hst hW hdg
theorem cv_HM_140_We (S : CallFix p m c cc nL s args tbl "HoldMaps") (hB : so_B tbl s0 D vcl tys) (K : va_K D vcl tys s) (E : so_Kn s0 s) (P : so_P D vcl s0.heap.size σ H) (hS : va_S (so_A s0.heap.size) s.heap H locs) (he : σ o = some (tg, .inr (4, fs))) (hM : Met l y_Ro_dropAt [.code y_Ro_dropAt b_Ro_dropAt 2 none] (so_rm k1 mc ms) (va_Pc (.ref o :: As) (so_Pre s0 D vcl σ)) Qc mc ms free) (hA : As.length = 1) (hk : k1 < k) (hc1 : cells + mc ≤ mcR) (hs1 : slots + ms ≤ msR) (hsize : ls.size = nL) (hst : st0 = As.reverse ++ .ref o :: rest) (hW : (rest.map fun v => v.category).sum ≤ 8) (hdg : decode cc pc = .ok (.invokevirtual 140, 3)) : va_Run p l e (so_rm k mcR msR) s m args below meth c H locs cells slots mc ms (F0 m pc ls st0) rest (Qc (Value.ref o :: As).toArray) free := ru_U (x := ⟨"HoldMaps$Table", "dropAt", "(I)V"⟩) (owner := "HoldMaps$Table") S hB K E P hS hM he rfl wd_701 wd_703 (va_Decl.abs (va_Nw.of rfl (S.2.2.2.2 _ wd_702))) wd_603 wd_720 wd_604 wd_4 ⟨by decide +kernel, by decide +kernel, by rw [hA]; decide +kernel⟩ (by decide) hk hc1 hs1 hsize hst hW hdg
theorem cv_HM_140_So (S : CallFix p m c cc nL s args tbl "HoldMaps") (hB : so_B tbl s0 D vcl tys) (K : va_K D vcl tys s) (E : so_Kn s0 s) (P : so_P D vcl s0.heap.size σ H) (hS : va_S (so_A s0.heap.size) s.heap H locs) (he : σ o = some (tg, .inr (5, fs))) (hM : Met l y_Ro_dropAt [.code y_Ro_dropAt b_Ro_dropAt 2 none] (so_rm k1 mc ms) (va_Pc (.ref o :: As) (so_Pre s0 D vcl σ)) Qc mc ms free) (hA : As.length = 1) (hk : k1 < k) (hc1 : cells + mc ≤ mcR) (hs1 : slots + ms ≤ msR) (hsize : ls.size = nL) (hst : st0 = As.reverse ++ .ref o :: rest) (hW : (rest.map fun v => v.category).sum ≤ 8) (hdg : decode cc pc = .ok (.invokevirtual 140, 3)) : va_Run p l e (so_rm k mcR msR) s m args below meth c H locs cells slots mc ms (F0 m pc ls st0) rest (Qc (Value.ref o :: As).toArray) free := ru_U (x := ⟨"HoldMaps$Table", "dropAt", "(I)V"⟩) (owner := "HoldMaps$Table") S hB K E P hS hM he rfl wd_701 wd_703 (va_Decl.abs (va_Nw.of rfl (S.2.2.2.2 _ wd_702))) wd_603 wd_719 wd_604 wd_4 ⟨by decide +kernel, by decide +kernel, by rw [hA]; decide +kernel⟩ (by decide) hk hc1 hs1 hsize hst hW hdg
theorem cv_HM_140_Id (S : CallFix p m c cc nL s args tbl "HoldMaps") (hB : so_B tbl s0 D vcl tys) (K : va_K D vcl tys s) (E : so_Kn s0 s) (P : so_P D vcl s0.heap.size σ H) (hS : va_S (so_A s0.heap.size) s.heap H locs) (he : σ o = some (tg, .inr (6, fs))) (hM : Met l y_Id_dropAt [.code y_Id_dropAt b_Id_dropAt 3 none] (so_rm k1 mc ms) (va_Pc (.ref o :: As) (so_Pre s0 D vcl σ)) Qc mc ms free) (hA : As.length = 1) (hk : k1 < k) (hc1 : cells + mc ≤ mcR) (hs1 : slots + ms ≤ msR) (hsize : ls.size = nL) (hst : st0 = As.reverse ++ .ref o :: rest) (hW : (rest.map fun v => v.category).sum ≤ 8) (hdg : decode cc pc = .ok (.invokevirtual 140, 3)) : va_Run p l e (so_rm k mcR msR) s m args below meth c H locs cells slots mc ms (F0 m pc ls st0) rest (Qc (Value.ref o :: As).toArray) free := ru_U (x := ⟨"HoldMaps$Table", "dropAt", "(I)V"⟩) (owner := "HoldMaps$Table") S hB K E P hS hM he rfl wd_701 wd_703 (va_Decl.abs (va_Nw.of rfl (S.2.2.2.2 _ wd_702))) wd_705 wd_704 wd_706 wd_10 ⟨by decide +kernel, by decide +kernel, by rw [hA]; decide +kernel⟩ (by decide) hk hc1 hs1 hsize hst hW hdg
theorem cv_HM_140_Pl (S : CallFix p m c cc nL s args tbl "HoldMaps") (hB : so_B tbl s0 D vcl tys) (K : va_K D vcl tys s) (E : so_Kn s0 s) (P : so_P D vcl s0.heap.size σ H) (hS : va_S (so_A s0.heap.size) s.heap H locs) (he : σ o = some (tg, .inr (7, fs))) (hM : Met l y_Ro_dropAt [.code y_Ro_dropAt b_Ro_dropAt 2 none] (so_rm k1 mc ms) (va_Pc (.ref o :: As) (so_Pre s0 D vcl σ)) Qc mc ms free) (hA : As.length = 1) (hk : k1 < k) (hc1 : cells + mc ≤ mcR) (hs1 : slots + ms ≤ msR) (hsize : ls.size = nL) (hst : st0 = As.reverse ++ .ref o :: rest) (hW : (rest.map fun v => v.category).sum ≤ 8) (hdg : decode cc pc = .ok (.invokevirtual 140, 3)) : va_Run p l e (so_rm k mcR msR) s m args below meth c H locs cells slots mc ms (F0 m pc ls st0) rest (Qc (Value.ref o :: As).toArray) free := ru_U (x := ⟨"HoldMaps$Table", "dropAt", "(I)V"⟩) (owner := "HoldMaps$Table") S hB K E P hS hM he rfl wd_701 wd_703 (va_Decl.abs (va_Nw.of rfl (S.2.2.2.2 _ wd_702))) wd_603 wd_718 wd_604 wd_4 ⟨by decide +kernel, by decide +kernel, by rw [hA]; decide +kernel⟩ (by decide) hk hc1 hs1 hsize hst hW hdg
theorem cv_HM_140_La (S : CallFix p m c cc nL s args tbl "HoldMaps") (hB : so_B tbl s0 D vcl tys) (K : va_K D vcl tys s) (E : so_Kn s0 s) (P : so_P D vcl s0.heap.size σ H) (hS : va_S (so_A s0.heap.size) s.heap H locs) (he : σ o = some (tg, .inr (8, fs))) (hM : Met l y_Ro_dropAt [.code y_Ro_dropAt b_Ro_dropAt 2 none] (so_rm k1 mc ms) (va_Pc (.ref o :: As) (so_Pre s0 D vcl σ)) Qc mc ms free) (hA : As.length = 1) (hk : k1 < k) (hc1 : cells + mc ≤ mcR) (hs1 : slots + ms ≤ msR) (hsize : ls.size = nL) (hst : st0 = As.reverse ++ .ref o :: rest) (hW : (rest.map fun v => v.category).sum ≤ 8) (hdg : decode cc pc = .ok (.invokevirtual 140, 3)) : va_Run p l e (so_rm k mcR msR) s m args below meth c H locs cells slots mc ms (F0 m pc ls st0) rest (Qc (Value.ref o :: As).toArray) free := ru_U (x := ⟨"HoldMaps$Table", "dropAt", "(I)V"⟩) (owner := "HoldMaps$Table") S hB K E P hS hM he rfl wd_701 wd_703 (va_Decl.abs (va_Nw.of rfl (S.2.2.2.2 _ wd_702))) wd_603 wd_717 wd_604 wd_4 ⟨by decide +kernel, by decide +kernel, by rw [hA]; decide +kernel⟩ (by decide) hk hc1 hs1 hsize hst hW hdg
theorem cv_Id_33_Id (S : CallFix p m c cc nL s args tbl "HoldMaps$IdentityMap") (hB : so_B tbl s0 D vcl tys) (K : va_K D vcl tys s) (E : so_Kn s0 s) (P : so_P D vcl s0.heap.size σ H) (hS : va_S (so_A s0.heap.size) s.heap H locs) (he : σ o = some (tg, .inr (6, fs))) (hM : Met l y_Id_closeUp [.code y_Id_closeUp b_Id_closeUp 6 none] (so_rm k1 mc ms) (va_Pc (.ref o :: As) (so_Pre s0 D vcl σ)) Qc mc ms free) (hA : As.length = 1) (hk : k1 < k) (hc1 : cells + mc ≤ mcR) (hs1 : slots + ms ≤ msR) (hsize : ls.size = nL) (hst : st0 = As.reverse ++ .ref o :: rest) (hW : (rest.map fun v => v.category).sum ≤ 8) (hdg : decode cc pc = .ok (.invokevirtual 33, 3)) : va_Run p l e (so_rm k mcR msR) s m args below meth c H locs cells slots mc ms (F0 m pc ls st0) rest (Qc (Value.ref o :: As).toArray) free := ru_V S hB K E P hS hM he rfl wd_707 wd_709 (tbl_sel (q := (y_Id_closeUp, 5)) (List.mem_of_getElem? (i := 11) rfl)) wd_710 wd_10 ⟨by decide +kernel, by decide +kernel, by rw [hA]; decide +kernel⟩ (by decide) hk hc1 hs1 hsize hst hW hdg
theorem cs_Id_40 (S : CallFix p m c cc nL s args tbl "HoldMaps$IdentityMap") (hB : so_B tbl s0 D vcl tys) (E : so_Kn s0 s) (P : so_P D vcl s0.heap.size σ H) (hS : va_S (so_A s0.heap.size) s.heap H locs) (hM : Met l y_Id_liesBehind [.code y_Id_liesBehind b_Id_liesBehind 4 (some .boolean)] (so_rm k1 mc ms) (va_Pc As (so_Pre s0 D vcl σ)) Qc mc ms free) (hA : As.length = 3) (hk : k1 < k) (hc1 : cells + mc ≤ mcR) (hs1 : slots + ms ≤ msR) (hsize : ls.size = nL) (hst : st0 = As.reverse ++ rest) (hW : (rest.map fun v => v.category).sum ≤ 8) (hdg : decode cc pc = .ok (.invokestatic 40, 3)) : va_Run p l e (so_rm k mcR msR) s m args below meth c H locs cells slots mc ms (F0 m pc ls st0) rest (Qc As.toArray) free := ru_S S hB E P hS hM wd_711 wd_712 wd_713 wd_10 ⟨by decide +kernel, by decide +kernel, by rw [hA]; decide +kernel⟩ (by decide) hk hc1 hs1 hsize hst hW hdg
theorem cs_Id_44 (S : CallFix p m c cc nL s args tbl "HoldMaps$IdentityMap") (hB : so_B tbl s0 D vcl tys) (E : so_Kn s0 s) (P : so_P D vcl s0.heap.size σ H) (hS : va_S (so_A s0.heap.size) s.heap H locs) (hM : Met l y_Ma_floorMod [.code y_Ma_floorMod b_Ma_floorMod 3 (some .int)] (so_rm k1 mc ms) (va_Pc As (so_Pre s0 D vcl σ)) Qc mc ms free) (hA : As.length = 2) (hk : k1 < k) (hc1 : cells + mc ≤ mcR) (hs1 : slots + ms ≤ msR) (hsize : ls.size = nL) (hst : st0 = As.reverse ++ rest) (hW : (rest.map fun v => v.category).sum ≤ 8) (hdg : decode cc pc = .ok (.invokestatic 44, 3)) : va_Run p l e (so_rm k mcR msR) s m args below meth c H locs cells slots mc ms (F0 m pc ls st0) rest (Qc As.toArray) free := ru_S S hB E P hS hM wd_714 wd_715 wd_716 wd_24 ⟨by decide +kernel, by decide +kernel, by rw [hA]; decide +kernel⟩ (by decide) hk hc1 hs1 hsize hst hW hdg
theorem cv_Lw_35_HM (S : CallFix p m c cc nL s args tbl "HoldMapsLaw") (hB : so_B tbl s0 D vcl tys) (K : va_K D vcl tys s) (E : so_Kn s0 s) (P : so_P D vcl s0.heap.size σ H) (hS : va_S (so_A s0.heap.size) s.heap H locs) (he : σ o = some (tg, .inr (0, fs))) (hM : Met l y_HM_entry [.code y_HM_entry b_HM_entry 5 (some .int)] (so_rm k1 mc ms) (va_Pc (.ref o :: As) (so_Pre s0 D vcl σ)) Qc mc ms free) (hA : As.length = 3) (hk : k1 < k) (hc1 : cells + mc ≤ mcR) (hs1 : slots + ms ≤ msR) (hsize : ls.size = nL) (hst : st0 = As.reverse ++ .ref o :: rest) (hW : (rest.map fun v => v.category).sum ≤ 8) (hdg : decode cc pc = .ok (.invokevirtual 35, 3)) : va_Run p l e (so_rm k mcR msR) s m args below meth c H locs cells slots mc ms (F0 m pc ls st0) rest (Qc (Value.ref o :: As).toArray) free := ru_V S hB K E P hS hM he rfl wd_725 wd_726 wd_727 wd_728 wd_1 ⟨by decide +kernel, by decide +kernel, by rw [hA]; decide +kernel⟩ (by decide) hk hc1 hs1 hsize hst hW hdg
theorem ci_HM_153 (S : CallFix p m c cc nL s args tbl "HoldMaps") (hB : so_B tbl s0 D vcl tys) (E : so_Kn s0 s) (P : so_P D vcl s0.heap.size σ H) (hS : va_S (so_A s0.heap.size) s.heap H locs) (hM : Met l y_Ns_init [.code y_Ns_init b_Ns_init 2 none] (so_rm k1 mc ms) (va_Pc (.ref o :: As) (so_Pre s0 D vcl σ)) Qc mc ms free) (hA : As.length = 1) (hk : k1 < k) (hc1 : cells + mc ≤ mcR) (hs1 : slots + ms ≤ msR) (hsize : ls.size = nL) (hst : st0 = As.reverse ++ .ref o :: rest) (hW : (rest.map fun v => v.category).sum ≤ 8) (hdg : decode cc pc = .ok (.invokespecial 153, 3)) : va_Run p l e (so_rm k mcR msR) s m args below meth c H locs cells slots mc ms (F0 m pc ls st0) rest (Qc (Value.ref o :: As).toArray) free := ru_I S hB E P hS hM wd_739 wd_740 wd_741 wd_27 rfl ⟨by decide +kernel, by decide +kernel, by rw [hA]; decide +kernel⟩ (by decide) hk hc1 hs1 hsize hst hW hdg
theorem cv_HM_154_We (S : CallFix p m c cc nL s args tbl "HoldMaps") (hB : so_B tbl s0 D vcl tys) (K : va_K D vcl tys s) (E : so_Kn s0 s) (P : so_P D vcl s0.heap.size σ H) (hS : va_S (so_A s0.heap.size) s.heap H locs) (he : σ o = some (tg, .inr (4, fs))) (hM : Met l y_Ta_keyAt [.code y_Ta_keyAt b_Ta_keyAt 3 (some .int)] (so_rm k1 mc ms) (va_Pc (.ref o :: As) (so_Pre s0 D vcl σ)) Qc mc ms free) (hA : As.length = 1) (hk : k1 < k) (hc1 : cells + mc ≤ mcR) (hs1 : slots + ms ≤ msR) (hsize : ls.size = nL) (hst : st0 = As.reverse ++ .ref o :: rest) (hW : (rest.map fun v => v.category).sum ≤ 8) (hdg : decode cc pc = .ok (.invokevirtual 154, 3)) : va_Run p l e (so_rm k mcR msR) s m args below meth c H locs cells slots mc ms (F0 m pc ls st0) rest (Qc (Value.ref o :: As).toArray) free := ru_U (x := ⟨"HoldMaps$Table", "keyAt", "(I)I"⟩) (owner := "HoldMaps$Table") S hB K E P hS hM he rfl wd_745 wd_747 (va_Decl.abs (va_Nw.of rfl (S.2.2.2.2 _ wd_843))) wd_746 wd_752 wd_753 wd_3 ⟨by decide +kernel, by decide +kernel, by rw [hA]; decide +kernel⟩ (by decide) hk hc1 hs1 hsize hst hW hdg
theorem cv_HM_154_So (S : CallFix p m c cc nL s args tbl "HoldMaps") (hB : so_B tbl s0 D vcl tys) (K : va_K D vcl tys s) (E : so_Kn s0 s) (P : so_P D vcl s0.heap.size σ H) (hS : va_S (so_A s0.heap.size) s.heap H locs) (he : σ o = some (tg, .inr (5, fs))) (hM : Met l y_Ta_keyAt [.code y_Ta_keyAt b_Ta_keyAt 3 (some .int)] (so_rm k1 mc ms) (va_Pc (.ref o :: As) (so_Pre s0 D vcl σ)) Qc mc ms free) (hA : As.length = 1) (hk : k1 < k) (hc1 : cells + mc ≤ mcR) (hs1 : slots + ms ≤ msR) (hsize : ls.size = nL) (hst : st0 = As.reverse ++ .ref o :: rest) (hW : (rest.map fun v => v.category).sum ≤ 8) (hdg : decode cc pc = .ok (.invokevirtual 154, 3)) : va_Run p l e (so_rm k mcR msR) s m args below meth c H locs cells slots mc ms (F0 m pc ls st0) rest (Qc (Value.ref o :: As).toArray) free := ru_U (x := ⟨"HoldMaps$Table", "keyAt", "(I)I"⟩) (owner := "HoldMaps$Table") S hB K E P hS hM he rfl wd_745 wd_747 (va_Decl.abs (va_Nw.of rfl (S.2.2.2.2 _ wd_843))) wd_746 wd_751 wd_753 wd_3 ⟨by decide +kernel, by decide +kernel, by rw [hA]; decide +kernel⟩ (by decide) hk hc1 hs1 hsize hst hW hdg
theorem cv_HM_154_Id (S : CallFix p m c cc nL s args tbl "HoldMaps") (hB : so_B tbl s0 D vcl tys) (K : va_K D vcl tys s) (E : so_Kn s0 s) (P : so_P D vcl s0.heap.size σ H) (hS : va_S (so_A s0.heap.size) s.heap H locs) (he : σ o = some (tg, .inr (6, fs))) (hM : Met l y_Ta_keyAt [.code y_Ta_keyAt b_Ta_keyAt 3 (some .int)] (so_rm k1 mc ms) (va_Pc (.ref o :: As) (so_Pre s0 D vcl σ)) Qc mc ms free) (hA : As.length = 1) (hk : k1 < k) (hc1 : cells + mc ≤ mcR) (hs1 : slots + ms ≤ msR) (hsize : ls.size = nL) (hst : st0 = As.reverse ++ .ref o :: rest) (hW : (rest.map fun v => v.category).sum ≤ 8) (hdg : decode cc pc = .ok (.invokevirtual 154, 3)) : va_Run p l e (so_rm k mcR msR) s m args below meth c H locs cells slots mc ms (F0 m pc ls st0) rest (Qc (Value.ref o :: As).toArray) free := ru_U (x := ⟨"HoldMaps$Table", "keyAt", "(I)I"⟩) (owner := "HoldMaps$Table") S hB K E P hS hM he rfl wd_745 wd_747 (va_Decl.abs (va_Nw.of rfl (S.2.2.2.2 _ wd_843))) wd_746 wd_748 wd_753 wd_3 ⟨by decide +kernel, by decide +kernel, by rw [hA]; decide +kernel⟩ (by decide) hk hc1 hs1 hsize hst hW hdg
theorem cv_HM_154_Pl (S : CallFix p m c cc nL s args tbl "HoldMaps") (hB : so_B tbl s0 D vcl tys) (K : va_K D vcl tys s) (E : so_Kn s0 s) (P : so_P D vcl s0.heap.size σ H) (hS : va_S (so_A s0.heap.size) s.heap H locs) (he : σ o = some (tg, .inr (7, fs))) (hM : Met l y_Ta_keyAt [.code y_Ta_keyAt b_Ta_keyAt 3 (some .int)] (so_rm k1 mc ms) (va_Pc (.ref o :: As) (so_Pre s0 D vcl σ)) Qc mc ms free) (hA : As.length = 1) (hk : k1 < k) (hc1 : cells + mc ≤ mcR) (hs1 : slots + ms ≤ msR) (hsize : ls.size = nL) (hst : st0 = As.reverse ++ .ref o :: rest) (hW : (rest.map fun v => v.category).sum ≤ 8) (hdg : decode cc pc = .ok (.invokevirtual 154, 3)) : va_Run p l e (so_rm k mcR msR) s m args below meth c H locs cells slots mc ms (F0 m pc ls st0) rest (Qc (Value.ref o :: As).toArray) free := ru_U (x := ⟨"HoldMaps$Table", "keyAt", "(I)I"⟩) (owner := "HoldMaps$Table") S hB K E P hS hM he rfl wd_745 wd_747 (va_Decl.abs (va_Nw.of rfl (S.2.2.2.2 _ wd_843))) wd_746 wd_750 wd_753 wd_3 ⟨by decide +kernel, by decide +kernel, by rw [hA]; decide +kernel⟩ (by decide) hk hc1 hs1 hsize hst hW hdg
theorem cv_HM_154_La (S : CallFix p m c cc nL s args tbl "HoldMaps") (hB : so_B tbl s0 D vcl tys) (K : va_K D vcl tys s) (E : so_Kn s0 s) (P : so_P D vcl s0.heap.size σ H) (hS : va_S (so_A s0.heap.size) s.heap H locs) (he : σ o = some (tg, .inr (8, fs))) (hM : Met l y_Ta_keyAt [.code y_Ta_keyAt b_Ta_keyAt 3 (some .int)] (so_rm k1 mc ms) (va_Pc (.ref o :: As) (so_Pre s0 D vcl σ)) Qc mc ms free) (hA : As.length = 1) (hk : k1 < k) (hc1 : cells + mc ≤ mcR) (hs1 : slots + ms ≤ msR) (hsize : ls.size = nL) (hst : st0 = As.reverse ++ .ref o :: rest) (hW : (rest.map fun v => v.category).sum ≤ 8) (hdg : decode cc pc = .ok (.invokevirtual 154, 3)) : va_Run p l e (so_rm k mcR msR) s m args below meth c H locs cells slots mc ms (F0 m pc ls st0) rest (Qc (Value.ref o :: As).toArray) free := ru_U (x := ⟨"HoldMaps$Table", "keyAt", "(I)I"⟩) (owner := "HoldMaps$Table") S hB K E P hS hM he rfl wd_745 wd_747 (va_Decl.abs (va_Nw.of rfl (S.2.2.2.2 _ wd_843))) wd_746 wd_749 wd_753 wd_3 ⟨by decide +kernel, by decide +kernel, by rw [hA]; decide +kernel⟩ (by decide) hk hc1 hs1 hsize hst hW hdg
theorem ci_Ns_13 (S : CallFix p m c cc nL s args tbl "java/util/NoSuchElementException") (hB : so_B tbl s0 D vcl tys) (E : so_Kn s0 s) (P : so_P D vcl s0.heap.size σ H) (hS : va_S (so_A s0.heap.size) s.heap H locs) (hM : Met l y_Re_init [.code y_Re_init b_Re_init 2 none] (so_rm k1 mc ms) (va_Pc (.ref o :: As) (so_Pre s0 D vcl σ)) Qc mc ms free) (hA : As.length = 1) (hk : k1 < k) (hc1 : cells + mc ≤ mcR) (hs1 : slots + ms ≤ msR) (hsize : ls.size = nL) (hst : st0 = As.reverse ++ .ref o :: rest) (hW : (rest.map fun v => v.category).sum ≤ 8) (hdg : decode cc pc = .ok (.invokespecial 13, 3)) : va_Run p l e (so_rm k mcR msR) s m args below meth c H locs cells slots mc ms (F0 m pc ls st0) rest (Qc (Value.ref o :: As).toArray) free := ru_I S hB E P hS hM wd_742 wd_300 wd_301 wd_16 rfl ⟨by decide +kernel, by decide +kernel, by rw [hA]; decide +kernel⟩ (by decide) hk hc1 hs1 hsize hst hW hdg
theorem gf_Ta_15_En (S : CallFix p m c cc nL s args tbl "HoldMaps$Table") (K : va_K D vcl tys s) (P : so_P D vcl N0 σ H) (he : σ a = some (tg, .inr (3, fs))) (hv : fs[0]? = some v) (hdg : decode cc pc = .ok (.getfield 15, 3)) (kk : W p l e R s m args below meth c H locs cells slots Q (F0 m (pc + 3) ls (v :: rest))) : W p l e R s m args below meth c H locs cells slots Q (F0 m pc ls (.ref a :: rest)) := so_get S K P (T := F_En) (N := 4) i_En he rfl 0 (by decide) (S.2.2.2.2 _ wd_500) (fun _ h => h) hv hdg kk
theorem cv_Lw_40_HM (S : CallFix p m c cc nL s args tbl "HoldMapsLaw") (hB : so_B tbl s0 D vcl tys) (K : va_K D vcl tys s) (E : so_Kn s0 s) (P : so_P D vcl s0.heap.size σ H) (hS : va_S (so_A s0.heap.size) s.heap H locs) (he : σ o = some (tg, .inr (0, fs))) (hM : Met l y_HM_walk [.code y_HM_walk b_HM_walk 3 none] (so_rm k1 mc ms) (va_Pc (.ref o :: As) (so_Pre s0 D vcl σ)) Qc mc ms free) (hA : As.length = 1) (hk : k1 < k) (hc1 : cells + mc ≤ mcR) (hs1 : slots + ms ≤ msR) (hsize : ls.size = nL) (hst : st0 = As.reverse ++ .ref o :: rest) (hW : (rest.map fun v => v.category).sum ≤ 8) (hdg : decode cc pc = .ok (.invokevirtual 40, 3)) : va_Run p l e (so_rm k mcR msR) s m args below meth c H locs cells slots mc ms (F0 m pc ls st0) rest (Qc (Value.ref o :: As).toArray) free := ru_V S hB K E P hS hM he rfl wd_758 wd_759 wd_760 wd_761 wd_1 ⟨by decide +kernel, by decide +kernel, by rw [hA]; decide +kernel⟩ (by decide) hk hc1 hs1 hsize hst hW hdg
theorem pf_HM_161_We (S : CallFix p m c cc nL s args tbl "HoldMaps") (K : va_K D vcl tys s) (P : so_P D vcl N0 σ H) (hS : va_S (so_A N0) H0 H locs) (he : σ a = some (tg, .inr (4, fs))) (hl : 0 < fs.length) (hn : narrow (.boolean) v = v) (hf : fits (.boolean) v = true) (hdg : decode cc pc = .ok (.putfield 161, 3)) (kk : ∀ (H1 : Heap) (locs1 : List Loc), so_P D vcl N0 (so_up σ a (tg, .inr (4, fs.set 0 v))) H1 → va_S (so_A N0) H0 H1 locs1 → W p l e R s m args below meth c H1 locs1 cells slots Q (F0 m (pc + 3) ls rest)) : W p l e R s m args below meth c H locs cells slots Q (F0 m pc ls (v :: .ref a :: rest)) := so_put S K P hS (T := F_We) (N := 6) i_We t_We t_We_ok n_We he rfl 0 (by decide) (S.2.2.2.2 _ wd_112) (fun _ h => h) rfl (by decide +kernel) hn hf hl hdg kk
theorem pf_HM_161_So (S : CallFix p m c cc nL s args tbl "HoldMaps") (K : va_K D vcl tys s) (P : so_P D vcl N0 σ H) (hS : va_S (so_A N0) H0 H locs) (he : σ a = some (tg, .inr (5, fs))) (hl : 0 < fs.length) (hn : narrow (.boolean) v = v) (hf : fits (.boolean) v = true) (hdg : decode cc pc = .ok (.putfield 161, 3)) (kk : ∀ (H1 : Heap) (locs1 : List Loc), so_P D vcl N0 (so_up σ a (tg, .inr (5, fs.set 0 v))) H1 → va_S (so_A N0) H0 H1 locs1 → W p l e R s m args below meth c H1 locs1 cells slots Q (F0 m (pc + 3) ls rest)) : W p l e R s m args below meth c H locs cells slots Q (F0 m pc ls (v :: .ref a :: rest)) := so_put S K P hS (T := F_So) (N := 5) i_So t_So t_So_ok n_So he rfl 0 (by decide) (S.2.2.2.2 _ wd_112) (fun _ h => h) rfl (by decide +kernel) hn hf hl hdg kk
theorem pf_HM_161_Id (S : CallFix p m c cc nL s args tbl "HoldMaps") (K : va_K D vcl tys s) (P : so_P D vcl N0 σ H) (hS : va_S (so_A N0) H0 H locs) (he : σ a = some (tg, .inr (6, fs))) (hl : 0 < fs.length) (hn : narrow (.boolean) v = v) (hf : fits (.boolean) v = true) (hdg : decode cc pc = .ok (.putfield 161, 3)) (kk : ∀ (H1 : Heap) (locs1 : List Loc), so_P D vcl N0 (so_up σ a (tg, .inr (6, fs.set 0 v))) H1 → va_S (so_A N0) H0 H1 locs1 → W p l e R s m args below meth c H1 locs1 cells slots Q (F0 m (pc + 3) ls rest)) : W p l e R s m args below meth c H locs cells slots Q (F0 m pc ls (v :: .ref a :: rest)) := so_put S K P hS (T := F_Id) (N := 5) i_Id t_Id t_Id_ok n_Id he rfl 0 (by decide) (S.2.2.2.2 _ wd_112) (fun _ h => h) rfl (by decide +kernel) hn hf hl hdg kk
theorem pf_HM_161_Pl (S : CallFix p m c cc nL s args tbl "HoldMaps") (K : va_K D vcl tys s) (P : so_P D vcl N0 σ H) (hS : va_S (so_A N0) H0 H locs) (he : σ a = some (tg, .inr (7, fs))) (hl : 0 < fs.length) (hn : narrow (.boolean) v = v) (hf : fits (.boolean) v = true) (hdg : decode cc pc = .ok (.putfield 161, 3)) (kk : ∀ (H1 : Heap) (locs1 : List Loc), so_P D vcl N0 (so_up σ a (tg, .inr (7, fs.set 0 v))) H1 → va_S (so_A N0) H0 H1 locs1 → W p l e R s m args below meth c H1 locs1 cells slots Q (F0 m (pc + 3) ls rest)) : W p l e R s m args below meth c H locs cells slots Q (F0 m pc ls (v :: .ref a :: rest)) := so_put S K P hS (T := F_Pl) (N := 4) i_Pl t_Pl t_Pl_ok n_Pl he rfl 0 (by decide) (S.2.2.2.2 _ wd_112) (fun _ h => h) rfl (by decide +kernel) hn hf hl hdg kk
theorem pf_HM_161_La (S : CallFix p m c cc nL s args tbl "HoldMaps") (K : va_K D vcl tys s) (P : so_P D vcl N0 σ H) (hS : va_S (so_A N0) H0 H locs) (he : σ a = some (tg, .inr (8, fs))) (hl : 0 < fs.length) (hn : narrow (.boolean) v = v) (hf : fits (.boolean) v = true) (hdg : decode cc pc = .ok (.putfield 161, 3)) (kk : ∀ (H1 : Heap) (locs1 : List Loc), so_P D vcl N0 (so_up σ a (tg, .inr (8, fs.set 0 v))) H1 → va_S (so_A N0) H0 H1 locs1 → W p l e R s m args below meth c H1 locs1 cells slots Q (F0 m (pc + 3) ls rest)) : W p l e R s m args below meth c H locs cells slots Q (F0 m pc ls (v :: .ref a :: rest)) := so_put S K P hS (T := F_La) (N := 4) i_La t_La t_La_ok n_La he rfl 0 (by decide) (S.2.2.2.2 _ wd_112) (fun _ h => h) rfl (by decide +kernel) hn hf hl hdg kk
theorem pf_HM_164_We (S : CallFix p m c cc nL s args tbl "HoldMaps") (K : va_K D vcl tys s) (P : so_P D vcl N0 σ H) (hS : va_S (so_A N0) H0 H locs) (he : σ a = some (tg, .inr (4, fs))) (hl : 1 < fs.length) (hn : narrow (.boolean) v = v) (hf : fits (.boolean) v = true) (hdg : decode cc pc = .ok (.putfield 164, 3)) (kk : ∀ (H1 : Heap) (locs1 : List Loc), so_P D vcl N0 (so_up σ a (tg, .inr (4, fs.set 1 v))) H1 → va_S (so_A N0) H0 H1 locs1 → W p l e R s m args below meth c H1 locs1 cells slots Q (F0 m (pc + 3) ls rest)) : W p l e R s m args below meth c H locs cells slots Q (F0 m pc ls (v :: .ref a :: rest)) := so_put S K P hS (T := F_We) (N := 6) i_We t_We t_We_ok n_We he rfl 1 (by decide) (S.2.2.2.2 _ wd_121) (fun _ h => h) rfl (by decide +kernel) hn hf hl hdg kk
theorem pf_HM_164_So (S : CallFix p m c cc nL s args tbl "HoldMaps") (K : va_K D vcl tys s) (P : so_P D vcl N0 σ H) (hS : va_S (so_A N0) H0 H locs) (he : σ a = some (tg, .inr (5, fs))) (hl : 1 < fs.length) (hn : narrow (.boolean) v = v) (hf : fits (.boolean) v = true) (hdg : decode cc pc = .ok (.putfield 164, 3)) (kk : ∀ (H1 : Heap) (locs1 : List Loc), so_P D vcl N0 (so_up σ a (tg, .inr (5, fs.set 1 v))) H1 → va_S (so_A N0) H0 H1 locs1 → W p l e R s m args below meth c H1 locs1 cells slots Q (F0 m (pc + 3) ls rest)) : W p l e R s m args below meth c H locs cells slots Q (F0 m pc ls (v :: .ref a :: rest)) := so_put S K P hS (T := F_So) (N := 5) i_So t_So t_So_ok n_So he rfl 1 (by decide) (S.2.2.2.2 _ wd_121) (fun _ h => h) rfl (by decide +kernel) hn hf hl hdg kk
theorem pf_HM_164_Id (S : CallFix p m c cc nL s args tbl "HoldMaps") (K : va_K D vcl tys s) (P : so_P D vcl N0 σ H) (hS : va_S (so_A N0) H0 H locs) (he : σ a = some (tg, .inr (6, fs))) (hl : 1 < fs.length) (hn : narrow (.boolean) v = v) (hf : fits (.boolean) v = true) (hdg : decode cc pc = .ok (.putfield 164, 3)) (kk : ∀ (H1 : Heap) (locs1 : List Loc), so_P D vcl N0 (so_up σ a (tg, .inr (6, fs.set 1 v))) H1 → va_S (so_A N0) H0 H1 locs1 → W p l e R s m args below meth c H1 locs1 cells slots Q (F0 m (pc + 3) ls rest)) : W p l e R s m args below meth c H locs cells slots Q (F0 m pc ls (v :: .ref a :: rest)) := so_put S K P hS (T := F_Id) (N := 5) i_Id t_Id t_Id_ok n_Id he rfl 1 (by decide) (S.2.2.2.2 _ wd_121) (fun _ h => h) rfl (by decide +kernel) hn hf hl hdg kk
theorem pf_HM_164_Pl (S : CallFix p m c cc nL s args tbl "HoldMaps") (K : va_K D vcl tys s) (P : so_P D vcl N0 σ H) (hS : va_S (so_A N0) H0 H locs) (he : σ a = some (tg, .inr (7, fs))) (hl : 1 < fs.length) (hn : narrow (.boolean) v = v) (hf : fits (.boolean) v = true) (hdg : decode cc pc = .ok (.putfield 164, 3)) (kk : ∀ (H1 : Heap) (locs1 : List Loc), so_P D vcl N0 (so_up σ a (tg, .inr (7, fs.set 1 v))) H1 → va_S (so_A N0) H0 H1 locs1 → W p l e R s m args below meth c H1 locs1 cells slots Q (F0 m (pc + 3) ls rest)) : W p l e R s m args below meth c H locs cells slots Q (F0 m pc ls (v :: .ref a :: rest)) := so_put S K P hS (T := F_Pl) (N := 4) i_Pl t_Pl t_Pl_ok n_Pl he rfl 1 (by decide) (S.2.2.2.2 _ wd_121) (fun _ h => h) rfl (by decide +kernel) hn hf hl hdg kk
theorem pf_HM_164_La (S : CallFix p m c cc nL s args tbl "HoldMaps") (K : va_K D vcl tys s) (P : so_P D vcl N0 σ H) (hS : va_S (so_A N0) H0 H locs) (he : σ a = some (tg, .inr (8, fs))) (hl : 1 < fs.length) (hn : narrow (.boolean) v = v) (hf : fits (.boolean) v = true) (hdg : decode cc pc = .ok (.putfield 164, 3)) (kk : ∀ (H1 : Heap) (locs1 : List Loc), so_P D vcl N0 (so_up σ a (tg, .inr (8, fs.set 1 v))) H1 → va_S (so_A N0) H0 H1 locs1 → W p l e R s m args below meth c H1 locs1 cells slots Q (F0 m (pc + 3) ls rest)) : W p l e R s m args below meth c H locs cells slots Q (F0 m pc ls (v :: .ref a :: rest)) := so_put S K P hS (T := F_La) (N := 4) i_La t_La t_La_ok n_La he rfl 1 (by decide) (S.2.2.2.2 _ wd_121) (fun _ h => h) rfl (by decide +kernel) hn hf hl hdg kk
theorem pf_HM_167_We (S : CallFix p m c cc nL s args tbl "HoldMaps") (K : va_K D vcl tys s) (P : so_P D vcl N0 σ H) (hS : va_S (so_A N0) H0 H locs) (he : σ a = some (tg, .inr (4, fs))) (hl : 2 < fs.length) (hn : narrow (.int) v = v) (hf : fits (.int) v = true) (hdg : decode cc pc = .ok (.putfield 167, 3)) (kk : ∀ (H1 : Heap) (locs1 : List Loc), so_P D vcl N0 (so_up σ a (tg, .inr (4, fs.set 2 v))) H1 → va_S (so_A N0) H0 H1 locs1 → W p l e R s m args below meth c H1 locs1 cells slots Q (F0 m (pc + 3) ls rest)) : W p l e R s m args below meth c H locs cells slots Q (F0 m pc ls (v :: .ref a :: rest)) := so_put S K P hS (T := F_We) (N := 6) i_We t_We t_We_ok n_We he rfl 2 (by decide) (S.2.2.2.2 _ wd_122) (fun _ h => h) rfl (by decide +kernel) hn hf hl hdg kk
theorem pf_HM_167_So (S : CallFix p m c cc nL s args tbl "HoldMaps") (K : va_K D vcl tys s) (P : so_P D vcl N0 σ H) (hS : va_S (so_A N0) H0 H locs) (he : σ a = some (tg, .inr (5, fs))) (hl : 2 < fs.length) (hn : narrow (.int) v = v) (hf : fits (.int) v = true) (hdg : decode cc pc = .ok (.putfield 167, 3)) (kk : ∀ (H1 : Heap) (locs1 : List Loc), so_P D vcl N0 (so_up σ a (tg, .inr (5, fs.set 2 v))) H1 → va_S (so_A N0) H0 H1 locs1 → W p l e R s m args below meth c H1 locs1 cells slots Q (F0 m (pc + 3) ls rest)) : W p l e R s m args below meth c H locs cells slots Q (F0 m pc ls (v :: .ref a :: rest)) := so_put S K P hS (T := F_So) (N := 5) i_So t_So t_So_ok n_So he rfl 2 (by decide) (S.2.2.2.2 _ wd_122) (fun _ h => h) rfl (by decide +kernel) hn hf hl hdg kk
theorem pf_HM_167_Id (S : CallFix p m c cc nL s args tbl "HoldMaps") (K : va_K D vcl tys s) (P : so_P D vcl N0 σ H) (hS : va_S (so_A N0) H0 H locs) (he : σ a = some (tg, .inr (6, fs))) (hl : 2 < fs.length) (hn : narrow (.int) v = v) (hf : fits (.int) v = true) (hdg : decode cc pc = .ok (.putfield 167, 3)) (kk : ∀ (H1 : Heap) (locs1 : List Loc), so_P D vcl N0 (so_up σ a (tg, .inr (6, fs.set 2 v))) H1 → va_S (so_A N0) H0 H1 locs1 → W p l e R s m args below meth c H1 locs1 cells slots Q (F0 m (pc + 3) ls rest)) : W p l e R s m args below meth c H locs cells slots Q (F0 m pc ls (v :: .ref a :: rest)) := so_put S K P hS (T := F_Id) (N := 5) i_Id t_Id t_Id_ok n_Id he rfl 2 (by decide) (S.2.2.2.2 _ wd_122) (fun _ h => h) rfl (by decide +kernel) hn hf hl hdg kk
theorem pf_HM_167_Pl (S : CallFix p m c cc nL s args tbl "HoldMaps") (K : va_K D vcl tys s) (P : so_P D vcl N0 σ H) (hS : va_S (so_A N0) H0 H locs) (he : σ a = some (tg, .inr (7, fs))) (hl : 2 < fs.length) (hn : narrow (.int) v = v) (hf : fits (.int) v = true) (hdg : decode cc pc = .ok (.putfield 167, 3)) (kk : ∀ (H1 : Heap) (locs1 : List Loc), so_P D vcl N0 (so_up σ a (tg, .inr (7, fs.set 2 v))) H1 → va_S (so_A N0) H0 H1 locs1 → W p l e R s m args below meth c H1 locs1 cells slots Q (F0 m (pc + 3) ls rest)) : W p l e R s m args below meth c H locs cells slots Q (F0 m pc ls (v :: .ref a :: rest)) := so_put S K P hS (T := F_Pl) (N := 4) i_Pl t_Pl t_Pl_ok n_Pl he rfl 2 (by decide) (S.2.2.2.2 _ wd_122) (fun _ h => h) rfl (by decide +kernel) hn hf hl hdg kk
theorem pf_HM_167_La (S : CallFix p m c cc nL s args tbl "HoldMaps") (K : va_K D vcl tys s) (P : so_P D vcl N0 σ H) (hS : va_S (so_A N0) H0 H locs) (he : σ a = some (tg, .inr (8, fs))) (hl : 2 < fs.length) (hn : narrow (.int) v = v) (hf : fits (.int) v = true) (hdg : decode cc pc = .ok (.putfield 167, 3)) (kk : ∀ (H1 : Heap) (locs1 : List Loc), so_P D vcl N0 (so_up σ a (tg, .inr (8, fs.set 2 v))) H1 → va_S (so_A N0) H0 H1 locs1 → W p l e R s m args below meth c H1 locs1 cells slots Q (F0 m (pc + 3) ls rest)) : W p l e R s m args below meth c H locs cells slots Q (F0 m pc ls (v :: .ref a :: rest)) := so_put S K P hS (T := F_La) (N := 4) i_La t_La t_La_ok n_La he rfl 2 (by decide) (S.2.2.2.2 _ wd_122) (fun _ h => h) rfl (by decide +kernel) hn hf hl hdg kk
theorem cv_Lw_44_HM (S : CallFix p m c cc nL s args tbl "HoldMapsLaw") (hB : so_B tbl s0 D vcl tys) (K : va_K D vcl tys s) (E : so_Kn s0 s) (P : so_P D vcl s0.heap.size σ H) (hS : va_S (so_A s0.heap.size) s.heap H locs) (he : σ o = some (tg, .inr (0, fs))) (hM : Met l y_HM_step [.code y_HM_step b_HM_step 4 (some .int)] (so_rm k1 mc ms) (va_Pc (.ref o :: As) (so_Pre s0 D vcl σ)) Qc mc ms free) (hA : As.length = 1) (hk : k1 < k) (hc1 : cells + mc ≤ mcR) (hs1 : slots + ms ≤ msR) (hsize : ls.size = nL) (hst : st0 = As.reverse ++ .ref o :: rest) (hW : (rest.map fun v => v.category).sum ≤ 8) (hdg : decode cc pc = .ok (.invokevirtual 44, 3)) : va_Run p l e (so_rm k mcR msR) s m args below meth c H locs cells slots mc ms (F0 m pc ls st0) rest (Qc (Value.ref o :: As).toArray) free := ru_V S hB K E P hS hM he rfl wd_766 wd_767 wd_768 wd_769 wd_1 ⟨by decide +kernel, by decide +kernel, by rw [hA]; decide +kernel⟩ (by decide) hk hc1 hs1 hsize hst hW hdg
theorem gf_HM_161_We (S : CallFix p m c cc nL s args tbl "HoldMaps") (K : va_K D vcl tys s) (P : so_P D vcl N0 σ H) (he : σ a = some (tg, .inr (4, fs))) (hv : fs[0]? = some v) (hdg : decode cc pc = .ok (.getfield 161, 3)) (kk : W p l e R s m args below meth c H locs cells slots Q (F0 m (pc + 3) ls (v :: rest))) : W p l e R s m args below meth c H locs cells slots Q (F0 m pc ls (.ref a :: rest)) := so_get S K P (T := F_We) (N := 6) i_We he rfl 0 (by decide) (S.2.2.2.2 _ wd_112) (fun _ h => h) hv hdg kk
theorem gf_HM_161_So (S : CallFix p m c cc nL s args tbl "HoldMaps") (K : va_K D vcl tys s) (P : so_P D vcl N0 σ H) (he : σ a = some (tg, .inr (5, fs))) (hv : fs[0]? = some v) (hdg : decode cc pc = .ok (.getfield 161, 3)) (kk : W p l e R s m args below meth c H locs cells slots Q (F0 m (pc + 3) ls (v :: rest))) : W p l e R s m args below meth c H locs cells slots Q (F0 m pc ls (.ref a :: rest)) := so_get S K P (T := F_So) (N := 5) i_So he rfl 0 (by decide) (S.2.2.2.2 _ wd_112) (fun _ h => h) hv hdg kk
theorem gf_HM_161_Id (S : CallFix p m c cc nL s args tbl "HoldMaps") (K : va_K D vcl tys s) (P : so_P D vcl N0 σ H) (he : σ a = some (tg, .inr (6, fs))) (hv : fs[0]? = some v) (hdg : decode cc pc = .ok (.getfield 161, 3)) (kk : W p l e R s m args below meth c H locs cells slots Q (F0 m (pc + 3) ls (v :: rest))) : W p l e R s m args below meth c H locs cells slots Q (F0 m pc ls (.ref a :: rest)) := so_get S K P (T := F_Id) (N := 5) i_Id he rfl 0 (by decide) (S.2.2.2.2 _ wd_112) (fun _ h => h) hv hdg kk
theorem gf_HM_161_Pl (S : CallFix p m c cc nL s args tbl "HoldMaps") (K : va_K D vcl tys s) (P : so_P D vcl N0 σ H) (he : σ a = some (tg, .inr (7, fs))) (hv : fs[0]? = some v) (hdg : decode cc pc = .ok (.getfield 161, 3)) (kk : W p l e R s m args below meth c H locs cells slots Q (F0 m (pc + 3) ls (v :: rest))) : W p l e R s m args below meth c H locs cells slots Q (F0 m pc ls (.ref a :: rest)) := so_get S K P (T := F_Pl) (N := 4) i_Pl he rfl 0 (by decide) (S.2.2.2.2 _ wd_112) (fun _ h => h) hv hdg kk
theorem gf_HM_161_La (S : CallFix p m c cc nL s args tbl "HoldMaps") (K : va_K D vcl tys s) (P : so_P D vcl N0 σ H) (he : σ a = some (tg, .inr (8, fs))) (hv : fs[0]? = some v) (hdg : decode cc pc = .ok (.getfield 161, 3)) (kk : W p l e R s m args below meth c H locs cells slots Q (F0 m (pc + 3) ls (v :: rest))) : W p l e R s m args below meth c H locs cells slots Q (F0 m pc ls (.ref a :: rest)) := so_get S K P (T := F_La) (N := 4) i_La he rfl 0 (by decide) (S.2.2.2.2 _ wd_112) (fun _ h => h) hv hdg kk
theorem gf_HM_164_We (S : CallFix p m c cc nL s args tbl "HoldMaps") (K : va_K D vcl tys s) (P : so_P D vcl N0 σ H) (he : σ a = some (tg, .inr (4, fs))) (hv : fs[1]? = some v) (hdg : decode cc pc = .ok (.getfield 164, 3)) (kk : W p l e R s m args below meth c H locs cells slots Q (F0 m (pc + 3) ls (v :: rest))) : W p l e R s m args below meth c H locs cells slots Q (F0 m pc ls (.ref a :: rest)) := so_get S K P (T := F_We) (N := 6) i_We he rfl 1 (by decide) (S.2.2.2.2 _ wd_121) (fun _ h => h) hv hdg kk
theorem gf_HM_164_So (S : CallFix p m c cc nL s args tbl "HoldMaps") (K : va_K D vcl tys s) (P : so_P D vcl N0 σ H) (he : σ a = some (tg, .inr (5, fs))) (hv : fs[1]? = some v) (hdg : decode cc pc = .ok (.getfield 164, 3)) (kk : W p l e R s m args below meth c H locs cells slots Q (F0 m (pc + 3) ls (v :: rest))) : W p l e R s m args below meth c H locs cells slots Q (F0 m pc ls (.ref a :: rest)) := so_get S K P (T := F_So) (N := 5) i_So he rfl 1 (by decide) (S.2.2.2.2 _ wd_121) (fun _ h => h) hv hdg kk
theorem gf_HM_164_Id (S : CallFix p m c cc nL s args tbl "HoldMaps") (K : va_K D vcl tys s) (P : so_P D vcl N0 σ H) (he : σ a = some (tg, .inr (6, fs))) (hv : fs[1]? = some v) (hdg : decode cc pc = .ok (.getfield 164, 3)) (kk : W p l e R s m args below meth c H locs cells slots Q (F0 m (pc + 3) ls (v :: rest))) : W p l e R s m args below meth c H locs cells slots Q (F0 m pc ls (.ref a :: rest)) := so_get S K P (T := F_Id) (N := 5) i_Id he rfl 1 (by decide) (S.2.2.2.2 _ wd_121) (fun _ h => h) hv hdg kk
theorem gf_HM_164_Pl (S : CallFix p m c cc nL s args tbl "HoldMaps") (K : va_K D vcl tys s) (P : so_P D vcl N0 σ H) (he : σ a = some (tg, .inr (7, fs))) (hv : fs[1]? = some v) (hdg : decode cc pc = .ok (.getfield 164, 3)) (kk : W p l e R s m args below meth c H locs cells slots Q (F0 m (pc + 3) ls (v :: rest))) : W p l e R s m args below meth c H locs cells slots Q (F0 m pc ls (.ref a :: rest)) := so_get S K P (T := F_Pl) (N := 4) i_Pl he rfl 1 (by decide) (S.2.2.2.2 _ wd_121) (fun _ h => h) hv hdg kk
theorem gf_HM_164_La (S : CallFix p m c cc nL s args tbl "HoldMaps") (K : va_K D vcl tys s) (P : so_P D vcl N0 σ H) (he : σ a = some (tg, .inr (8, fs))) (hv : fs[1]? = some v) (hdg : decode cc pc = .ok (.getfield 164, 3)) (kk : W p l e R s m args below meth c H locs cells slots Q (F0 m (pc + 3) ls (v :: rest))) : W p l e R s m args below meth c H locs cells slots Q (F0 m pc ls (.ref a :: rest)) := so_get S K P (T := F_La) (N := 4) i_La he rfl 1 (by decide) (S.2.2.2.2 _ wd_121) (fun _ h => h) hv hdg kk
theorem gf_HM_167_We (S : CallFix p m c cc nL s args tbl "HoldMaps") (K : va_K D vcl tys s) (P : so_P D vcl N0 σ H) (he : σ a = some (tg, .inr (4, fs))) (hv : fs[2]? = some v) (hdg : decode cc pc = .ok (.getfield 167, 3)) (kk : W p l e R s m args below meth c H locs cells slots Q (F0 m (pc + 3) ls (v :: rest))) : W p l e R s m args below meth c H locs cells slots Q (F0 m pc ls (.ref a :: rest)) := so_get S K P (T := F_We) (N := 6) i_We he rfl 2 (by decide) (S.2.2.2.2 _ wd_122) (fun _ h => h) hv hdg kk
theorem gf_HM_167_So (S : CallFix p m c cc nL s args tbl "HoldMaps") (K : va_K D vcl tys s) (P : so_P D vcl N0 σ H) (he : σ a = some (tg, .inr (5, fs))) (hv : fs[2]? = some v) (hdg : decode cc pc = .ok (.getfield 167, 3)) (kk : W p l e R s m args below meth c H locs cells slots Q (F0 m (pc + 3) ls (v :: rest))) : W p l e R s m args below meth c H locs cells slots Q (F0 m pc ls (.ref a :: rest)) := so_get S K P (T := F_So) (N := 5) i_So he rfl 2 (by decide) (S.2.2.2.2 _ wd_122) (fun _ h => h) hv hdg kk
theorem gf_HM_167_Id (S : CallFix p m c cc nL s args tbl "HoldMaps") (K : va_K D vcl tys s) (P : so_P D vcl N0 σ H) (he : σ a = some (tg, .inr (6, fs))) (hv : fs[2]? = some v) (hdg : decode cc pc = .ok (.getfield 167, 3)) (kk : W p l e R s m args below meth c H locs cells slots Q (F0 m (pc + 3) ls (v :: rest))) : W p l e R s m args below meth c H locs cells slots Q (F0 m pc ls (.ref a :: rest)) := so_get S K P (T := F_Id) (N := 5) i_Id he rfl 2 (by decide) (S.2.2.2.2 _ wd_122) (fun _ h => h) hv hdg kk
theorem gf_HM_167_Pl (S : CallFix p m c cc nL s args tbl "HoldMaps") (K : va_K D vcl tys s) (P : so_P D vcl N0 σ H) (he : σ a = some (tg, .inr (7, fs))) (hv : fs[2]? = some v) (hdg : decode cc pc = .ok (.getfield 167, 3)) (kk : W p l e R s m args below meth c H locs cells slots Q (F0 m (pc + 3) ls (v :: rest))) : W p l e R s m args below meth c H locs cells slots Q (F0 m pc ls (.ref a :: rest)) := so_get S K P (T := F_Pl) (N := 4) i_Pl he rfl 2 (by decide) (S.2.2.2.2 _ wd_122) (fun _ h => h) hv hdg kk
theorem gf_HM_167_La (S : CallFix p m c cc nL s args tbl "HoldMaps") (K : va_K D vcl tys s) (P : so_P D vcl N0 σ H) (he : σ a = some (tg, .inr (8, fs))) (hv : fs[2]? = some v) (hdg : decode cc pc = .ok (.getfield 167, 3)) (kk : W p l e R s m args below meth c H locs cells slots Q (F0 m (pc + 3) ls (v :: rest))) : W p l e R s m args below meth c H locs cells slots Q (F0 m pc ls (.ref a :: rest)) := so_get S K P (T := F_La) (N := 4) i_La he rfl 2 (by decide) (S.2.2.2.2 _ wd_122) (fun _ h => h) hv hdg kk
theorem cv_Lw_47_HM (S : CallFix p m c cc nL s args tbl "HoldMapsLaw") (hB : so_B tbl s0 D vcl tys) (K : va_K D vcl tys s) (E : so_Kn s0 s) (P : so_P D vcl s0.heap.size σ H) (hS : va_S (so_A s0.heap.size) s.heap H locs) (he : σ o = some (tg, .inr (0, fs))) (hM : Met l y_HM_collect [.code y_HM_collect b_HM_collect 2 (some .int)] (so_rm k1 mc ms) (va_Pc (.ref o :: As) (so_Pre s0 D vcl σ)) Qc mc ms free) (hA : As.length = 1) (hk : k1 < k) (hc1 : cells + mc ≤ mcR) (hs1 : slots + ms ≤ msR) (hsize : ls.size = nL) (hst : st0 = As.reverse ++ .ref o :: rest) (hW : (rest.map fun v => v.category).sum ≤ 8) (hdg : decode cc pc = .ok (.invokevirtual 47, 3)) : va_Run p l e (so_rm k mcR msR) s m args below meth c H locs cells slots mc ms (F0 m pc ls st0) rest (Qc (Value.ref o :: As).toArray) free := ru_V S hB K E P hS hM he rfl wd_776 wd_777 wd_778 wd_779 wd_1 ⟨by decide +kernel, by decide +kernel, by rw [hA]; decide +kernel⟩ (by decide) hk hc1 hs1 hsize hst hW hdg
theorem cv_HM_178_He (S : CallFix p m c cc nL s args tbl "HoldMaps") (hB : so_B tbl s0 D vcl tys) (K : va_K D vcl tys s) (E : so_Kn s0 s) (P : so_P D vcl s0.heap.size σ H) (hS : va_S (so_A s0.heap.size) s.heap H locs) (he : σ o = some (tg, .inr (1, fs))) (hM : Met l y_He_holdRootsOnly [.code y_He_holdRootsOnly b_He_holdRootsOnly 2 none] (so_rm k1 mc ms) (va_Pc (.ref o :: As) (so_Pre s0 D vcl σ)) Qc mc ms free) (hA : As.length = 0) (hk : k1 < k) (hc1 : cells + mc ≤ mcR) (hs1 : slots + ms ≤ msR) (hsize : ls.size = nL) (hst : st0 = As.reverse ++ .ref o :: rest) (hW : (rest.map fun v => v.category).sum ≤ 8) (hdg : decode cc pc = .ok (.invokevirtual 178, 3)) : va_Run p l e (so_rm k mcR msR) s m args below meth c H locs cells slots mc ms (F0 m pc ls st0) rest (Qc (Value.ref o :: As).toArray) free := ru_V S hB K E P hS hM he rfl wd_781 wd_782 wd_783 wd_784 wd_2 ⟨by decide +kernel, by decide +kernel, by rw [hA]; decide +kernel⟩ (by decide) hk hc1 hs1 hsize hst hW hdg
theorem cv_HM_181_HM (S : CallFix p m c cc nL s args tbl "HoldMaps") (hB : so_B tbl s0 D vcl tys) (K : va_K D vcl tys s) (E : so_Kn s0 s) (P : so_P D vcl s0.heap.size σ H) (hS : va_S (so_A s0.heap.size) s.heap H locs) (he : σ o = some (tg, .inr (0, fs))) (hM : Met l y_HM_holdWhatMapsHold [.code y_HM_holdWhatMapsHold b_HM_holdWhatMapsHold 1 none] (so_rm k1 mc ms) (va_Pc (.ref o :: As) (so_Pre s0 D vcl σ)) Qc mc ms free) (hA : As.length = 0) (hk : k1 < k) (hc1 : cells + mc ≤ mcR) (hs1 : slots + ms ≤ msR) (hsize : ls.size = nL) (hst : st0 = As.reverse ++ .ref o :: rest) (hW : (rest.map fun v => v.category).sum ≤ 8) (hdg : decode cc pc = .ok (.invokevirtual 181, 3)) : va_Run p l e (so_rm k mcR msR) s m args below meth c H locs cells slots mc ms (F0 m pc ls st0) rest (Qc (Value.ref o :: As).toArray) free := ru_V S hB K E P hS hM he rfl wd_798 wd_800 (tbl_sel (q := (y_HM_holdWhatMapsHold, 4)) (List.mem_of_getElem? (i := 14) rfl)) wd_801 wd_1 ⟨by decide +kernel, by decide +kernel, by rw [hA]; decide +kernel⟩ (by decide) hk hc1 hs1 hsize hst hW hdg
theorem cv_HM_184_HM (S : CallFix p m c cc nL s args tbl "HoldMaps") (hB : so_B tbl s0 D vcl tys) (K : va_K D vcl tys s) (E : so_Kn s0 s) (P : so_P D vcl s0.heap.size σ H) (hS : va_S (so_A s0.heap.size) s.heap H locs) (he : σ o = some (tg, .inr (0, fs))) (hM : Met l y_HM_dropSoftEntries [.code y_HM_dropSoftEntries b_HM_dropSoftEntries 7 none] (so_rm k1 mc ms) (va_Pc (.ref o :: As) (so_Pre s0 D vcl σ)) Qc mc ms free) (hA : As.length = 1) (hk : k1 < k) (hc1 : cells + mc ≤ mcR) (hs1 : slots + ms ≤ msR) (hsize : ls.size = nL) (hst : st0 = As.reverse ++ .ref o :: rest) (hW : (rest.map fun v => v.category).sum ≤ 8) (hdg : decode cc pc = .ok (.invokevirtual 184, 3)) : va_Run p l e (so_rm k mcR msR) s m args below meth c H locs cells slots mc ms (F0 m pc ls st0) rest (Qc (Value.ref o :: As).toArray) free := ru_V S hB K E P hS hM he rfl wd_811 wd_813 (tbl_sel (q := (y_HM_dropSoftEntries, 4)) (List.mem_of_getElem? (i := 17) rfl)) wd_814 wd_1 ⟨by decide +kernel, by decide +kernel, by rw [hA]; decide +kernel⟩ (by decide) hk hc1 hs1 hsize hst hW hdg
theorem cv_HM_187_HM (S : CallFix p m c cc nL s args tbl "HoldMaps") (hB : so_B tbl s0 D vcl tys) (K : va_K D vcl tys s) (E : so_Kn s0 s) (P : so_P D vcl s0.heap.size σ H) (hS : va_S (so_A s0.heap.size) s.heap H locs) (he : σ o = some (tg, .inr (0, fs))) (hM : Met l y_HM_dropWeakEntries [.code y_HM_dropWeakEntries b_HM_dropWeakEntries 2 none] (so_rm k1 mc ms) (va_Pc (.ref o :: As) (so_Pre s0 D vcl σ)) Qc mc ms free) (hA : As.length = 0) (hk : k1 < k) (hc1 : cells + mc ≤ mcR) (hs1 : slots + ms ≤ msR) (hsize : ls.size = nL) (hst : st0 = As.reverse ++ .ref o :: rest) (hW : (rest.map fun v => v.category).sum ≤ 8) (hdg : decode cc pc = .ok (.invokevirtual 187, 3)) : va_Run p l e (so_rm k mcR msR) s m args below meth c H locs cells slots mc ms (F0 m pc ls st0) rest (Qc (Value.ref o :: As).toArray) free := ru_V S hB K E P hS hM he rfl wd_834 wd_836 (tbl_sel (q := (y_HM_dropWeakEntries, 4)) (List.mem_of_getElem? (i := 18) rfl)) wd_837 wd_1 ⟨by decide +kernel, by decide +kernel, by rw [hA]; decide +kernel⟩ (by decide) hk hc1 hs1 hsize hst hW hdg
theorem cv_HM_190_He (S : CallFix p m c cc nL s args tbl "HoldMaps") (hB : so_B tbl s0 D vcl tys) (K : va_K D vcl tys s) (E : so_Kn s0 s) (P : so_P D vcl s0.heap.size σ H) (hS : va_S (so_A s0.heap.size) s.heap H locs) (he : σ o = some (tg, .inr (1, fs))) (hM : Met l y_He_sweep [.code y_He_sweep b_He_sweep 3 (some .int)] (so_rm k1 mc ms) (va_Pc (.ref o :: As) (so_Pre s0 D vcl σ)) Qc mc ms free) (hA : As.length = 0) (hk : k1 < k) (hc1 : cells + mc ≤ mcR) (hs1 : slots + ms ≤ msR) (hsize : ls.size = nL) (hst : st0 = As.reverse ++ .ref o :: rest) (hW : (rest.map fun v => v.category).sum ≤ 8) (hdg : decode cc pc = .ok (.invokevirtual 190, 3)) : va_Run p l e (so_rm k mcR msR) s m args below meth c H locs cells slots mc ms (F0 m pc ls st0) rest (Qc (Value.ref o :: As).toArray) free := ru_V S hB K E P hS hM he rfl wd_848 wd_849 wd_850 wd_851 wd_2 ⟨by decide +kernel, by decide +kernel, by rw [hA]; decide +kernel⟩ (by decide) hk hc1 hs1 hsize hst hW hdg
theorem pf_He_29_He (S : CallFix p m c cc nL s args tbl "HoldMaps$Heap") (K : va_K D vcl tys s) (P : so_P D vcl N0 σ H) (hS : va_S (so_A N0) H0 H locs) (he : σ a = some (tg, .inr (1, fs))) (hl : 2 < fs.length) (hn : narrow (.int) v = v) (hf : fits (.int) v = true) (hdg : decode cc pc = .ok (.putfield 29, 3)) (kk : ∀ (H1 : Heap) (locs1 : List Loc), so_P D vcl N0 (so_up σ a (tg, .inr (1, fs.set 2 v))) H1 → va_S (so_A N0) H0 H1 locs1 → W p l e R s m args below meth c H1 locs1 cells slots Q (F0 m (pc + 3) ls rest)) : W p l e R s m args below meth c H locs cells slots Q (F0 m pc ls (v :: .ref a :: rest)) := so_put S K P hS (T := F_He) (N := 4) i_He t_He t_He_ok n_He he rfl 2 (by decide) (S.2.2.2.2 _ wd_47) (fun _ h => h) rfl (by decide +kernel) hn hf hl hdg kk
theorem pf_He_25_Th (S : CallFix p m c cc nL s args tbl "HoldMaps$Heap") (K : va_K D vcl tys s) (P : so_P D vcl N0 σ H) (hS : va_S (so_A N0) H0 H locs) (he : σ a = some (tg, .inr (2, fs))) (hl : 3 < fs.length) (hn : narrow (.boolean) v = v) (hf : fits (.boolean) v = true) (hdg : decode cc pc = .ok (.putfield 25, 3)) (kk : ∀ (H1 : Heap) (locs1 : List Loc), so_P D vcl N0 (so_up σ a (tg, .inr (2, fs.set 3 v))) H1 → va_S (so_A N0) H0 H1 locs1 → W p l e R s m args below meth c H1 locs1 cells slots Q (F0 m (pc + 3) ls rest)) : W p l e R s m args below meth c H locs cells slots Q (F0 m pc ls (v :: .ref a :: rest)) := so_put S K P hS (T := F_Th) (N := 4) i_Th t_Th t_Th_ok n_Th he rfl 3 (by decide) (S.2.2.2.2 _ wd_355) (fun _ h => h) rfl (by decide +kernel) hn hf hl hdg kk
theorem gf_He_33_Th (S : CallFix p m c cc nL s args tbl "HoldMaps$Heap") (K : va_K D vcl tys s) (P : so_P D vcl N0 σ H) (he : σ a = some (tg, .inr (2, fs))) (hv : fs[2]? = some v) (hdg : decode cc pc = .ok (.getfield 33, 3)) (kk : W p l e R s m args below meth c H locs cells slots Q (F0 m (pc + 3) ls (v :: rest))) : W p l e R s m args below meth c H locs cells slots Q (F0 m pc ls (.ref a :: rest)) := so_get S K P (T := F_Th) (N := 4) i_Th he rfl 2 (by decide) (S.2.2.2.2 _ wd_354) (fun _ h => h) hv hdg kk
theorem cv_He_36_He (S : CallFix p m c cc nL s args tbl "HoldMaps$Heap") (hB : so_B tbl s0 D vcl tys) (K : va_K D vcl tys s) (E : so_Kn s0 s) (P : so_P D vcl s0.heap.size σ H) (hS : va_S (so_A s0.heap.size) s.heap H locs) (he : σ o = some (tg, .inr (1, fs))) (hM : Met l y_He_hold [.code y_He_hold b_He_hold 4 none] (so_rm k1 mc ms) (va_Pc (.ref o :: As) (so_Pre s0 D vcl σ)) Qc mc ms free) (hA : As.length = 1) (hk : k1 < k) (hc1 : cells + mc ≤ mcR) (hs1 : slots + ms ≤ msR) (hsize : ls.size = nL) (hst : st0 = As.reverse ++ .ref o :: rest) (hW : (rest.map fun v => v.category).sum ≤ 8) (hdg : decode cc pc = .ok (.invokevirtual 36, 3)) : va_Run p l e (so_rm k mcR msR) s m args below meth c H locs cells slots mc ms (F0 m pc ls st0) rest (Qc (Value.ref o :: As).toArray) free := ru_V S hB K E P hS hM he rfl wd_785 wd_786 wd_787 wd_788 wd_2 ⟨by decide +kernel, by decide +kernel, by rw [hA]; decide +kernel⟩ (by decide) hk hc1 hs1 hsize hst hW hdg
theorem gf_He_29_He (S : CallFix p m c cc nL s args tbl "HoldMaps$Heap") (K : va_K D vcl tys s) (P : so_P D vcl N0 σ H) (he : σ a = some (tg, .inr (1, fs))) (hv : fs[2]? = some v) (hdg : decode cc pc = .ok (.getfield 29, 3)) (kk : W p l e R s m args below meth c H locs cells slots Q (F0 m (pc + 3) ls (v :: rest))) : W p l e R s m args below meth c H locs cells slots Q (F0 m pc ls (.ref a :: rest)) := so_get S K P (T := F_He) (N := 4) i_He he rfl 2 (by decide) (S.2.2.2.2 _ wd_47) (fun _ h => h) hv hdg kk
theorem cv_He_40_He (S : CallFix p m c cc nL s args tbl "HoldMaps$Heap") (hB : so_B tbl s0 D vcl tys) (K : va_K D vcl tys s) (E : so_Kn s0 s) (P : so_P D vcl s0.heap.size σ H) (hS : va_S (so_A s0.heap.size) s.heap H locs) (he : σ o = some (tg, .inr (1, fs))) (hM : Met l y_He_mark [.code y_He_mark b_He_mark 2 none] (so_rm k1 mc ms) (va_Pc (.ref o :: As) (so_Pre s0 D vcl σ)) Qc mc ms free) (hA : As.length = 1) (hk : k1 < k) (hc1 : cells + mc ≤ mcR) (hs1 : slots + ms ≤ msR) (hsize : ls.size = nL) (hst : st0 = As.reverse ++ .ref o :: rest) (hW : (rest.map fun v => v.category).sum ≤ 8) (hdg : decode cc pc = .ok (.invokevirtual 40, 3)) : va_Run p l e (so_rm k mcR msR) s m args below meth c H locs cells slots mc ms (F0 m pc ls st0) rest (Qc (Value.ref o :: As).toArray) free := ru_V S hB K E P hS hM he rfl wd_789 wd_791 (tbl_sel (q := (y_He_mark, 4)) (List.mem_of_getElem? (i := 12) rfl)) wd_792 wd_2 ⟨by decide +kernel, by decide +kernel, by rw [hA]; decide +kernel⟩ (by decide) hk hc1 hs1 hsize hst hW hdg
theorem gf_He_17_He (S : CallFix p m c cc nL s args tbl "HoldMaps$Heap") (K : va_K D vcl tys s) (P : so_P D vcl N0 σ H) (he : σ a = some (tg, .inr (1, fs))) (hv : fs[1]? = some v) (hdg : decode cc pc = .ok (.getfield 17, 3)) (kk : W p l e R s m args below meth c H locs cells slots Q (F0 m (pc + 3) ls (v :: rest))) : W p l e R s m args below meth c H locs cells slots Q (F0 m pc ls (.ref a :: rest)) := so_get S K P (T := F_He) (N := 4) i_He he rfl 1 (by decide) (S.2.2.2.2 _ wd_46) (fun _ h => h) hv hdg kk
theorem cv_He_43_He (S : CallFix p m c cc nL s args tbl "HoldMaps$Heap") (hB : so_B tbl s0 D vcl tys) (K : va_K D vcl tys s) (E : so_Kn s0 s) (P : so_P D vcl s0.heap.size σ H) (hS : va_S (so_A s0.heap.size) s.heap H locs) (he : σ o = some (tg, .inr (1, fs))) (hM : Met l y_He_markWhatItRefersTo [.code y_He_markWhatItRefersTo b_He_markWhatItRefersTo 3 none] (so_rm k1 mc ms) (va_Pc (.ref o :: As) (so_Pre s0 D vcl σ)) Qc mc ms free) (hA : As.length = 1) (hk : k1 < k) (hc1 : cells + mc ≤ mcR) (hs1 : slots + ms ≤ msR) (hsize : ls.size = nL) (hst : st0 = As.reverse ++ .ref o :: rest) (hW : (rest.map fun v => v.category).sum ≤ 8) (hdg : decode cc pc = .ok (.invokevirtual 43, 3)) : va_Run p l e (so_rm k mcR msR) s m args below meth c H locs cells slots mc ms (F0 m pc ls st0) rest (Qc (Value.ref o :: As).toArray) free := ru_V S hB K E P hS hM he rfl wd_794 wd_796 (tbl_sel (q := (y_He_markWhatItRefersTo, 4)) (List.mem_of_getElem? (i := 13) rfl)) wd_797 wd_2 ⟨by decide +kernel, by decide +kernel, by rw [hA]; decide +kernel⟩ (by decide) hk hc1 hs1 hsize hst hW hdg
theorem cv_He_21_He (S : CallFix p m c cc nL s args tbl "HoldMaps$Heap") (hB : so_B tbl s0 D vcl tys) (K : va_K D vcl tys s) (E : so_Kn s0 s) (P : so_P D vcl s0.heap.size σ H) (hS : va_S (so_A s0.heap.size) s.heap H locs) (he : σ o = some (tg, .inr (1, fs))) (hM : Met l y_He_has [.code y_He_has b_He_has 2 (some .boolean)] (so_rm k1 mc ms) (va_Pc (.ref o :: As) (so_Pre s0 D vcl σ)) Qc mc ms free) (hA : As.length = 1) (hk : k1 < k) (hc1 : cells + mc ≤ mcR) (hs1 : slots + ms ≤ msR) (hsize : ls.size = nL) (hst : st0 = As.reverse ++ .ref o :: rest) (hW : (rest.map fun v => v.category).sum ≤ 8) (hdg : decode cc pc = .ok (.invokevirtual 21, 3)) : va_Run p l e (so_rm k mcR msR) s m args below meth c H locs cells slots mc ms (F0 m pc ls st0) rest (Qc (Value.ref o :: As).toArray) free := ru_V S hB K E P hS hM he rfl wd_793 wd_234 wd_235 wd_236 wd_2 ⟨by decide +kernel, by decide +kernel, by rw [hA]; decide +kernel⟩ (by decide) hk hc1 hs1 hsize hst hW hdg
theorem gf_He_25_Th (S : CallFix p m c cc nL s args tbl "HoldMaps$Heap") (K : va_K D vcl tys s) (P : so_P D vcl N0 σ H) (he : σ a = some (tg, .inr (2, fs))) (hv : fs[3]? = some v) (hdg : decode cc pc = .ok (.getfield 25, 3)) (kk : W p l e R s m args below meth c H locs cells slots Q (F0 m (pc + 3) ls (v :: rest))) : W p l e R s m args below meth c H locs cells slots Q (F0 m pc ls (.ref a :: rest)) := so_get S K P (T := F_Th) (N := 4) i_Th he rfl 3 (by decide) (S.2.2.2.2 _ wd_355) (fun _ h => h) hv hdg kk
theorem gf_He_46_Th (S : CallFix p m c cc nL s args tbl "HoldMaps$Heap") (K : va_K D vcl tys s) (P : so_P D vcl N0 σ H) (he : σ a = some (tg, .inr (2, fs))) (hv : fs[1]? = some v) (hdg : decode cc pc = .ok (.getfield 46, 3)) (kk : W p l e R s m args below meth c H locs cells slots Q (F0 m (pc + 3) ls (v :: rest))) : W p l e R s m args below meth c H locs cells slots Q (F0 m pc ls (.ref a :: rest)) := so_get S K P (T := F_Th) (N := 4) i_Th he rfl 1 (by decide) (S.2.2.2.2 _ wd_352) (fun _ h => h) hv hdg kk
theorem cv_HM_208_HM (S : CallFix p m c cc nL s args tbl "HoldMaps") (hB : so_B tbl s0 D vcl tys) (K : va_K D vcl tys s) (E : so_Kn s0 s) (P : so_P D vcl s0.heap.size σ H) (hS : va_S (so_A s0.heap.size) s.heap H locs) (he : σ o = some (tg, .inr (0, fs))) (hM : Met l y_HM_holdKeys [.code y_HM_holdKeys b_HM_holdKeys 3 none] (so_rm k1 mc ms) (va_Pc (.ref o :: As) (so_Pre s0 D vcl σ)) Qc mc ms free) (hA : As.length = 1) (hk : k1 < k) (hc1 : cells + mc ≤ mcR) (hs1 : slots + ms ≤ msR) (hsize : ls.size = nL) (hst : st0 = As.reverse ++ .ref o :: rest) (hW : (rest.map fun v => v.category).sum ≤ 8) (hdg : decode cc pc = .ok (.invokevirtual 208, 3)) : va_Run p l e (so_rm k mcR msR) s m args below meth c H locs cells slots mc ms (F0 m pc ls st0) rest (Qc (Value.ref o :: As).toArray) free := ru_V S hB K E P hS hM he rfl wd_802 wd_804 (tbl_sel (q := (y_HM_holdKeys, 4)) (List.mem_of_getElem? (i := 15) rfl)) wd_805 wd_1 ⟨by decide +kernel, by decide +kernel, by rw [hA]; decide +kernel⟩ (by decide) hk hc1 hs1 hsize hst hW hdg
theorem cv_HM_212_HM (S : CallFix p m c cc nL s args tbl "HoldMaps") (hB : so_B tbl s0 D vcl tys) (K : va_K D vcl tys s) (E : so_Kn s0 s) (P : so_P D vcl s0.heap.size σ H) (hS : va_S (so_A s0.heap.size) s.heap H locs) (he : σ o = some (tg, .inr (0, fs))) (hM : Met l y_HM_holdValues [.code y_HM_holdValues b_HM_holdValues 3 none] (so_rm k1 mc ms) (va_Pc (.ref o :: As) (so_Pre s0 D vcl σ)) Qc mc ms free) (hA : As.length = 1) (hk : k1 < k) (hc1 : cells + mc ≤ mcR) (hs1 : slots + ms ≤ msR) (hsize : ls.size = nL) (hst : st0 = As.reverse ++ .ref o :: rest) (hW : (rest.map fun v => v.category).sum ≤ 8) (hdg : decode cc pc = .ok (.invokevirtual 212, 3)) : va_Run p l e (so_rm k mcR msR) s m args below meth c H locs cells slots mc ms (F0 m pc ls st0) rest (Qc (Value.ref o :: As).toArray) free := ru_V S hB K E P hS hM he rfl wd_807 wd_809 (tbl_sel (q := (y_HM_holdValues, 4)) (List.mem_of_getElem? (i := 16) rfl)) wd_810 wd_1 ⟨by decide +kernel, by decide +kernel, by rw [hA]; decide +kernel⟩ (by decide) hk hc1 hs1 hsize hst hW hdg
theorem cv_HM_215_He (S : CallFix p m c cc nL s args tbl "HoldMaps") (hB : so_B tbl s0 D vcl tys) (K : va_K D vcl tys s) (E : so_Kn s0 s) (P : so_P D vcl s0.heap.size σ H) (hS : va_S (so_A s0.heap.size) s.heap H locs) (he : σ o = some (tg, .inr (1, fs))) (hM : Met l y_He_hold [.code y_He_hold b_He_hold 4 none] (so_rm k1 mc ms) (va_Pc (.ref o :: As) (so_Pre s0 D vcl σ)) Qc mc ms free) (hA : As.length = 1) (hk : k1 < k) (hc1 : cells + mc ≤ mcR) (hs1 : slots + ms ≤ msR) (hsize : ls.size = nL) (hst : st0 = As.reverse ++ .ref o :: rest) (hW : (rest.map fun v => v.category).sum ≤ 8) (hdg : decode cc pc = .ok (.invokevirtual 215, 3)) : va_Run p l e (so_rm k mcR msR) s m args below meth c H locs cells slots mc ms (F0 m pc ls st0) rest (Qc (Value.ref o :: As).toArray) free := ru_V S hB K E P hS hM he rfl wd_806 wd_786 wd_787 wd_788 wd_2 ⟨by decide +kernel, by decide +kernel, by rw [hA]; decide +kernel⟩ (by decide) hk hc1 hs1 hsize hst hW hdg
theorem cv_HM_218_So (S : CallFix p m c cc nL s args tbl "HoldMaps") (hB : so_B tbl s0 D vcl tys) (K : va_K D vcl tys s) (E : so_Kn s0 s) (P : so_P D vcl s0.heap.size σ H) (hS : va_S (so_A s0.heap.size) s.heap H locs) (he : σ o = some (tg, .inr (5, fs))) (hM : Met l y_Ro_length [.code y_Ro_length b_Ro_length 1 (some .int)] (so_rm k1 mc ms) (va_Pc (.ref o :: As) (so_Pre s0 D vcl σ)) Qc mc ms free) (hA : As.length = 0) (hk : k1 < k) (hc1 : cells + mc ≤ mcR) (hs1 : slots + ms ≤ msR) (hsize : ls.size = nL) (hst : st0 = As.reverse ++ .ref o :: rest) (hW : (rest.map fun v => v.category).sum ≤ 8) (hdg : decode cc pc = .ok (.invokevirtual 218, 3)) : va_Run p l e (so_rm k mcR msR) s m args below meth c H locs cells slots mc ms (F0 m pc ls st0) rest (Qc (Value.ref o :: As).toArray) free := ru_U (x := ⟨"HoldMaps$SoftMap", "length", "()I"⟩) (owner := "HoldMaps$Row") S hB K E P hS hM he rfl wd_815 wd_816 (va_Decl.abs (va_Nw.of rfl (S.2.2.2.2 _ wd_817))) wd_220 wd_818 wd_221 wd_4 ⟨by decide +kernel, by decide +kernel, by rw [hA]; decide +kernel⟩ (by decide) hk hc1 hs1 hsize hst hW hdg
theorem cv_HM_219_So (S : CallFix p m c cc nL s args tbl "HoldMaps") (hB : so_B tbl s0 D vcl tys) (K : va_K D vcl tys s) (E : so_Kn s0 s) (P : so_P D vcl s0.heap.size σ H) (hS : va_S (so_A s0.heap.size) s.heap H locs) (he : σ o = some (tg, .inr (5, fs))) (hM : Met l y_So_usedFirstAfter [.code y_So_usedFirstAfter b_So_usedFirstAfter 5 (some .int)] (so_rm k1 mc ms) (va_Pc (.ref o :: As) (so_Pre s0 D vcl σ)) Qc mc ms free) (hA : As.length = 1) (hk : k1 < k) (hc1 : cells + mc ≤ mcR) (hs1 : slots + ms ≤ msR) (hsize : ls.size = nL) (hst : st0 = As.reverse ++ .ref o :: rest) (hW : (rest.map fun v => v.category).sum ≤ 8) (hdg : decode cc pc = .ok (.invokevirtual 219, 3)) : va_Run p l e (so_rm k mcR msR) s m args below meth c H locs cells slots mc ms (F0 m pc ls st0) rest (Qc (Value.ref o :: As).toArray) free := ru_V S hB K E P hS hM he rfl wd_819 wd_820 wd_821 wd_822 wd_9 ⟨by decide +kernel, by decide +kernel, by rw [hA]; decide +kernel⟩ (by decide) hk hc1 hs1 hsize hst hW hdg
theorem cv_HM_222_So (S : CallFix p m c cc nL s args tbl "HoldMaps") (hB : so_B tbl s0 D vcl tys) (K : va_K D vcl tys s) (E : so_Kn s0 s) (P : so_P D vcl s0.heap.size σ H) (hS : va_S (so_A s0.heap.size) s.heap H locs) (he : σ o = some (tg, .inr (5, fs))) (hM : Met l y_Ro_entryAt [.code y_Ro_entryAt b_Ro_entryAt 2 (some (.object "HoldMaps$Entry"))] (so_rm k1 mc ms) (va_Pc (.ref o :: As) (so_Pre s0 D vcl σ)) Qc mc ms free) (hA : As.length = 1) (hk : k1 < k) (hc1 : cells + mc ≤ mcR) (hs1 : slots + ms ≤ msR) (hsize : ls.size = nL) (hst : st0 = As.reverse ++ .ref o :: rest) (hW : (rest.map fun v => v.category).sum ≤ 8) (hdg : decode cc pc = .ok (.invokevirtual 222, 3)) : va_Run p l e (so_rm k mcR msR) s m args below meth c H locs cells slots mc ms (F0 m pc ls st0) rest (Qc (Value.ref o :: As).toArray) free := ru_U (x := ⟨"HoldMaps$SoftMap", "entryAt", "(I)LHoldMaps$Entry;"⟩) (owner := "HoldMaps$Row") S hB K E P hS hM he rfl wd_826 wd_672 (va_Decl.abs (va_Nw.of rfl (S.2.2.2.2 _ wd_673))) wd_437 wd_674 wd_438 wd_4 ⟨by decide +kernel, by decide +kernel, by rw [hA]; decide +kernel⟩ (by decide) hk hc1 hs1 hsize hst hW hdg
theorem gf_HM_223_En (S : CallFix p m c cc nL s args tbl "HoldMaps") (K : va_K D vcl tys s) (P : so_P D vcl N0 σ H) (he : σ a = some (tg, .inr (3, fs))) (hv : fs[3]? = some v) (hdg : decode cc pc = .ok (.getfield 223, 3)) (kk : W p l e R s m args below meth c H locs cells slots Q (F0 m (pc + 3) ls (v :: rest))) : W p l e R s m args below meth c H locs cells slots Q (F0 m pc ls (.ref a :: rest)) := so_get S K P (T := F_En) (N := 4) i_En he rfl 3 (by decide) (S.2.2.2.2 _ wd_509) (fun _ h => h) hv hdg kk
theorem cv_HM_225_He (S : CallFix p m c cc nL s args tbl "HoldMaps") (hB : so_B tbl s0 D vcl tys) (K : va_K D vcl tys s) (E : so_Kn s0 s) (P : so_P D vcl s0.heap.size σ H) (hS : va_S (so_A s0.heap.size) s.heap H locs) (he : σ o = some (tg, .inr (1, fs))) (hM : Met l y_He_isHeld [.code y_He_isHeld b_He_isHeld 2 (some .boolean)] (so_rm k1 mc ms) (va_Pc (.ref o :: As) (so_Pre s0 D vcl σ)) Qc mc ms free) (hA : As.length = 1) (hk : k1 < k) (hc1 : cells + mc ≤ mcR) (hs1 : slots + ms ≤ msR) (hsize : ls.size = nL) (hst : st0 = As.reverse ++ .ref o :: rest) (hW : (rest.map fun v => v.category).sum ≤ 8) (hdg : decode cc pc = .ok (.invokevirtual 225, 3)) : va_Run p l e (so_rm k mcR msR) s m args below meth c H locs cells slots mc ms (F0 m pc ls st0) rest (Qc (Value.ref o :: As).toArray) free := ru_V S hB K E P hS hM he rfl wd_827 wd_828 wd_829 wd_830 wd_2 ⟨by decide +kernel, by decide +kernel, by rw [hA]; decide +kernel⟩ (by decide) hk hc1 hs1 hsize hst hW hdg
theorem cv_HM_228_So (S : CallFix p m c cc nL s args tbl "HoldMaps") (hB : so_B tbl s0 D vcl tys) (K : va_K D vcl tys s) (E : so_Kn s0 s) (P : so_P D vcl s0.heap.size σ H) (hS : va_S (so_A s0.heap.size) s.heap H locs) (he : σ o = some (tg, .inr (5, fs))) (hM : Met l y_Ro_dropAt [.code y_Ro_dropAt b_Ro_dropAt 2 none] (so_rm k1 mc ms) (va_Pc (.ref o :: As) (so_Pre s0 D vcl σ)) Qc mc ms free) (hA : As.length = 1) (hk : k1 < k) (hc1 : cells + mc ≤ mcR) (hs1 : slots + ms ≤ msR) (hsize : ls.size = nL) (hst : st0 = As.reverse ++ .ref o :: rest) (hW : (rest.map fun v => v.category).sum ≤ 8) (hdg : decode cc pc = .ok (.invokevirtual 228, 3)) : va_Run p l e (so_rm k mcR msR) s m args below meth c H locs cells slots mc ms (F0 m pc ls st0) rest (Qc (Value.ref o :: As).toArray) free := ru_U (x := ⟨"HoldMaps$SoftMap", "dropAt", "(I)V"⟩) (owner := "HoldMaps$Row") S hB K E P hS hM he rfl wd_831 wd_832 (va_Decl.abs (va_Nw.of rfl (S.2.2.2.2 _ wd_601))) wd_603 wd_833 wd_604 wd_4 ⟨by decide +kernel, by decide +kernel, by rw [hA]; decide +kernel⟩ (by decide) hk hc1 hs1 hsize hst hW hdg
theorem gf_So_28_So (S : CallFix p m c cc nL s args tbl "HoldMaps$SoftMap") (K : va_K D vcl tys s) (P : so_P D vcl N0 σ H) (he : σ a = some (tg, .inr (5, fs))) (hv : fs[3]? = some v) (hdg : decode cc pc = .ok (.getfield 28, 3)) (kk : W p l e R s m args below meth c H locs cells slots Q (F0 m (pc + 3) ls (v :: rest))) : W p l e R s m args below meth c H locs cells slots Q (F0 m pc ls (.ref a :: rest)) := so_get S K P (T := F_So) (N := 5) i_So he rfl 3 (by decide) (S.2.2.2.2 _ wd_110) (fun x h => u_same (S.2.2.2.2 _ wd_111) x h) hv hdg kk
theorem cv_So_32_AL (S : CallFix p m c cc nL s args tbl "HoldMaps$SoftMap") (hB : so_B tbl s0 D vcl tys) (K : va_K D vcl tys s) (E : so_Kn s0 s) (P : so_P D vcl s0.heap.size σ H) (hS : va_S (so_A s0.heap.size) s.heap H locs) (he : σ o = some (tg, .inr (9, fs))) (hM : Met l y_AL_size [.code y_AL_size b_AL_size 1 (some .int)] (so_rm k1 mc ms) (va_Pc (.ref o :: As) (so_Pre s0 D vcl σ)) Qc mc ms free) (hA : As.length = 0) (hk : k1 < k) (hc1 : cells + mc ≤ mcR) (hs1 : slots + ms ≤ msR) (hsize : ls.size = nL) (hst : st0 = As.reverse ++ .ref o :: rest) (hW : (rest.map fun v => v.category).sum ≤ 8) (hdg : decode cc pc = .ok (.invokevirtual 32, 3)) : va_Run p l e (so_rm k mcR msR) s m args below meth c H locs cells slots mc ms (F0 m pc ls st0) rest (Qc (Value.ref o :: As).toArray) free := ru_V S hB K E P hS hM he rfl wd_823 wd_223 wd_224 wd_225 wd_8 ⟨by decide +kernel, by decide +kernel, by rw [hA]; decide +kernel⟩ (by decide) hk hc1 hs1 hsize hst hW hdg
theorem cv_So_38_AL (S : CallFix p m c cc nL s args tbl "HoldMaps$SoftMap") (hB : so_B tbl s0 D vcl tys) (K : va_K D vcl tys s) (E : so_Kn s0 s) (P : so_P D vcl s0.heap.size σ H) (hS : va_S (so_A s0.heap.size) s.heap H locs) (he : σ o = some (tg, .inr (9, fs))) (hM : Met l y_AL_get [.code y_AL_get b_AL_get 2 (some (.object "java/lang/Object"))] (so_rm k1 mc ms) (va_Pc (.ref o :: As) (so_Pre s0 D vcl σ)) Qc mc ms free) (hA : As.length = 1) (hk : k1 < k) (hc1 : cells + mc ≤ mcR) (hs1 : slots + ms ≤ msR) (hsize : ls.size = nL) (hst : st0 = As.reverse ++ .ref o :: rest) (hW : (rest.map fun v => v.category).sum ≤ 8) (hdg : decode cc pc = .ok (.invokevirtual 38, 3)) : va_Run p l e (so_rm k mcR msR) s m args below meth c H locs cells slots mc ms (F0 m pc ls st0) rest (Qc (Value.ref o :: As).toArray) free := ru_V S hB K E P hS hM he rfl wd_824 wd_440 wd_441 wd_442 wd_8 ⟨by decide +kernel, by decide +kernel, by rw [hA]; decide +kernel⟩ (by decide) hk hc1 hs1 hsize hst hW hdg
theorem gf_So_15_En (S : CallFix p m c cc nL s args tbl "HoldMaps$SoftMap") (K : va_K D vcl tys s) (P : so_P D vcl N0 σ H) (he : σ a = some (tg, .inr (3, fs))) (hv : fs[3]? = some v) (hdg : decode cc pc = .ok (.getfield 15, 3)) (kk : W p l e R s m args below meth c H locs cells slots Q (F0 m (pc + 3) ls (v :: rest))) : W p l e R s m args below meth c H locs cells slots Q (F0 m pc ls (.ref a :: rest)) := so_get S K P (T := F_En) (N := 4) i_En he rfl 3 (by decide) (S.2.2.2.2 _ wd_508) (fun _ h => h) hv hdg kk
theorem cv_HM_229_We (S : CallFix p m c cc nL s args tbl "HoldMaps") (hB : so_B tbl s0 D vcl tys) (K : va_K D vcl tys s) (E : so_Kn s0 s) (P : so_P D vcl s0.heap.size σ H) (hS : va_S (so_A s0.heap.size) s.heap H locs) (he : σ o = some (tg, .inr (4, fs))) (hM : Met l y_Ro_length [.code y_Ro_length b_Ro_length 1 (some .int)] (so_rm k1 mc ms) (va_Pc (.ref o :: As) (so_Pre s0 D vcl σ)) Qc mc ms free) (hA : As.length = 0) (hk : k1 < k) (hc1 : cells + mc ≤ mcR) (hs1 : slots + ms ≤ msR) (hsize : ls.size = nL) (hst : st0 = As.reverse ++ .ref o :: rest) (hW : (rest.map fun v => v.category).sum ≤ 8) (hdg : decode cc pc = .ok (.invokevirtual 229, 3)) : va_Run p l e (so_rm k mcR msR) s m args below meth c H locs cells slots mc ms (F0 m pc ls st0) rest (Qc (Value.ref o :: As).toArray) free := ru_U (x := ⟨"HoldMaps$WeakMap", "length", "()I"⟩) (owner := "HoldMaps$Row") S hB K E P hS hM he rfl wd_838 wd_839 (va_Decl.abs (va_Nw.of rfl (S.2.2.2.2 _ wd_817))) wd_220 wd_840 wd_221 wd_4 ⟨by decide +kernel, by decide +kernel, by rw [hA]; decide +kernel⟩ (by decide) hk hc1 hs1 hsize hst hW hdg
theorem cv_HM_230_We (S : CallFix p m c cc nL s args tbl "HoldMaps") (hB : so_B tbl s0 D vcl tys) (K : va_K D vcl tys s) (E : so_Kn s0 s) (P : so_P D vcl s0.heap.size σ H) (hS : va_S (so_A s0.heap.size) s.heap H locs) (he : σ o = some (tg, .inr (4, fs))) (hM : Met l y_Ta_keyAt [.code y_Ta_keyAt b_Ta_keyAt 3 (some .int)] (so_rm k1 mc ms) (va_Pc (.ref o :: As) (so_Pre s0 D vcl σ)) Qc mc ms free) (hA : As.length = 1) (hk : k1 < k) (hc1 : cells + mc ≤ mcR) (hs1 : slots + ms ≤ msR) (hsize : ls.size = nL) (hst : st0 = As.reverse ++ .ref o :: rest) (hW : (rest.map fun v => v.category).sum ≤ 8) (hdg : decode cc pc = .ok (.invokevirtual 230, 3)) : va_Run p l e (so_rm k mcR msR) s m args below meth c H locs cells slots mc ms (F0 m pc ls st0) rest (Qc (Value.ref o :: As).toArray) free := ru_U (x := ⟨"HoldMaps$WeakMap", "keyAt", "(I)I"⟩) (owner := "HoldMaps$Table") S hB K E P hS hM he rfl wd_841 wd_842 (va_Decl.abs (va_Nw.of rfl (S.2.2.2.2 _ wd_843))) wd_746 wd_844 wd_753 wd_3 ⟨by decide +kernel, by decide +kernel, by rw [hA]; decide +kernel⟩ (by decide) hk hc1 hs1 hsize hst hW hdg
theorem cv_HM_231_We (S : CallFix p m c cc nL s args tbl "HoldMaps") (hB : so_B tbl s0 D vcl tys) (K : va_K D vcl tys s) (E : so_Kn s0 s) (P : so_P D vcl s0.heap.size σ H) (hS : va_S (so_A s0.heap.size) s.heap H locs) (he : σ o = some (tg, .inr (4, fs))) (hM : Met l y_Ro_dropAt [.code y_Ro_dropAt b_Ro_dropAt 2 none] (so_rm k1 mc ms) (va_Pc (.ref o :: As) (so_Pre s0 D vcl σ)) Qc mc ms free) (hA : As.length = 1) (hk : k1 < k) (hc1 : cells + mc ≤ mcR) (hs1 : slots + ms ≤ msR) (hsize : ls.size = nL) (hst : st0 = As.reverse ++ .ref o :: rest) (hW : (rest.map fun v => v.category).sum ≤ 8) (hdg : decode cc pc = .ok (.invokevirtual 231, 3)) : va_Run p l e (so_rm k mcR msR) s m args below meth c H locs cells slots mc ms (F0 m pc ls st0) rest (Qc (Value.ref o :: As).toArray) free := ru_U (x := ⟨"HoldMaps$WeakMap", "dropAt", "(I)V"⟩) (owner := "HoldMaps$Row") S hB K E P hS hM he rfl wd_845 wd_846 (va_Decl.abs (va_Nw.of rfl (S.2.2.2.2 _ wd_601))) wd_603 wd_847 wd_604 wd_4 ⟨by decide +kernel, by decide +kernel, by rw [hA]; decide +kernel⟩ (by decide) hk hc1 hs1 hsize hst hW hdg
theorem gf_He_49_He (S : CallFix p m c cc nL s args tbl "HoldMaps$Heap") (K : va_K D vcl tys s) (P : so_P D vcl N0 σ H) (he : σ a = some (tg, .inr (1, fs))) (hv : fs[3]? = some v) (hdg : decode cc pc = .ok (.getfield 49, 3)) (kk : W p l e R s m args below meth c H locs cells slots Q (F0 m (pc + 3) ls (v :: rest))) : W p l e R s m args below meth c H locs cells slots Q (F0 m pc ls (.ref a :: rest)) := so_get S K P (T := F_He) (N := 4) i_He he rfl 3 (by decide) (S.2.2.2.2 _ wd_48) (fun _ h => h) hv hdg kk
theorem pf_He_49_He (S : CallFix p m c cc nL s args tbl "HoldMaps$Heap") (K : va_K D vcl tys s) (P : so_P D vcl N0 σ H) (hS : va_S (so_A N0) H0 H locs) (he : σ a = some (tg, .inr (1, fs))) (hl : 3 < fs.length) (hn : narrow (.int) v = v) (hf : fits (.int) v = true) (hdg : decode cc pc = .ok (.putfield 49, 3)) (kk : ∀ (H1 : Heap) (locs1 : List Loc), so_P D vcl N0 (so_up σ a (tg, .inr (1, fs.set 3 v))) H1 → va_S (so_A N0) H0 H1 locs1 → W p l e R s m args below meth c H1 locs1 cells slots Q (F0 m (pc + 3) ls rest)) : W p l e R s m args below meth c H locs cells slots Q (F0 m pc ls (v :: .ref a :: rest)) := so_put S K P hS (T := F_He) (N := 4) i_He t_He t_He_ok n_He he rfl 3 (by decide) (S.2.2.2.2 _ wd_48) (fun _ h => h) rfl (by decide +kernel) hn hf hl hdg kk
theorem pf_Mo_7_Mo (S : CallFix p m c cc nL s args tbl "HoldMapsModel") (K : va_K D vcl tys s) (P : so_P D vcl N0 σ H) (hS : va_S (so_A N0) H0 H locs) (he : σ a = some (tg, .inr (10, fs))) (hl : 1 < fs.length) (hn : narrow (.array (.int)) v = v) (hf : fits (.array (.int)) v = true) (hdg : decode cc pc = .ok (.putfield 7, 3)) (kk : ∀ (H1 : Heap) (locs1 : List Loc), so_P D vcl N0 (so_up σ a (tg, .inr (10, fs.set 1 v))) H1 → va_S (so_A N0) H0 H1 locs1 → W p l e R s m args below meth c H1 locs1 cells slots Q (F0 m (pc + 3) ls rest)) : W p l e R s m args below meth c H locs cells slots Q (F0 m pc ls (v :: .ref a :: rest)) := so_put S K P hS (T := F_Mo) (N := 18) i_Mo t_Mo t_Mo_ok n_Mo he rfl 1 (by decide) (S.2.2.2.2 _ wd_859) (fun _ h => h) rfl (by decide +kernel) hn hf hl hdg kk
theorem pf_Mo_13_Mo (S : CallFix p m c cc nL s args tbl "HoldMapsModel") (K : va_K D vcl tys s) (P : so_P D vcl N0 σ H) (hS : va_S (so_A N0) H0 H locs) (he : σ a = some (tg, .inr (10, fs))) (hl : 2 < fs.length) (hn : narrow (.array (.int)) v = v) (hf : fits (.array (.int)) v = true) (hdg : decode cc pc = .ok (.putfield 13, 3)) (kk : ∀ (H1 : Heap) (locs1 : List Loc), so_P D vcl N0 (so_up σ a (tg, .inr (10, fs.set 2 v))) H1 → va_S (so_A N0) H0 H1 locs1 → W p l e R s m args below meth c H1 locs1 cells slots Q (F0 m (pc + 3) ls rest)) : W p l e R s m args below meth c H locs cells slots Q (F0 m pc ls (v :: .ref a :: rest)) := so_put S K P hS (T := F_Mo) (N := 18) i_Mo t_Mo t_Mo_ok n_Mo he rfl 2 (by decide) (S.2.2.2.2 _ wd_860) (fun _ h => h) rfl (by decide +kernel) hn hf hl hdg kk
theorem pf_Mo_16_Mo (S : CallFix p m c cc nL s args tbl "HoldMapsModel") (K : va_K D vcl tys s) (P : so_P D vcl N0 σ H) (hS : va_S (so_A N0) H0 H locs) (he : σ a = some (tg, .inr (10, fs))) (hl : 3 < fs.length) (hn : narrow (.array (.int)) v = v) (hf : fits (.array (.int)) v = true) (hdg : decode cc pc = .ok (.putfield 16, 3)) (kk : ∀ (H1 : Heap) (locs1 : List Loc), so_P D vcl N0 (so_up σ a (tg, .inr (10, fs.set 3 v))) H1 → va_S (so_A N0) H0 H1 locs1 → W p l e R s m args below meth c H1 locs1 cells slots Q (F0 m (pc + 3) ls rest)) : W p l e R s m args below meth c H locs cells slots Q (F0 m pc ls (v :: .ref a :: rest)) := so_put S K P hS (T := F_Mo) (N := 18) i_Mo t_Mo t_Mo_ok n_Mo he rfl 3 (by decide) (S.2.2.2.2 _ wd_861) (fun _ h => h) rfl (by decide +kernel) hn hf hl hdg kk
theorem pf_Mo_19_Mo (S : CallFix p m c cc nL s args tbl "HoldMapsModel") (K : va_K D vcl tys s) (P : so_P D vcl N0 σ H) (hS : va_S (so_A N0) H0 H locs) (he : σ a = some (tg, .inr (10, fs))) (hl : 4 < fs.length) (hn : narrow (.array (.boolean)) v = v) (hf : fits (.array (.boolean)) v = true) (hdg : decode cc pc = .ok (.putfield 19, 3)) (kk : ∀ (H1 : Heap) (locs1 : List Loc), so_P D vcl N0 (so_up σ a (tg, .inr (10, fs.set 4 v))) H1 → va_S (so_A N0) H0 H1 locs1 → W p l e R s m args below meth c H1 locs1 cells slots Q (F0 m (pc + 3) ls rest)) : W p l e R s m args below meth c H locs cells slots Q (F0 m pc ls (v :: .ref a :: rest)) := so_put S K P hS (T := F_Mo) (N := 18) i_Mo t_Mo t_Mo_ok n_Mo he rfl 4 (by decide) (S.2.2.2.2 _ wd_862) (fun _ h => h) rfl (by decide +kernel) hn hf hl hdg kk
theorem pf_Mo_23_Mo (S : CallFix p m c cc nL s args tbl "HoldMapsModel") (K : va_K D vcl tys s) (P : so_P D vcl N0 σ H) (hS : va_S (so_A N0) H0 H locs) (he : σ a = some (tg, .inr (10, fs))) (hl : 5 < fs.length) (hn : narrow (.array (.boolean)) v = v) (hf : fits (.array (.boolean)) v = true) (hdg : decode cc pc = .ok (.putfield 23, 3)) (kk : ∀ (H1 : Heap) (locs1 : List Loc), so_P D vcl N0 (so_up σ a (tg, .inr (10, fs.set 5 v))) H1 → va_S (so_A N0) H0 H1 locs1 → W p l e R s m args below meth c H1 locs1 cells slots Q (F0 m (pc + 3) ls rest)) : W p l e R s m args below meth c H locs cells slots Q (F0 m pc ls (v :: .ref a :: rest)) := so_put S K P hS (T := F_Mo) (N := 18) i_Mo t_Mo t_Mo_ok n_Mo he rfl 5 (by decide) (S.2.2.2.2 _ wd_863) (fun _ h => h) rfl (by decide +kernel) hn hf hl hdg kk
theorem pf_Mo_26_Mo (S : CallFix p m c cc nL s args tbl "HoldMapsModel") (K : va_K D vcl tys s) (P : so_P D vcl N0 σ H) (hS : va_S (so_A N0) H0 H locs) (he : σ a = some (tg, .inr (10, fs))) (hl : 6 < fs.length) (hn : narrow (.array (.boolean)) v = v) (hf : fits (.array (.boolean)) v = true) (hdg : decode cc pc = .ok (.putfield 26, 3)) (kk : ∀ (H1 : Heap) (locs1 : List Loc), so_P D vcl N0 (so_up σ a (tg, .inr (10, fs.set 6 v))) H1 → va_S (so_A N0) H0 H1 locs1 → W p l e R s m args below meth c H1 locs1 cells slots Q (F0 m (pc + 3) ls rest)) : W p l e R s m args below meth c H locs cells slots Q (F0 m pc ls (v :: .ref a :: rest)) := so_put S K P hS (T := F_Mo) (N := 18) i_Mo t_Mo t_Mo_ok n_Mo he rfl 6 (by decide) (S.2.2.2.2 _ wd_864) (fun _ h => h) rfl (by decide +kernel) hn hf hl hdg kk
theorem pf_Mo_29_Mo (S : CallFix p m c cc nL s args tbl "HoldMapsModel") (K : va_K D vcl tys s) (P : so_P D vcl N0 σ H) (hS : va_S (so_A N0) H0 H locs) (he : σ a = some (tg, .inr (10, fs))) (hl : 8 < fs.length) (hn : narrow (.array (.int)) v = v) (hf : fits (.array (.int)) v = true) (hdg : decode cc pc = .ok (.putfield 29, 3)) (kk : ∀ (H1 : Heap) (locs1 : List Loc), so_P D vcl N0 (so_up σ a (tg, .inr (10, fs.set 8 v))) H1 → va_S (so_A N0) H0 H1 locs1 → W p l e R s m args below meth c H1 locs1 cells slots Q (F0 m (pc + 3) ls rest)) : W p l e R s m args below meth c H locs cells slots Q (F0 m pc ls (v :: .ref a :: rest)) := so_put S K P hS (T := F_Mo) (N := 18) i_Mo t_Mo t_Mo_ok n_Mo he rfl 8 (by decide) (S.2.2.2.2 _ wd_866) (fun _ h => h) rfl (by decide +kernel) hn hf hl hdg kk
theorem pf_Mo_32_Mo (S : CallFix p m c cc nL s args tbl "HoldMapsModel") (K : va_K D vcl tys s) (P : so_P D vcl N0 σ H) (hS : va_S (so_A N0) H0 H locs) (he : σ a = some (tg, .inr (10, fs))) (hl : 9 < fs.length) (hn : narrow (.array (.int)) v = v) (hf : fits (.array (.int)) v = true) (hdg : decode cc pc = .ok (.putfield 32, 3)) (kk : ∀ (H1 : Heap) (locs1 : List Loc), so_P D vcl N0 (so_up σ a (tg, .inr (10, fs.set 9 v))) H1 → va_S (so_A N0) H0 H1 locs1 → W p l e R s m args below meth c H1 locs1 cells slots Q (F0 m (pc + 3) ls rest)) : W p l e R s m args below meth c H locs cells slots Q (F0 m pc ls (v :: .ref a :: rest)) := so_put S K P hS (T := F_Mo) (N := 18) i_Mo t_Mo t_Mo_ok n_Mo he rfl 9 (by decide) (S.2.2.2.2 _ wd_867) (fun _ h => h) rfl (by decide +kernel) hn hf hl hdg kk
theorem pf_Mo_35_Mo (S : CallFix p m c cc nL s args tbl "HoldMapsModel") (K : va_K D vcl tys s) (P : so_P D vcl N0 σ H) (hS : va_S (so_A N0) H0 H locs) (he : σ a = some (tg, .inr (10, fs))) (hl : 10 < fs.length) (hn : narrow (.array (.int)) v = v) (hf : fits (.array (.int)) v = true) (hdg : decode cc pc = .ok (.putfield 35, 3)) (kk : ∀ (H1 : Heap) (locs1 : List Loc), so_P D vcl N0 (so_up σ a (tg, .inr (10, fs.set 10 v))) H1 → va_S (so_A N0) H0 H1 locs1 → W p l e R s m args below meth c H1 locs1 cells slots Q (F0 m (pc + 3) ls rest)) : W p l e R s m args below meth c H locs cells slots Q (F0 m pc ls (v :: .ref a :: rest)) := so_put S K P hS (T := F_Mo) (N := 18) i_Mo t_Mo t_Mo_ok n_Mo he rfl 10 (by decide) (S.2.2.2.2 _ wd_868) (fun _ h => h) rfl (by decide +kernel) hn hf hl hdg kk
theorem pf_Mo_38_Mo (S : CallFix p m c cc nL s args tbl "HoldMapsModel") (K : va_K D vcl tys s) (P : so_P D vcl N0 σ H) (hS : va_S (so_A N0) H0 H locs) (he : σ a = some (tg, .inr (10, fs))) (hl : 11 < fs.length) (hn : narrow (.array (.int)) v = v) (hf : fits (.array (.int)) v = true) (hdg : decode cc pc = .ok (.putfield 38, 3)) (kk : ∀ (H1 : Heap) (locs1 : List Loc), so_P D vcl N0 (so_up σ a (tg, .inr (10, fs.set 11 v))) H1 → va_S (so_A N0) H0 H1 locs1 → W p l e R s m args below meth c H1 locs1 cells slots Q (F0 m (pc + 3) ls rest)) : W p l e R s m args below meth c H locs cells slots Q (F0 m pc ls (v :: .ref a :: rest)) := so_put S K P hS (T := F_Mo) (N := 18) i_Mo t_Mo t_Mo_ok n_Mo he rfl 11 (by decide) (S.2.2.2.2 _ wd_869) (fun _ h => h) rfl (by decide +kernel) hn hf hl hdg kk
theorem pf_Mo_41_Mo (S : CallFix p m c cc nL s args tbl "HoldMapsModel") (K : va_K D vcl tys s) (P : so_P D vcl N0 σ H) (hS : va_S (so_A N0) H0 H locs) (he : σ a = some (tg, .inr (10, fs))) (hl : 12 < fs.length) (hn : narrow (.int) v = v) (hf : fits (.int) v = true) (hdg : decode cc pc = .ok (.putfield 41, 3)) (kk : ∀ (H1 : Heap) (locs1 : List Loc), so_P D vcl N0 (so_up σ a (tg, .inr (10, fs.set 12 v))) H1 → va_S (so_A N0) H0 H1 locs1 → W p l e R s m args below meth c H1 locs1 cells slots Q (F0 m (pc + 3) ls rest)) : W p l e R s m args below meth c H locs cells slots Q (F0 m pc ls (v :: .ref a :: rest)) := so_put S K P hS (T := F_Mo) (N := 18) i_Mo t_Mo t_Mo_ok n_Mo he rfl 12 (by decide) (S.2.2.2.2 _ wd_870) (fun _ h => h) rfl (by decide +kernel) hn hf hl hdg kk
theorem pf_Mo_45_Mo (S : CallFix p m c cc nL s args tbl "HoldMapsModel") (K : va_K D vcl tys s) (P : so_P D vcl N0 σ H) (hS : va_S (so_A N0) H0 H locs) (he : σ a = some (tg, .inr (10, fs))) (hl : 13 < fs.length) (hn : narrow (.array (.int)) v = v) (hf : fits (.array (.int)) v = true) (hdg : decode cc pc = .ok (.putfield 45, 3)) (kk : ∀ (H1 : Heap) (locs1 : List Loc), so_P D vcl N0 (so_up σ a (tg, .inr (10, fs.set 13 v))) H1 → va_S (so_A N0) H0 H1 locs1 → W p l e R s m args below meth c H1 locs1 cells slots Q (F0 m (pc + 3) ls rest)) : W p l e R s m args below meth c H locs cells slots Q (F0 m pc ls (v :: .ref a :: rest)) := so_put S K P hS (T := F_Mo) (N := 18) i_Mo t_Mo t_Mo_ok n_Mo he rfl 13 (by decide) (S.2.2.2.2 _ wd_871) (fun _ h => h) rfl (by decide +kernel) hn hf hl hdg kk
theorem pf_Mo_48_Mo (S : CallFix p m c cc nL s args tbl "HoldMapsModel") (K : va_K D vcl tys s) (P : so_P D vcl N0 σ H) (hS : va_S (so_A N0) H0 H locs) (he : σ a = some (tg, .inr (10, fs))) (hl : 15 < fs.length) (hn : narrow (.array (.boolean)) v = v) (hf : fits (.array (.boolean)) v = true) (hdg : decode cc pc = .ok (.putfield 48, 3)) (kk : ∀ (H1 : Heap) (locs1 : List Loc), so_P D vcl N0 (so_up σ a (tg, .inr (10, fs.set 15 v))) H1 → va_S (so_A N0) H0 H1 locs1 → W p l e R s m args below meth c H1 locs1 cells slots Q (F0 m (pc + 3) ls rest)) : W p l e R s m args below meth c H locs cells slots Q (F0 m pc ls (v :: .ref a :: rest)) := so_put S K P hS (T := F_Mo) (N := 18) i_Mo t_Mo t_Mo_ok n_Mo he rfl 15 (by decide) (S.2.2.2.2 _ wd_873) (fun _ h => h) rfl (by decide +kernel) hn hf hl hdg kk
theorem pf_Mo_51_Mo (S : CallFix p m c cc nL s args tbl "HoldMapsModel") (K : va_K D vcl tys s) (P : so_P D vcl N0 σ H) (hS : va_S (so_A N0) H0 H locs) (he : σ a = some (tg, .inr (10, fs))) (hl : 16 < fs.length) (hn : narrow (.array (.boolean)) v = v) (hf : fits (.array (.boolean)) v = true) (hdg : decode cc pc = .ok (.putfield 51, 3)) (kk : ∀ (H1 : Heap) (locs1 : List Loc), so_P D vcl N0 (so_up σ a (tg, .inr (10, fs.set 16 v))) H1 → va_S (so_A N0) H0 H1 locs1 → W p l e R s m args below meth c H1 locs1 cells slots Q (F0 m (pc + 3) ls rest)) : W p l e R s m args below meth c H locs cells slots Q (F0 m pc ls (v :: .ref a :: rest)) := so_put S K P hS (T := F_Mo) (N := 18) i_Mo t_Mo t_Mo_ok n_Mo he rfl 16 (by decide) (S.2.2.2.2 _ wd_874) (fun _ h => h) rfl (by decide +kernel) hn hf hl hdg kk
theorem pf_Mo_54_Mo (S : CallFix p m c cc nL s args tbl "HoldMapsModel") (K : va_K D vcl tys s) (P : so_P D vcl N0 σ H) (hS : va_S (so_A N0) H0 H locs) (he : σ a = some (tg, .inr (10, fs))) (hl : 17 < fs.length) (hn : narrow (.array (.int)) v = v) (hf : fits (.array (.int)) v = true) (hdg : decode cc pc = .ok (.putfield 54, 3)) (kk : ∀ (H1 : Heap) (locs1 : List Loc), so_P D vcl N0 (so_up σ a (tg, .inr (10, fs.set 17 v))) H1 → va_S (so_A N0) H0 H1 locs1 → W p l e R s m args below meth c H1 locs1 cells slots Q (F0 m (pc + 3) ls rest)) : W p l e R s m args below meth c H locs cells slots Q (F0 m pc ls (v :: .ref a :: rest)) := so_put S K P hS (T := F_Mo) (N := 18) i_Mo t_Mo t_Mo_ok n_Mo he rfl 17 (by decide) (S.2.2.2.2 _ wd_875) (fun _ h => h) rfl (by decide +kernel) hn hf hl hdg kk
theorem gf_Mo_29_Mo (S : CallFix p m c cc nL s args tbl "HoldMapsModel") (K : va_K D vcl tys s) (P : so_P D vcl N0 σ H) (he : σ a = some (tg, .inr (10, fs))) (hv : fs[8]? = some v) (hdg : decode cc pc = .ok (.getfield 29, 3)) (kk : W p l e R s m args below meth c H locs cells slots Q (F0 m (pc + 3) ls (v :: rest))) : W p l e R s m args below meth c H locs cells slots Q (F0 m pc ls (.ref a :: rest)) := so_get S K P (T := F_Mo) (N := 18) i_Mo he rfl 8 (by decide) (S.2.2.2.2 _ wd_866) (fun _ h => h) hv hdg kk
theorem gf_Mo_57_Mo (S : CallFix p m c cc nL s args tbl "HoldMapsModel") (K : va_K D vcl tys s) (P : so_P D vcl N0 σ H) (he : σ a = some (tg, .inr (10, fs))) (hv : fs[0]? = some v) (hdg : decode cc pc = .ok (.getfield 57, 3)) (kk : W p l e R s m args below meth c H locs cells slots Q (F0 m (pc + 3) ls (v :: rest))) : W p l e R s m args below meth c H locs cells slots Q (F0 m pc ls (.ref a :: rest)) := so_get S K P (T := F_Mo) (N := 18) i_Mo he rfl 0 (by decide) (S.2.2.2.2 _ wd_858) (fun _ h => h) hv hdg kk
theorem pf_Mo_57_Mo (S : CallFix p m c cc nL s args tbl "HoldMapsModel") (K : va_K D vcl tys s) (P : so_P D vcl N0 σ H) (hS : va_S (so_A N0) H0 H locs) (he : σ a = some (tg, .inr (10, fs))) (hl : 0 < fs.length) (hn : narrow (.int) v = v) (hf : fits (.int) v = true) (hdg : decode cc pc = .ok (.putfield 57, 3)) (kk : ∀ (H1 : Heap) (locs1 : List Loc), so_P D vcl N0 (so_up σ a (tg, .inr (10, fs.set 0 v))) H1 → va_S (so_A N0) H0 H1 locs1 → W p l e R s m args below meth c H1 locs1 cells slots Q (F0 m (pc + 3) ls rest)) : W p l e R s m args below meth c H locs cells slots Q (F0 m pc ls (v :: .ref a :: rest)) := so_put S K P hS (T := F_Mo) (N := 18) i_Mo t_Mo t_Mo_ok n_Mo he rfl 0 (by decide) (S.2.2.2.2 _ wd_858) (fun _ h => h) rfl (by decide +kernel) hn hf hl hdg kk
theorem cv_Mo_60_Mo (S : CallFix p m c cc nL s args tbl "HoldMapsModel") (hB : so_B tbl s0 D vcl tys) (K : va_K D vcl tys s) (E : so_Kn s0 s) (P : so_P D vcl s0.heap.size σ H) (hS : va_S (so_A s0.heap.size) s.heap H locs) (he : σ o = some (tg, .inr (10, fs))) (hM : Met l y_Mo_refuse [.code y_Mo_refuse b_Mo_refuse 2 (some .int)] (so_rm k1 mc ms) (va_Pc (.ref o :: As) (so_Pre s0 D vcl σ)) Qc mc ms free) (hA : As.length = 1) (hk : k1 < k) (hc1 : cells + mc ≤ mcR) (hs1 : slots + ms ≤ msR) (hsize : ls.size = nL) (hst : st0 = As.reverse ++ .ref o :: rest) (hW : (rest.map fun v => v.category).sum ≤ 8) (hdg : decode cc pc = .ok (.invokevirtual 60, 3)) : va_Run p l e (so_rm k mcR msR) s m args below meth c H locs cells slots mc ms (F0 m pc ls st0) rest (Qc (Value.ref o :: As).toArray) free := ru_V S hB K E P hS hM he rfl wd_922 wd_924 (tbl_sel (q := (y_Mo_refuse, 18)) (List.mem_of_getElem? (i := 19) rfl)) wd_925 wd_13 ⟨by decide +kernel, by decide +kernel, by rw [hA]; decide +kernel⟩ (by decide) hk hc1 hs1 hsize hst hW hdg
theorem gf_Mo_19_Mo (S : CallFix p m c cc nL s args tbl "HoldMapsModel") (K : va_K D vcl tys s) (P : so_P D vcl N0 σ H) (he : σ a = some (tg, .inr (10, fs))) (hv : fs[4]? = some v) (hdg : decode cc pc = .ok (.getfield 19, 3)) (kk : W p l e R s m args below meth c H locs cells slots Q (F0 m (pc + 3) ls (v :: rest))) : W p l e R s m args below meth c H locs cells slots Q (F0 m pc ls (.ref a :: rest)) := so_get S K P (T := F_Mo) (N := 18) i_Mo he rfl 4 (by decide) (S.2.2.2.2 _ wd_862) (fun _ h => h) hv hdg kk
theorem gf_Mo_23_Mo (S : CallFix p m c cc nL s args tbl "HoldMapsModel") (K : va_K D vcl tys s) (P : so_P D vcl N0 σ H) (he : σ a = some (tg, .inr (10, fs))) (hv : fs[5]? = some v) (hdg : decode cc pc = .ok (.getfield 23, 3)) (kk : W p l e R s m args below meth c H locs cells slots Q (F0 m (pc + 3) ls (v :: rest))) : W p l e R s m args below meth c H locs cells slots Q (F0 m pc ls (.ref a :: rest)) := so_get S K P (T := F_Mo) (N := 18) i_Mo he rfl 5 (by decide) (S.2.2.2.2 _ wd_863) (fun _ h => h) hv hdg kk
theorem gf_Mo_7_Mo (S : CallFix p m c cc nL s args tbl "HoldMapsModel") (K : va_K D vcl tys s) (P : so_P D vcl N0 σ H) (he : σ a = some (tg, .inr (10, fs))) (hv : fs[1]? = some v) (hdg : decode cc pc = .ok (.getfield 7, 3)) (kk : W p l e R s m args below meth c H locs cells slots Q (F0 m (pc + 3) ls (v :: rest))) : W p l e R s m args below meth c H locs cells slots Q (F0 m pc ls (.ref a :: rest)) := so_get S K P (T := F_Mo) (N := 18) i_Mo he rfl 1 (by decide) (S.2.2.2.2 _ wd_859) (fun _ h => h) hv hdg kk
theorem gf_Mo_13_Mo (S : CallFix p m c cc nL s args tbl "HoldMapsModel") (K : va_K D vcl tys s) (P : so_P D vcl N0 σ H) (he : σ a = some (tg, .inr (10, fs))) (hv : fs[2]? = some v) (hdg : decode cc pc = .ok (.getfield 13, 3)) (kk : W p l e R s m args below meth c H locs cells slots Q (F0 m (pc + 3) ls (v :: rest))) : W p l e R s m args below meth c H locs cells slots Q (F0 m pc ls (.ref a :: rest)) := so_get S K P (T := F_Mo) (N := 18) i_Mo he rfl 2 (by decide) (S.2.2.2.2 _ wd_860) (fun _ h => h) hv hdg kk
theorem gf_Mo_16_Mo (S : CallFix p m c cc nL s args tbl "HoldMapsModel") (K : va_K D vcl tys s) (P : so_P D vcl N0 σ H) (he : σ a = some (tg, .inr (10, fs))) (hv : fs[3]? = some v) (hdg : decode cc pc = .ok (.getfield 16, 3)) (kk : W p l e R s m args below meth c H locs cells slots Q (F0 m (pc + 3) ls (v :: rest))) : W p l e R s m args below meth c H locs cells slots Q (F0 m pc ls (.ref a :: rest)) := so_get S K P (T := F_Mo) (N := 18) i_Mo he rfl 3 (by decide) (S.2.2.2.2 _ wd_861) (fun _ h => h) hv hdg kk
theorem cv_Mo_64_Mo (S : CallFix p m c cc nL s args tbl "HoldMapsModel") (hB : so_B tbl s0 D vcl tys) (K : va_K D vcl tys s) (E : so_Kn s0 s) (P : so_P D vcl s0.heap.size σ H) (hS : va_S (so_A s0.heap.size) s.heap H locs) (he : σ o = some (tg, .inr (10, fs))) (hM : Met l y_Mo_isObject [.code y_Mo_isObject b_Mo_isObject 2 (some .boolean)] (so_rm k1 mc ms) (va_Pc (.ref o :: As) (so_Pre s0 D vcl σ)) Qc mc ms free) (hA : As.length = 1) (hk : k1 < k) (hc1 : cells + mc ≤ mcR) (hs1 : slots + ms ≤ msR) (hsize : ls.size = nL) (hst : st0 = As.reverse ++ .ref o :: rest) (hW : (rest.map fun v => v.category).sum ≤ 8) (hdg : decode cc pc = .ok (.invokevirtual 64, 3)) : va_Run p l e (so_rm k mcR msR) s m args below meth c H locs cells slots mc ms (F0 m pc ls st0) rest (Qc (Value.ref o :: As).toArray) free := ru_V S hB K E P hS hM he rfl wd_930 wd_932 (tbl_sel (q := (y_Mo_isObject, 18)) (List.mem_of_getElem? (i := 20) rfl)) wd_933 wd_13 ⟨by decide +kernel, by decide +kernel, by rw [hA]; decide +kernel⟩ (by decide) hk hc1 hs1 hsize hst hW hdg
theorem cv_Mo_112_Mo (S : CallFix p m c cc nL s args tbl "HoldMapsModel") (hB : so_B tbl s0 D vcl tys) (K : va_K D vcl tys s) (E : so_Kn s0 s) (P : so_P D vcl s0.heap.size σ H) (hS : va_S (so_A s0.heap.size) s.heap H locs) (he : σ o = some (tg, .inr (10, fs))) (hM : Met l y_Mo_isMap [.code y_Mo_isMap b_Mo_isMap 2 (some .boolean)] (so_rm k1 mc ms) (va_Pc (.ref o :: As) (so_Pre s0 D vcl σ)) Qc mc ms free) (hA : As.length = 1) (hk : k1 < k) (hc1 : cells + mc ≤ mcR) (hs1 : slots + ms ≤ msR) (hsize : ls.size = nL) (hst : st0 = As.reverse ++ .ref o :: rest) (hW : (rest.map fun v => v.category).sum ≤ 8) (hdg : decode cc pc = .ok (.invokevirtual 112, 3)) : va_Run p l e (so_rm k mcR msR) s m args below meth c H locs cells slots mc ms (F0 m pc ls st0) rest (Qc (Value.ref o :: As).toArray) free := ru_V S hB K E P hS hM he rfl wd_942 wd_944 (tbl_sel (q := (y_Mo_isMap, 18)) (List.mem_of_getElem? (i := 21) rfl)) wd_945 wd_13 ⟨by decide +kernel, by decide +kernel, by rw [hA]; decide +kernel⟩ (by decide) hk hc1 hs1 hsize hst hW hdg
theorem cv_Mo_115_Mo (S : CallFix p m c cc nL s args tbl "HoldMapsModel") (hB : so_B tbl s0 D vcl tys) (K : va_K D vcl tys s) (E : so_Kn s0 s) (P : so_P D vcl s0.heap.size σ H) (hS : va_S (so_A s0.heap.size) s.heap H locs) (he : σ o = some (tg, .inr (10, fs))) (hM : Met l y_Mo_isKey [.code y_Mo_isKey b_Mo_isKey 3 (some .boolean)] (so_rm k1 mc ms) (va_Pc (.ref o :: As) (so_Pre s0 D vcl σ)) Qc mc ms free) (hA : As.length = 2) (hk : k1 < k) (hc1 : cells + mc ≤ mcR) (hs1 : slots + ms ≤ msR) (hsize : ls.size = nL) (hst : st0 = As.reverse ++ .ref o :: rest) (hW : (rest.map fun v => v.category).sum ≤ 8) (hdg : decode cc pc = .ok (.invokevirtual 115, 3)) : va_Run p l e (so_rm k mcR msR) s m args below meth c H locs cells slots mc ms (F0 m pc ls st0) rest (Qc (Value.ref o :: As).toArray) free := ru_V S hB K E P hS hM he rfl wd_946 wd_948 (tbl_sel (q := (y_Mo_isKey, 18)) (List.mem_of_getElem? (i := 22) rfl)) wd_949 wd_13 ⟨by decide +kernel, by decide +kernel, by rw [hA]; decide +kernel⟩ (by decide) hk hc1 hs1 hsize hst hW hdg
theorem cv_Mo_119_Mo (S : CallFix p m c cc nL s args tbl "HoldMapsModel") (hB : so_B tbl s0 D vcl tys) (K : va_K D vcl tys s) (E : so_Kn s0 s) (P : so_P D vcl s0.heap.size σ H) (hS : va_S (so_A s0.heap.size) s.heap H locs) (he : σ o = some (tg, .inr (10, fs))) (hM : Met l y_Mo_find [.code y_Mo_find b_Mo_find 5 (some .int)] (so_rm k1 mc ms) (va_Pc (.ref o :: As) (so_Pre s0 D vcl σ)) Qc mc ms free) (hA : As.length = 2) (hk : k1 < k) (hc1 : cells + mc ≤ mcR) (hs1 : slots + ms ≤ msR) (hsize : ls.size = nL) (hst : st0 = As.reverse ++ .ref o :: rest) (hW : (rest.map fun v => v.category).sum ≤ 8) (hdg : decode cc pc = .ok (.invokevirtual 119, 3)) : va_Run p l e (so_rm k mcR msR) s m args below meth c H locs cells slots mc ms (F0 m pc ls st0) rest (Qc (Value.ref o :: As).toArray) free := ru_V S hB K E P hS hM he rfl wd_950 wd_952 (tbl_sel (q := (y_Mo_find, 18)) (List.mem_of_getElem? (i := 23) rfl)) wd_953 wd_13 ⟨by decide +kernel, by decide +kernel, by rw [hA]; decide +kernel⟩ (by decide) hk hc1 hs1 hsize hst hW hdg
theorem gf_Mo_38_Mo (S : CallFix p m c cc nL s args tbl "HoldMapsModel") (K : va_K D vcl tys s) (P : so_P D vcl N0 σ H) (he : σ a = some (tg, .inr (10, fs))) (hv : fs[11]? = some v) (hdg : decode cc pc = .ok (.getfield 38, 3)) (kk : W p l e R s m args below meth c H locs cells slots Q (F0 m (pc + 3) ls (v :: rest))) : W p l e R s m args below meth c H locs cells slots Q (F0 m pc ls (.ref a :: rest)) := so_get S K P (T := F_Mo) (N := 18) i_Mo he rfl 11 (by decide) (S.2.2.2.2 _ wd_869) (fun _ h => h) hv hdg kk
theorem gf_Mo_93_Mo (S : CallFix p m c cc nL s args tbl "HoldMapsModel") (K : va_K D vcl tys s) (P : so_P D vcl N0 σ H) (he : σ a = some (tg, .inr (10, fs))) (hv : fs[14]? = some v) (hdg : decode cc pc = .ok (.getfield 93, 3)) (kk : W p l e R s m args below meth c H locs cells slots Q (F0 m (pc + 3) ls (v :: rest))) : W p l e R s m args below meth c H locs cells slots Q (F0 m pc ls (.ref a :: rest)) := so_get S K P (T := F_Mo) (N := 18) i_Mo he rfl 14 (by decide) (S.2.2.2.2 _ wd_872) (fun _ h => h) hv hdg kk
theorem pf_Mo_93_Mo (S : CallFix p m c cc nL s args tbl "HoldMapsModel") (K : va_K D vcl tys s) (P : so_P D vcl N0 σ H) (hS : va_S (so_A N0) H0 H locs) (he : σ a = some (tg, .inr (10, fs))) (hl : 14 < fs.length) (hn : narrow (.int) v = v) (hf : fits (.int) v = true) (hdg : decode cc pc = .ok (.putfield 93, 3)) (kk : ∀ (H1 : Heap) (locs1 : List Loc), so_P D vcl N0 (so_up σ a (tg, .inr (10, fs.set 14 v))) H1 → va_S (so_A N0) H0 H1 locs1 → W p l e R s m args below meth c H1 locs1 cells slots Q (F0 m (pc + 3) ls rest)) : W p l e R s m args below meth c H locs cells slots Q (F0 m pc ls (v :: .ref a :: rest)) := so_put S K P hS (T := F_Mo) (N := 18) i_Mo t_Mo t_Mo_ok n_Mo he rfl 14 (by decide) (S.2.2.2.2 _ wd_872) (fun _ h => h) rfl (by decide +kernel) hn hf hl hdg kk
theorem cv_Mo_123_Mo (S : CallFix p m c cc nL s args tbl "HoldMapsModel") (hB : so_B tbl s0 D vcl tys) (K : va_K D vcl tys s) (E : so_Kn s0 s) (P : so_P D vcl s0.heap.size σ H) (hS : va_S (so_A s0.heap.size) s.heap H locs) (he : σ o = some (tg, .inr (10, fs))) (hM : Met l y_Mo_comes [.code y_Mo_comes b_Mo_comes 4 none] (so_rm k1 mc ms) (va_Pc (.ref o :: As) (so_Pre s0 D vcl σ)) Qc mc ms free) (hA : As.length = 3) (hk : k1 < k) (hc1 : cells + mc ≤ mcR) (hs1 : slots + ms ≤ msR) (hsize : ls.size = nL) (hst : st0 = As.reverse ++ .ref o :: rest) (hW : (rest.map fun v => v.category).sum ≤ 8) (hdg : decode cc pc = .ok (.invokevirtual 123, 3)) : va_Run p l e (so_rm k mcR msR) s m args below meth c H locs cells slots mc ms (F0 m pc ls st0) rest (Qc (Value.ref o :: As).toArray) free := ru_V S hB K E P hS hM he rfl wd_962 wd_964 (tbl_sel (q := (y_Mo_comes, 18)) (List.mem_of_getElem? (i := 26) rfl)) wd_965 wd_13 ⟨by decide +kernel, by decide +kernel, by rw [hA]; decide +kernel⟩ (by decide) hk hc1 hs1 hsize hst hW hdg
theorem gf_Mo_32_Mo (S : CallFix p m c cc nL s args tbl "HoldMapsModel") (K : va_K D vcl tys s) (P : so_P D vcl N0 σ H) (he : σ a = some (tg, .inr (10, fs))) (hv : fs[9]? = some v) (hdg : decode cc pc = .ok (.getfield 32, 3)) (kk : W p l e R s m args below meth c H locs cells slots Q (F0 m (pc + 3) ls (v :: rest))) : W p l e R s m args below meth c H locs cells slots Q (F0 m pc ls (.ref a :: rest)) := so_get S K P (T := F_Mo) (N := 18) i_Mo he rfl 9 (by decide) (S.2.2.2.2 _ wd_867) (fun _ h => h) hv hdg kk
theorem cv_Mo_126_Mo (S : CallFix p m c cc nL s args tbl "HoldMapsModel") (hB : so_B tbl s0 D vcl tys) (K : va_K D vcl tys s) (E : so_Kn s0 s) (P : so_P D vcl s0.heap.size σ H) (hS : va_S (so_A s0.heap.size) s.heap H locs) (he : σ o = some (tg, .inr (10, fs))) (hM : Met l y_Mo_use [.code y_Mo_use b_Mo_use 5 none] (so_rm k1 mc ms) (va_Pc (.ref o :: As) (so_Pre s0 D vcl σ)) Qc mc ms free) (hA : As.length = 2) (hk : k1 < k) (hc1 : cells + mc ≤ mcR) (hs1 : slots + ms ≤ msR) (hsize : ls.size = nL) (hst : st0 = As.reverse ++ .ref o :: rest) (hW : (rest.map fun v => v.category).sum ≤ 8) (hdg : decode cc pc = .ok (.invokevirtual 126, 3)) : va_Run p l e (so_rm k mcR msR) s m args below meth c H locs cells slots mc ms (F0 m pc ls st0) rest (Qc (Value.ref o :: As).toArray) free := ru_V S hB K E P hS hM he rfl wd_1001 wd_1003 (tbl_sel (q := (y_Mo_use, 18)) (List.mem_of_getElem? (i := 35) rfl)) wd_1004 wd_13 ⟨by decide +kernel, by decide +kernel, by rw [hA]; decide +kernel⟩ (by decide) hk hc1 hs1 hsize hst hW hdg
theorem cv_Mo_68_Mo (S : CallFix p m c cc nL s args tbl "HoldMapsModel") (hB : so_B tbl s0 D vcl tys) (K : va_K D vcl tys s) (E : so_Kn s0 s) (P : so_P D vcl s0.heap.size σ H) (hS : va_S (so_A s0.heap.size) s.heap H locs) (he : σ o = some (tg, .inr (10, fs))) (hM : Met l y_Mo_endd [.code y_Mo_endd b_Mo_endd 2 (some .int)] (so_rm k1 mc ms) (va_Pc (.ref o :: As) (so_Pre s0 D vcl σ)) Qc mc ms free) (hA : As.length = 1) (hk : k1 < k) (hc1 : cells + mc ≤ mcR) (hs1 : slots + ms ≤ msR) (hsize : ls.size = nL) (hst : st0 = As.reverse ++ .ref o :: rest) (hW : (rest.map fun v => v.category).sum ≤ 8) (hdg : decode cc pc = .ok (.invokevirtual 68, 3)) : va_Run p l e (so_rm k mcR msR) s m args below meth c H locs cells slots mc ms (F0 m pc ls st0) rest (Qc (Value.ref o :: As).toArray) free := ru_V S hB K E P hS hM he rfl wd_954 wd_956 (tbl_sel (q := (y_Mo_endd, 18)) (List.mem_of_getElem? (i := 24) rfl)) wd_957 wd_13 ⟨by decide +kernel, by decide +kernel, by rw [hA]; decide +kernel⟩ (by decide) hk hc1 hs1 hsize hst hW hdg
theorem cv_Mo_71_Mo (S : CallFix p m c cc nL s args tbl "HoldMapsModel") (hB : so_B tbl s0 D vcl tys) (K : va_K D vcl tys s) (E : so_Kn s0 s) (P : so_P D vcl s0.heap.size σ H) (hS : va_S (so_A s0.heap.size) s.heap H locs) (he : σ o = some (tg, .inr (10, fs))) (hM : Met l y_Mo_isSame [.code y_Mo_isSame b_Mo_isSame 4 (some .boolean)] (so_rm k1 mc ms) (va_Pc (.ref o :: As) (so_Pre s0 D vcl σ)) Qc mc ms free) (hA : As.length = 3) (hk : k1 < k) (hc1 : cells + mc ≤ mcR) (hs1 : slots + ms ≤ msR) (hsize : ls.size = nL) (hst : st0 = As.reverse ++ .ref o :: rest) (hW : (rest.map fun v => v.category).sum ≤ 8) (hdg : decode cc pc = .ok (.invokevirtual 71, 3)) : va_Run p l e (so_rm k mcR msR) s m args below meth c H locs cells slots mc ms (F0 m pc ls st0) rest (Qc (Value.ref o :: As).toArray) free := ru_V S hB K E P hS hM he rfl wd_958 wd_960 (tbl_sel (q := (y_Mo_isSame, 18)) (List.mem_of_getElem? (i := 25) rfl)) wd_961 wd_13 ⟨by decide +kernel, by decide +kernel, by rw [hA]; decide +kernel⟩ (by decide) hk hc1 hs1 hsize hst hW hdg
theorem cv_Mo_99_Mo (S : CallFix p m c cc nL s args tbl "HoldMapsModel") (hB : so_B tbl s0 D vcl tys) (K : va_K D vcl tys s) (E : so_Kn s0 s) (P : so_P D vcl s0.heap.size σ H) (hS : va_S (so_A s0.heap.size) s.heap H locs) (he : σ o = some (tg, .inr (10, fs))) (hM : Met l y_Mo_change [.code y_Mo_change b_Mo_change 2 none] (so_rm k1 mc ms) (va_Pc (.ref o :: As) (so_Pre s0 D vcl σ)) Qc mc ms free) (hA : As.length = 1) (hk : k1 < k) (hc1 : cells + mc ≤ mcR) (hs1 : slots + ms ≤ msR) (hsize : ls.size = nL) (hst : st0 = As.reverse ++ .ref o :: rest) (hW : (rest.map fun v => v.category).sum ≤ 8) (hdg : decode cc pc = .ok (.invokevirtual 99, 3)) : va_Run p l e (so_rm k mcR msR) s m args below meth c H locs cells slots mc ms (F0 m pc ls st0) rest (Qc (Value.ref o :: As).toArray) free := ru_V S hB K E P hS hM he rfl wd_966 wd_968 (tbl_sel (q := (y_Mo_change, 18)) (List.mem_of_getElem? (i := 27) rfl)) wd_969 wd_13 ⟨by decide +kernel, by decide +kernel, by rw [hA]; decide +kernel⟩ (by decide) hk hc1 hs1 hsize hst hW hdg
theorem cv_Mo_86_Mo (S : CallFix p m c cc nL s args tbl "HoldMapsModel") (hB : so_B tbl s0 D vcl tys) (K : va_K D vcl tys s) (E : so_Kn s0 s) (P : so_P D vcl s0.heap.size σ H) (hS : va_S (so_A s0.heap.size) s.heap H locs) (he : σ o = some (tg, .inr (10, fs))) (hM : Met l y_Mo_putWeak [.code y_Mo_putWeak b_Mo_putWeak 5 none] (so_rm k1 mc ms) (va_Pc (.ref o :: As) (so_Pre s0 D vcl σ)) Qc mc ms free) (hA : As.length = 2) (hk : k1 < k) (hc1 : cells + mc ≤ mcR) (hs1 : slots + ms ≤ msR) (hsize : ls.size = nL) (hst : st0 = As.reverse ++ .ref o :: rest) (hW : (rest.map fun v => v.category).sum ≤ 8) (hdg : decode cc pc = .ok (.invokevirtual 86, 3)) : va_Run p l e (so_rm k mcR msR) s m args below meth c H locs cells slots mc ms (F0 m pc ls st0) rest (Qc (Value.ref o :: As).toArray) free := ru_V S hB K E P hS hM he rfl wd_970 wd_972 (tbl_sel (q := (y_Mo_putWeak, 18)) (List.mem_of_getElem? (i := 28) rfl)) wd_973 wd_13 ⟨by decide +kernel, by decide +kernel, by rw [hA]; decide +kernel⟩ (by decide) hk hc1 hs1 hsize hst hW hdg
theorem gf_Mo_41_Mo (S : CallFix p m c cc nL s args tbl "HoldMapsModel") (K : va_K D vcl tys s) (P : so_P D vcl N0 σ H) (he : σ a = some (tg, .inr (10, fs))) (hv : fs[12]? = some v) (hdg : decode cc pc = .ok (.getfield 41, 3)) (kk : W p l e R s m args below meth c H locs cells slots Q (F0 m (pc + 3) ls (v :: rest))) : W p l e R s m args below meth c H locs cells slots Q (F0 m pc ls (.ref a :: rest)) := so_get S K P (T := F_Mo) (N := 18) i_Mo he rfl 12 (by decide) (S.2.2.2.2 _ wd_870) (fun _ h => h) hv hdg kk
theorem cv_Mo_103_Mo (S : CallFix p m c cc nL s args tbl "HoldMapsModel") (hB : so_B tbl s0 D vcl tys) (K : va_K D vcl tys s) (E : so_Kn s0 s) (P : so_P D vcl s0.heap.size σ H) (hS : va_S (so_A s0.heap.size) s.heap H locs) (he : σ o = some (tg, .inr (10, fs))) (hM : Met l y_Mo_doubleBuckets [.code y_Mo_doubleBuckets b_Mo_doubleBuckets 3 none] (so_rm k1 mc ms) (va_Pc (.ref o :: As) (so_Pre s0 D vcl σ)) Qc mc ms free) (hA : As.length = 0) (hk : k1 < k) (hc1 : cells + mc ≤ mcR) (hs1 : slots + ms ≤ msR) (hsize : ls.size = nL) (hst : st0 = As.reverse ++ .ref o :: rest) (hW : (rest.map fun v => v.category).sum ≤ 8) (hdg : decode cc pc = .ok (.invokevirtual 103, 3)) : va_Run p l e (so_rm k mcR msR) s m args below meth c H locs cells slots mc ms (F0 m pc ls st0) rest (Qc (Value.ref o :: As).toArray) free := ru_V S hB K E P hS hM he rfl wd_986 wd_988 (tbl_sel (q := (y_Mo_doubleBuckets, 18)) (List.mem_of_getElem? (i := 32) rfl)) wd_989 wd_13 ⟨by decide +kernel, by decide +kernel, by rw [hA]; decide +kernel⟩ (by decide) hk hc1 hs1 hsize hst hW hdg
theorem cv_Mo_106_Mo (S : CallFix p m c cc nL s args tbl "HoldMapsModel") (hB : so_B tbl s0 D vcl tys) (K : va_K D vcl tys s) (E : so_Kn s0 s) (P : so_P D vcl s0.heap.size σ H) (hS : va_S (so_A s0.heap.size) s.heap H locs) (he : σ o = some (tg, .inr (10, fs))) (hM : Met l y_Mo_putIdentity [.code y_Mo_putIdentity b_Mo_putIdentity 4 none] (so_rm k1 mc ms) (va_Pc (.ref o :: As) (so_Pre s0 D vcl σ)) Qc mc ms free) (hA : As.length = 2) (hk : k1 < k) (hc1 : cells + mc ≤ mcR) (hs1 : slots + ms ≤ msR) (hsize : ls.size = nL) (hst : st0 = As.reverse ++ .ref o :: rest) (hW : (rest.map fun v => v.category).sum ≤ 8) (hdg : decode cc pc = .ok (.invokevirtual 106, 3)) : va_Run p l e (so_rm k mcR msR) s m args below meth c H locs cells slots mc ms (F0 m pc ls st0) rest (Qc (Value.ref o :: As).toArray) free := ru_V S hB K E P hS hM he rfl wd_990 wd_992 (tbl_sel (q := (y_Mo_putIdentity, 18)) (List.mem_of_getElem? (i := 33) rfl)) wd_993 wd_13 ⟨by decide +kernel, by decide +kernel, by rw [hA]; decide +kernel⟩ (by decide) hk hc1 hs1 hsize hst hW hdg
theorem cv_Mo_75_Mo (S : CallFix p m c cc nL s args tbl "HoldMapsModel") (hB : so_B tbl s0 D vcl tys) (K : va_K D vcl tys s) (E : so_Kn s0 s) (P : so_P D vcl s0.heap.size σ H) (hS : va_S (so_A s0.heap.size) s.heap H locs) (he : σ o = some (tg, .inr (10, fs))) (hM : Met l y_Mo_set [.code y_Mo_set b_Mo_set 4 none] (so_rm k1 mc ms) (va_Pc (.ref o :: As) (so_Pre s0 D vcl σ)) Qc mc ms free) (hA : As.length = 3) (hk : k1 < k) (hc1 : cells + mc ≤ mcR) (hs1 : slots + ms ≤ msR) (hsize : ls.size = nL) (hst : st0 = As.reverse ++ .ref o :: rest) (hW : (rest.map fun v => v.category).sum ≤ 8) (hdg : decode cc pc = .ok (.invokevirtual 75, 3)) : va_Run p l e (so_rm k mcR msR) s m args below meth c H locs cells slots mc ms (F0 m pc ls st0) rest (Qc (Value.ref o :: As).toArray) free := ru_V S hB K E P hS hM he rfl wd_982 wd_984 (tbl_sel (q := (y_Mo_set, 18)) (List.mem_of_getElem? (i := 31) rfl)) wd_985 wd_13 ⟨by decide +kernel, by decide +kernel, by rw [hA]; decide +kernel⟩ (by decide) hk hc1 hs1 hsize hst hW hdg
theorem cv_Mo_82_Mo (S : CallFix p m c cc nL s args tbl "HoldMapsModel") (hB : so_B tbl s0 D vcl tys) (K : va_K D vcl tys s) (E : so_Kn s0 s) (P : so_P D vcl s0.heap.size σ H) (hS : va_S (so_A s0.heap.size) s.heap H locs) (he : σ o = some (tg, .inr (10, fs))) (hM : Met l y_Mo_openn [.code y_Mo_openn b_Mo_openn 6 none] (so_rm k1 mc ms) (va_Pc (.ref o :: As) (so_Pre s0 D vcl σ)) Qc mc ms free) (hA : As.length = 4) (hk : k1 < k) (hc1 : cells + mc ≤ mcR) (hs1 : slots + ms ≤ msR) (hsize : ls.size = nL) (hst : st0 = As.reverse ++ .ref o :: rest) (hW : (rest.map fun v => v.category).sum ≤ 8) (hdg : decode cc pc = .ok (.invokevirtual 82, 3)) : va_Run p l e (so_rm k mcR msR) s m args below meth c H locs cells slots mc ms (F0 m pc ls st0) rest (Qc (Value.ref o :: As).toArray) free := ru_V S hB K E P hS hM he rfl wd_978 wd_980 (tbl_sel (q := (y_Mo_openn, 18)) (List.mem_of_getElem? (i := 30) rfl)) wd_981 wd_13 ⟨by decide +kernel, by decide +kernel, by rw [hA]; decide +kernel⟩ (by decide) hk hc1 hs1 hsize hst hW hdg
theorem gf_Mo_35_Mo (S : CallFix p m c cc nL s args tbl "HoldMapsModel") (K : va_K D vcl tys s) (P : so_P D vcl N0 σ H) (he : σ a = some (tg, .inr (10, fs))) (hv : fs[10]? = some v) (hdg : decode cc pc = .ok (.getfield 35, 3)) (kk : W p l e R s m args below meth c H locs cells slots Q (F0 m (pc + 3) ls (v :: rest))) : W p l e R s m args below meth c H locs cells slots Q (F0 m pc ls (.ref a :: rest)) := so_get S K P (T := F_Mo) (N := 18) i_Mo he rfl 10 (by decide) (S.2.2.2.2 _ wd_868) (fun _ h => h) hv hdg kk
theorem cv_Mo_96_Mo (S : CallFix p m c cc nL s args tbl "HoldMapsModel") (hB : so_B tbl s0 D vcl tys) (K : va_K D vcl tys s) (E : so_Kn s0 s) (P : so_P D vcl s0.heap.size σ H) (hS : va_S (so_A s0.heap.size) s.heap H locs) (he : σ o = some (tg, .inr (10, fs))) (hM : Met l y_Mo_close [.code y_Mo_close b_Mo_close 4 none] (so_rm k1 mc ms) (va_Pc (.ref o :: As) (so_Pre s0 D vcl σ)) Qc mc ms free) (hA : As.length = 2) (hk : k1 < k) (hc1 : cells + mc ≤ mcR) (hs1 : slots + ms ≤ msR) (hsize : ls.size = nL) (hst : st0 = As.reverse ++ .ref o :: rest) (hW : (rest.map fun v => v.category).sum ≤ 8) (hdg : decode cc pc = .ok (.invokevirtual 96, 3)) : va_Run p l e (so_rm k mcR msR) s m args below meth c H locs cells slots mc ms (F0 m pc ls st0) rest (Qc (Value.ref o :: As).toArray) free := ru_V S hB K E P hS hM he rfl wd_997 wd_999 (tbl_sel (q := (y_Mo_close, 18)) (List.mem_of_getElem? (i := 34) rfl)) wd_1000 wd_13 ⟨by decide +kernel, by decide +kernel, by rw [hA]; decide +kernel⟩ (by decide) hk hc1 hs1 hsize hst hW hdg
theorem gf_Mo_51_Mo (S : CallFix p m c cc nL s args tbl "HoldMapsModel") (K : va_K D vcl tys s) (P : so_P D vcl N0 σ H) (he : σ a = some (tg, .inr (10, fs))) (hv : fs[16]? = some v) (hdg : decode cc pc = .ok (.getfield 51, 3)) (kk : W p l e R s m args below meth c H locs cells slots Q (F0 m (pc + 3) ls (v :: rest))) : W p l e R s m args below meth c H locs cells slots Q (F0 m pc ls (.ref a :: rest)) := so_get S K P (T := F_Mo) (N := 18) i_Mo he rfl 16 (by decide) (S.2.2.2.2 _ wd_874) (fun _ h => h) hv hdg kk
theorem cv_Mo_79_Mo (S : CallFix p m c cc nL s args tbl "HoldMapsModel") (hB : so_B tbl s0 D vcl tys) (K : va_K D vcl tys s) (E : so_Kn s0 s) (P : so_P D vcl s0.heap.size σ H) (hS : va_S (so_A s0.heap.size) s.heap H locs) (he : σ o = some (tg, .inr (10, fs))) (hM : Met l y_Mo_bucketOf [.code y_Mo_bucketOf b_Mo_bucketOf 2 (some .int)] (so_rm k1 mc ms) (va_Pc (.ref o :: As) (so_Pre s0 D vcl σ)) Qc mc ms free) (hA : As.length = 1) (hk : k1 < k) (hc1 : cells + mc ≤ mcR) (hs1 : slots + ms ≤ msR) (hsize : ls.size = nL) (hst : st0 = As.reverse ++ .ref o :: rest) (hW : (rest.map fun v => v.category).sum ≤ 8) (hdg : decode cc pc = .ok (.invokevirtual 79, 3)) : va_Run p l e (so_rm k mcR msR) s m args below meth c H locs cells slots mc ms (F0 m pc ls st0) rest (Qc (Value.ref o :: As).toArray) free := ru_V S hB K E P hS hM he rfl wd_974 wd_976 (tbl_sel (q := (y_Mo_bucketOf, 18)) (List.mem_of_getElem? (i := 29) rfl)) wd_977 wd_13 ⟨by decide +kernel, by decide +kernel, by rw [hA]; decide +kernel⟩ (by decide) hk hc1 hs1 hsize hst hW hdg
theorem gf_Mo_45_Mo (S : CallFix p m c cc nL s args tbl "HoldMapsModel") (K : va_K D vcl tys s) (P : so_P D vcl N0 σ H) (he : σ a = some (tg, .inr (10, fs))) (hv : fs[13]? = some v) (hdg : decode cc pc = .ok (.getfield 45, 3)) (kk : W p l e R s m args below meth c H locs cells slots Q (F0 m (pc + 3) ls (v :: rest))) : W p l e R s m args below meth c H locs cells slots Q (F0 m pc ls (.ref a :: rest)) := so_get S K P (T := F_Mo) (N := 18) i_Mo he rfl 13 (by decide) (S.2.2.2.2 _ wd_871) (fun _ h => h) hv hdg kk
theorem cs_Mo_90 (S : CallFix p m c cc nL s args tbl "HoldMapsModel") (hB : so_B tbl s0 D vcl tys) (E : so_Kn s0 s) (P : so_P D vcl s0.heap.size σ H) (hS : va_S (so_A s0.heap.size) s.heap H locs) (hM : Met l y_Mo_slotOf [.code y_Mo_slotOf b_Mo_slotOf 1 (some .int)] (so_rm k1 mc ms) (va_Pc As (so_Pre s0 D vcl σ)) Qc mc ms free) (hA : As.length = 1) (hk : k1 < k) (hc1 : cells + mc ≤ mcR) (hs1 : slots + ms ≤ msR) (hsize : ls.size = nL) (hst : st0 = As.reverse ++ rest) (hW : (rest.map fun v => v.category).sum ≤ 8) (hdg : decode cc pc = .ok (.invokestatic 90, 3)) : va_Run p l e (so_rm k mcR msR) s m args below meth c H locs cells slots mc ms (F0 m pc ls st0) rest (Qc As.toArray) free := ru_S S hB E P hS hM wd_994 wd_995 wd_996 wd_13 ⟨by decide +kernel, by decide +kernel, by rw [hA]; decide +kernel⟩ (by decide) hk hc1 hs1 hsize hst hW hdg
theorem cv_Mo_129_Mo (S : CallFix p m c cc nL s args tbl "HoldMapsModel") (hB : so_B tbl s0 D vcl tys) (K : va_K D vcl tys s) (E : so_Kn s0 s) (P : so_P D vcl s0.heap.size σ H) (hS : va_S (so_A s0.heap.size) s.heap H locs) (he : σ o = some (tg, .inr (10, fs))) (hM : Met l y_Mo_goes [.code y_Mo_goes b_Mo_goes 3 none] (so_rm k1 mc ms) (va_Pc (.ref o :: As) (so_Pre s0 D vcl σ)) Qc mc ms free) (hA : As.length = 2) (hk : k1 < k) (hc1 : cells + mc ≤ mcR) (hs1 : slots + ms ≤ msR) (hsize : ls.size = nL) (hst : st0 = As.reverse ++ .ref o :: rest) (hW : (rest.map fun v => v.category).sum ≤ 8) (hdg : decode cc pc = .ok (.invokevirtual 129, 3)) : va_Run p l e (so_rm k mcR msR) s m args below meth c H locs cells slots mc ms (F0 m pc ls st0) rest (Qc (Value.ref o :: As).toArray) free := ru_V S hB K E P hS hM he rfl wd_1013 wd_1015 (tbl_sel (q := (y_Mo_goes, 18)) (List.mem_of_getElem? (i := 36) rfl)) wd_1016 wd_13 ⟨by decide +kernel, by decide +kernel, by rw [hA]; decide +kernel⟩ (by decide) hk hc1 hs1 hsize hst hW hdg
theorem cv_Mo_109_Mo (S : CallFix p m c cc nL s args tbl "HoldMapsModel") (hB : so_B tbl s0 D vcl tys) (K : va_K D vcl tys s) (E : so_Kn s0 s) (P : so_P D vcl s0.heap.size σ H) (hS : va_S (so_A s0.heap.size) s.heap H locs) (he : σ o = some (tg, .inr (10, fs))) (hM : Met l y_Mo_takeIdentity [.code y_Mo_takeIdentity b_Mo_takeIdentity 7 none] (so_rm k1 mc ms) (va_Pc (.ref o :: As) (so_Pre s0 D vcl σ)) Qc mc ms free) (hA : As.length = 1) (hk : k1 < k) (hc1 : cells + mc ≤ mcR) (hs1 : slots + ms ≤ msR) (hsize : ls.size = nL) (hst : st0 = As.reverse ++ .ref o :: rest) (hW : (rest.map fun v => v.category).sum ≤ 8) (hdg : decode cc pc = .ok (.invokevirtual 109, 3)) : va_Run p l e (so_rm k mcR msR) s m args below meth c H locs cells slots mc ms (F0 m pc ls st0) rest (Qc (Value.ref o :: As).toArray) free := ru_V S hB K E P hS hM he rfl wd_1017 wd_1019 (tbl_sel (q := (y_Mo_takeIdentity, 18)) (List.mem_of_getElem? (i := 37) rfl)) wd_1020 wd_13 ⟨by decide +kernel, by decide +kernel, by rw [hA]; decide +kernel⟩ (by decide) hk hc1 hs1 hsize hst hW hdg
theorem cv_Mo_132_Mo (S : CallFix p m c cc nL s args tbl "HoldMapsModel") (hB : so_B tbl s0 D vcl tys) (K : va_K D vcl tys s) (E : so_Kn s0 s) (P : so_P D vcl s0.heap.size σ H) (hS : va_S (so_A s0.heap.size) s.heap H locs) (he : σ o = some (tg, .inr (10, fs))) (hM : Met l y_Mo_placeOf [.code y_Mo_placeOf b_Mo_placeOf 5 (some .int)] (so_rm k1 mc ms) (va_Pc (.ref o :: As) (so_Pre s0 D vcl σ)) Qc mc ms free) (hA : As.length = 2) (hk : k1 < k) (hc1 : cells + mc ≤ mcR) (hs1 : slots + ms ≤ msR) (hsize : ls.size = nL) (hst : st0 = As.reverse ++ .ref o :: rest) (hW : (rest.map fun v => v.category).sum ≤ 8) (hdg : decode cc pc = .ok (.invokevirtual 132, 3)) : va_Run p l e (so_rm k mcR msR) s m args below meth c H locs cells slots mc ms (F0 m pc ls st0) rest (Qc (Value.ref o :: As).toArray) free := ru_V S hB K E P hS hM he rfl wd_1029 wd_1031 (tbl_sel (q := (y_Mo_placeOf, 18)) (List.mem_of_getElem? (i := 38) rfl)) wd_1032 wd_13 ⟨by decide +kernel, by decide +kernel, by rw [hA]; decide +kernel⟩ (by decide) hk hc1 hs1 hsize hst hW hdg
theorem gf_Mo_48_Mo (S : CallFix p m c cc nL s args tbl "HoldMapsModel") (K : va_K D vcl tys s) (P : so_P D vcl N0 σ H) (he : σ a = some (tg, .inr (10, fs))) (hv : fs[15]? = some v) (hdg : decode cc pc = .ok (.getfield 48, 3)) (kk : W p l e R s m args below meth c H locs cells slots Q (F0 m (pc + 3) ls (v :: rest))) : W p l e R s m args below meth c H locs cells slots Q (F0 m pc ls (.ref a :: rest)) := so_get S K P (T := F_Mo) (N := 18) i_Mo he rfl 15 (by decide) (S.2.2.2.2 _ wd_873) (fun _ h => h) hv hdg kk
theorem gf_Mo_54_Mo (S : CallFix p m c cc nL s args tbl "HoldMapsModel") (K : va_K D vcl tys s) (P : so_P D vcl N0 σ H) (he : σ a = some (tg, .inr (10, fs))) (hv : fs[17]? = some v) (hdg : decode cc pc = .ok (.getfield 54, 3)) (kk : W p l e R s m args below meth c H locs cells slots Q (F0 m (pc + 3) ls (v :: rest))) : W p l e R s m args below meth c H locs cells slots Q (F0 m pc ls (.ref a :: rest)) := so_get S K P (T := F_Mo) (N := 18) i_Mo he rfl 17 (by decide) (S.2.2.2.2 _ wd_875) (fun _ h => h) hv hdg kk
theorem gf_Mo_26_Mo (S : CallFix p m c cc nL s args tbl "HoldMapsModel") (K : va_K D vcl tys s) (P : so_P D vcl N0 σ H) (he : σ a = some (tg, .inr (10, fs))) (hv : fs[6]? = some v) (hdg : decode cc pc = .ok (.getfield 26, 3)) (kk : W p l e R s m args below meth c H locs cells slots Q (F0 m (pc + 3) ls (v :: rest))) : W p l e R s m args below meth c H locs cells slots Q (F0 m pc ls (.ref a :: rest)) := so_get S K P (T := F_Mo) (N := 18) i_Mo he rfl 6 (by decide) (S.2.2.2.2 _ wd_864) (fun _ h => h) hv hdg kk
theorem cv_Mo_141_Mo (S : CallFix p m c cc nL s args tbl "HoldMapsModel") (hB : so_B tbl s0 D vcl tys) (K : va_K D vcl tys s) (E : so_Kn s0 s) (P : so_P D vcl s0.heap.size σ H) (hS : va_S (so_A s0.heap.size) s.heap H locs) (he : σ o = some (tg, .inr (10, fs))) (hM : Met l y_Mo_holdMaps [.code y_Mo_holdMaps b_Mo_holdMaps 3 none] (so_rm k1 mc ms) (va_Pc (.ref o :: As) (so_Pre s0 D vcl σ)) Qc mc ms free) (hA : As.length = 0) (hk : k1 < k) (hc1 : cells + mc ≤ mcR) (hs1 : slots + ms ≤ msR) (hsize : ls.size = nL) (hst : st0 = As.reverse ++ .ref o :: rest) (hW : (rest.map fun v => v.category).sum ≤ 8) (hdg : decode cc pc = .ok (.invokevirtual 141, 3)) : va_Run p l e (so_rm k mcR msR) s m args below meth c H locs cells slots mc ms (F0 m pc ls st0) rest (Qc (Value.ref o :: As).toArray) free := ru_V S hB K E P hS hM he rfl wd_1045 wd_1047 (tbl_sel (q := (y_Mo_holdMaps, 18)) (List.mem_of_getElem? (i := 39) rfl)) wd_1048 wd_13 ⟨by decide +kernel, by decide +kernel, by rw [hA]; decide +kernel⟩ (by decide) hk hc1 hs1 hsize hst hW hdg
theorem cv_Mo_138_Mo (S : CallFix p m c cc nL s args tbl "HoldMapsModel") (hB : so_B tbl s0 D vcl tys) (K : va_K D vcl tys s) (E : so_Kn s0 s) (P : so_P D vcl s0.heap.size σ H) (hS : va_S (so_A s0.heap.size) s.heap H locs) (he : σ o = some (tg, .inr (10, fs))) (hM : Met l y_Mo_spread [.code y_Mo_spread b_Mo_spread 3 none] (so_rm k1 mc ms) (va_Pc (.ref o :: As) (so_Pre s0 D vcl σ)) Qc mc ms free) (hA : As.length = 0) (hk : k1 < k) (hc1 : cells + mc ≤ mcR) (hs1 : slots + ms ≤ msR) (hsize : ls.size = nL) (hst : st0 = As.reverse ++ .ref o :: rest) (hW : (rest.map fun v => v.category).sum ≤ 8) (hdg : decode cc pc = .ok (.invokevirtual 138, 3)) : va_Run p l e (so_rm k mcR msR) s m args below meth c H locs cells slots mc ms (F0 m pc ls st0) rest (Qc (Value.ref o :: As).toArray) free := ru_V S hB K E P hS hM he rfl wd_1053 wd_1055 (tbl_sel (q := (y_Mo_spread, 18)) (List.mem_of_getElem? (i := 41) rfl)) wd_1056 wd_13 ⟨by decide +kernel, by decide +kernel, by rw [hA]; decide +kernel⟩ (by decide) hk hc1 hs1 hsize hst hW hdg
theorem cv_Mo_144_Mo (S : CallFix p m c cc nL s args tbl "HoldMapsModel") (hB : so_B tbl s0 D vcl tys) (K : va_K D vcl tys s) (E : so_Kn s0 s) (P : so_P D vcl s0.heap.size σ H) (hS : va_S (so_A s0.heap.size) s.heap H locs) (he : σ o = some (tg, .inr (10, fs))) (hM : Met l y_Mo_soften [.code y_Mo_soften b_Mo_soften 6 none] (so_rm k1 mc ms) (va_Pc (.ref o :: As) (so_Pre s0 D vcl σ)) Qc mc ms free) (hA : As.length = 1) (hk : k1 < k) (hc1 : cells + mc ≤ mcR) (hs1 : slots + ms ≤ msR) (hsize : ls.size = nL) (hst : st0 = As.reverse ++ .ref o :: rest) (hW : (rest.map fun v => v.category).sum ≤ 8) (hdg : decode cc pc = .ok (.invokevirtual 144, 3)) : va_Run p l e (so_rm k mcR msR) s m args below meth c H locs cells slots mc ms (F0 m pc ls st0) rest (Qc (Value.ref o :: As).toArray) free := ru_V S hB K E P hS hM he rfl wd_1057 wd_1059 (tbl_sel (q := (y_Mo_soften, 18)) (List.mem_of_getElem? (i := 42) rfl)) wd_1060 wd_13 ⟨by decide +kernel, by decide +kernel, by rw [hA]; decide +kernel⟩ (by decide) hk hc1 hs1 hsize hst hW hdg
theorem gf_Mo_147_Mo (S : CallFix p m c cc nL s args tbl "HoldMapsModel") (K : va_K D vcl tys s) (P : so_P D vcl N0 σ H) (he : σ a = some (tg, .inr (10, fs))) (hv : fs[7]? = some v) (hdg : decode cc pc = .ok (.getfield 147, 3)) (kk : W p l e R s m args below meth c H locs cells slots Q (F0 m (pc + 3) ls (v :: rest))) : W p l e R s m args below meth c H locs cells slots Q (F0 m pc ls (.ref a :: rest)) := so_get S K P (T := F_Mo) (N := 18) i_Mo he rfl 7 (by decide) (S.2.2.2.2 _ wd_865) (fun _ h => h) hv hdg kk
theorem pf_Mo_147_Mo (S : CallFix p m c cc nL s args tbl "HoldMapsModel") (K : va_K D vcl tys s) (P : so_P D vcl N0 σ H) (hS : va_S (so_A N0) H0 H locs) (he : σ a = some (tg, .inr (10, fs))) (hl : 7 < fs.length) (hn : narrow (.int) v = v) (hf : fits (.int) v = true) (hdg : decode cc pc = .ok (.putfield 147, 3)) (kk : ∀ (H1 : Heap) (locs1 : List Loc), so_P D vcl N0 (so_up σ a (tg, .inr (10, fs.set 7 v))) H1 → va_S (so_A N0) H0 H1 locs1 → W p l e R s m args below meth c H1 locs1 cells slots Q (F0 m (pc + 3) ls rest)) : W p l e R s m args below meth c H locs cells slots Q (F0 m pc ls (v :: .ref a :: rest)) := so_put S K P hS (T := F_Mo) (N := 18) i_Mo t_Mo t_Mo_ok n_Mo he rfl 7 (by decide) (S.2.2.2.2 _ wd_865) (fun _ h => h) rfl (by decide +kernel) hn hf hl hdg kk
theorem cv_Mo_135_Mo (S : CallFix p m c cc nL s args tbl "HoldMapsModel") (hB : so_B tbl s0 D vcl tys) (K : va_K D vcl tys s) (E : so_Kn s0 s) (P : so_P D vcl s0.heap.size σ H) (hS : va_S (so_A s0.heap.size) s.heap H locs) (he : σ o = some (tg, .inr (10, fs))) (hM : Met l y_Mo_hold [.code y_Mo_hold b_Mo_hold 2 none] (so_rm k1 mc ms) (va_Pc (.ref o :: As) (so_Pre s0 D vcl σ)) Qc mc ms free) (hA : As.length = 1) (hk : k1 < k) (hc1 : cells + mc ≤ mcR) (hs1 : slots + ms ≤ msR) (hsize : ls.size = nL) (hst : st0 = As.reverse ++ .ref o :: rest) (hW : (rest.map fun v => v.category).sum ≤ 8) (hdg : decode cc pc = .ok (.invokevirtual 135, 3)) : va_Run p l e (so_rm k mcR msR) s m args below meth c H locs cells slots mc ms (F0 m pc ls st0) rest (Qc (Value.ref o :: As).toArray) free := ru_V S hB K E P hS hM he rfl wd_1049 wd_1051 (tbl_sel (q := (y_Mo_hold, 18)) (List.mem_of_getElem? (i := 40) rfl)) wd_1052 wd_13 ⟨by decide +kernel, by decide +kernel, by rw [hA]; decide +kernel⟩ (by decide) hk hc1 hs1 hsize hst hW hdg
end SI
end
section
/-! The cells by name: objects, arrays; the array classes; truth values as ints. -/
abbrev tyl (ca : Nat → ClassId) : List (ClassId × FieldType) := [(ca 0, .int), (ca 1, .boolean), (ca 2, .long), (ca 3, .object "HoldMaps$Thing"), (ca 4, .object "HoldMaps$Table"), (ca 5, .object "HoldMaps$Entry"), (ca 6, .object "java/lang/Object")]
abbrev oHM (h w s t : Nat) : va_E := .inr (0, [.ref h, .ref w, .ref s, .ref t])
abbrev oHe (t h : Nat) (n c : Int32) : va_E := .inr (1, [.ref t, .ref h, .int n, .int c])
abbrev oTh (v : Int32) (r : Nat) (root held : Int32) : va_E := .inr (2, [.int v, .ref r, .int root, .int held])
abbrev oEn (k m v u : Int32) : va_E := .inr (3, [.int k, .int m, .int v, .int u])
abbrev oWe (hw br wk : Int32) (row mov : Nat) (bk : Int32) : va_E := .inr (4, [.int hw, .int br, .int wk, .ref row, .ref mov, .int bk])
abbrev oSo (hw br wk : Int32) (row : Nat) (time : Int32) : va_E := .inr (5, [.int hw, .int br, .int wk, .ref row, .int time])
abbrev oId (hw br wk : Int32) (sl : Nat) (en : Int32) : va_E := .inr (6, [.int hw, .int br, .int wk, .ref sl, .int en])
abbrev oPl (hw br wk : Int32) (row : Nat) : va_E := .inr (7, [.int hw, .int br, .int wk, .ref row])
abbrev oLa (hw br wk : Int32) (row : Nat) : va_E := .inr (8, [.int hw, .int br, .int wk, .ref row])
abbrev oAL (md : Int32) (ed : Nat) (sz : Int32) : va_E := .inr (9, [.int md, .ref ed, .int sz])
abbrev aI (ca : Nat → ClassId) (n : Nat) (f : Nat → Int32) : va_E := .inl (ca 0, n, .inl f)
abbrev aZ (ca : Nat → ClassId) (n : Nat) (f : Nat → Int32) : va_E := .inl (ca 1, n, .inl f)
abbrev aJ (ca : Nat → ClassId) (n : Nat) (f : Nat → Int64) : va_E := .inl (ca 2, n, .inr (.inl f))
abbrev aR (ca : Nat → ClassId) (j n : Nat) (f : Nat → Option Nat) : va_E := .inl (ca j, n, .inr (.inr (.inr (.inr f))))
def bI (b : Bool) : Int32 := if b then 1 else 0
theorem bI_t : bI true = 1 := rfl
theorem bI_f : bI false = 0 := rfl
theorem bI_nar (b : Bool) : narrow .boolean (.int (bI b)) = .int (bI b) := by cases b <;> rfl
theorem bI_fit (b : Bool) : fits .boolean (.int (bI b)) = true := by cases b <;> rfl
theorem bI_0 (b : Bool) : bI b = 0 ↔ b = false := by cases b <;> decide
/-- an index that two compares have passed -/
theorem ix_in {x : Int32} {n : Nat} {M : Int32} (hn : n < 2 ^ 31) (hM : M = nI n) (h0 : ¬ x < 0) (h1 : ¬ M ≤ x) : ∃ j : Nat, j < n ∧ x = nI j := by
  rcases pk_ix x hn with h | h | h
  · exact absurd h h0
  · exact absurd (hM ▸ h) h1
  · exact h
section CE
variable {p : Program} {l : Launch} {e : Env} {R : Room} {s : State} {m : MethodId} {args : Array Value} {below : List Frame} {meth : Method} {c : Code} {H H0 : Heap} {locs : List Loc} {cells slots : Nat} {Q : State → Prop}
variable {cc : ByteArray} {pc nL a N0 tg : Nat} {ls : Array Slot} {rest : List Value} {D : va_G} {cl : List vw_C} {tys : List (ClassId × FieldType)} {σ : so_S} {Ts : List Cond} {own : String}
theorem lv_ifnullQ (hexec : p.tables.exec = Jvm.exec) (hb : c.code = cc) {r : Option Nat} {off : Int} {tgt : Nat} (hdg : decode cc pc = .ok (.ifnull off, 3)) (ht : (pc : Int) + off = (tgt : Int)) (kt : r = none → W p l e R s m args below meth c H locs cells slots Q (F0 m tgt ls rest)) (kf : ∀ q : Nat, r = some q → W p l e R s m args below meth c H locs cells slots Q (F0 m (pc + 3) ls rest)) : W p l e R s m args below meth c H locs cells slots Q (F0 m pc ls (va_rf r :: rest)) := by
  cases r with
  | none => exact lv_ifnullN hexec hb hdg ht (kt rfl)
  | some q => exact lv_ifnull hexec hb hdg (kf q rfl)
theorem lv_ifnonnullQ (hexec : p.tables.exec = Jvm.exec) (hb : c.code = cc) {r : Option Nat} {off : Int} {tgt : Nat} (hdg : decode cc pc = .ok (.ifnonnull off, 3)) (ht : (pc : Int) + off = (tgt : Int)) (kt : ∀ q : Nat, r = some q → W p l e R s m args below meth c H locs cells slots Q (F0 m tgt ls rest)) (kf : r = none → W p l e R s m args below meth c H locs cells slots Q (F0 m (pc + 3) ls rest)) : W p l e R s m args below meth c H locs cells slots Q (F0 m pc ls (va_rf r :: rest)) := by
  cases r with
  | none => exact lv_ifnonnullN hexec hb hdg (kf rfl)
  | some q => exact lv_ifnonnull hexec hb hdg ht (kt q rfl)
theorem lv_aload_nQ (hexec : p.tables.exec = Jvm.exec) (hb : c.code = cc) {k : Fin 4} {i : Nat} {r : Option Nat} (hdg : decode cc pc = .ok (.aload_n k, 1)) (hi : (k : Nat) = i) (hl : ls[i]? = some (.val (va_rf r)))
    (kk : W p l e R s m args below meth c H locs cells slots Q (F0 m (pc + 1) ls (va_rf r :: rest))) : W p l e R s m args below meth c H locs cells slots Q (F0 m pc ls rest) := by
  cases r with
  | none => exact lv_aload_nN hexec hb hdg hi hl kk
  | some q => exact lv_aload_n hexec hb hdg hi hl kk
theorem lv_aloadQ (hexec : p.tables.exec = Jvm.exec) (hb : c.code = cc) {i : Nat} {r : Option Nat} (hdg : decode cc pc = .ok (.aload i, 2)) (hl : ls[i]? = some (.val (va_rf r)))
    (kk : W p l e R s m args below meth c H locs cells slots Q (F0 m (pc + 2) ls (va_rf r :: rest))) : W p l e R s m args below meth c H locs cells slots Q (F0 m pc ls rest) := by
  cases r with
  | none => exact lv_aloadN hexec hb hdg hl kk
  | some q => exact lv_aload hexec hb hdg hl kk
theorem lv_astore_nQ (hexec : p.tables.exec = Jvm.exec) (hb : c.code = cc) {k : Fin 4} {i nL : Nat} {r : Option Nat} {lv lv' : List (Nat × Value)} (hdg : decode cc pc = .ok (.astore_n k, 1)) (hi : (k : Nat) = i) (h : lv_has ls nL lv) (hn : i < nL) (hl : (i, va_rf r) :: lv.filter (fun q => !(q.1 == i) && !(q.1 + 1 == i && q.2.category == 2)) = lv')
    (kk : ∀ ls' : Array Slot, lv_has ls' nL lv' → W p l e R s m args below meth c H locs cells slots Q (F0 m (pc + 1) ls' rest)) : W p l e R s m args below meth c H locs cells slots Q (F0 m pc ls (va_rf r :: rest)) := by
  cases r with
  | none => exact lv_astore_nN hexec hb hdg hi h hn hl kk
  | some q => exact lv_astore_n hexec hb hdg hi h hn hl kk
theorem lv_astoreQ (hexec : p.tables.exec = Jvm.exec) (hb : c.code = cc) {i nL : Nat} {r : Option Nat} {lv lv' : List (Nat × Value)} (hdg : decode cc pc = .ok (.astore i, 2)) (h : lv_has ls nL lv) (hn : i < nL) (hl : (i, va_rf r) :: lv.filter (fun q => !(q.1 == i) && !(q.1 + 1 == i && q.2.category == 2)) = lv')
    (kk : ∀ ls' : Array Slot, lv_has ls' nL lv' → W p l e R s m args below meth c H locs cells slots Q (F0 m (pc + 2) ls' rest)) : W p l e R s m args below meth c H locs cells slots Q (F0 m pc ls (va_rf r :: rest)) := by
  cases r with
  | none => exact lv_astoreN hexec hb hdg h hn hl kk
  | some q => exact lv_astore hexec hb hdg h hn hl kk
/-- array rows at an index that is a number below the length -/
theorem so_ialdN (S : CallFix p m c cc nL s args Ts own) (hK : va_K D cl tys s) (hP : so_P D cl N0 σ H) {cA : ClassId} {n : Nat} {f : Nat → Int32} (ha : σ a = some (tg, .inl (cA, n, .inl f))) (t0 : Nat) (ht : tys[t0]? = some (cA, .int)) {j : Nat} (hj : j < n) (hn : n < 2 ^ 31) (hdg : decode cc pc = .ok (.iaload, 1))
    (kk : W p l e R s m args below meth c H locs cells slots Q (F0 m (pc + 1) ls (.int (f j) :: rest))) : W p l e R s m args below meth c H locs cells slots Q (F0 m pc ls (.int (nI j) :: .ref a :: rest)) := by
  refine so_iald S hK hP ha t0 ht (vp_in_nI hj hn) hdg ?_
  rw [nI_clamp (by omega)]
  exact kk
theorem so_zaldN (S : CallFix p m c cc nL s args Ts own) (hK : va_K D cl tys s) (hP : so_P D cl N0 σ H) {cA : ClassId} {n : Nat} {f : Nat → Int32} (ha : σ a = some (tg, .inl (cA, n, .inl f))) (t0 : Nat) (ht : tys[t0]? = some (cA, .boolean)) {j : Nat} (hj : j < n) (hn : n < 2 ^ 31) (hdg : decode cc pc = .ok (.baload, 1))
    (kk : W p l e R s m args below meth c H locs cells slots Q (F0 m (pc + 1) ls (.int (f j) :: rest))) : W p l e R s m args below meth c H locs cells slots Q (F0 m pc ls (.int (nI j) :: .ref a :: rest)) := by
  refine so_zald S hK hP ha t0 ht (vp_in_nI hj hn) hdg ?_
  rw [nI_clamp (by omega)]
  exact kk
theorem so_aaldN (S : CallFix p m c cc nL s args Ts own) (hK : va_K D cl tys s) (hP : so_P D cl N0 σ H) {cA : ClassId} {C : String} {n : Nat} {f : Nat → Option Nat} (ha : σ a = some (tg, .inl (cA, n, .inr (.inr (.inr (.inr f)))))) (t0 : Nat) (ht : tys[t0]? = some (cA, .object C)) {j : Nat} (hj : j < n) (hn : n < 2 ^ 31) (hdg : decode cc pc = .ok (.aaload, 1))
    (kk : W p l e R s m args below meth c H locs cells slots Q (F0 m (pc + 1) ls (va_rf (f j) :: rest))) : W p l e R s m args below meth c H locs cells slots Q (F0 m pc ls (.int (nI j) :: .ref a :: rest)) := by
  refine so_aald S hK hP ha t0 ht (vp_in_nI hj hn) hdg ?_
  rw [nI_clamp (by omega)]
  exact kk
theorem so_iastN (S : CallFix p m c cc nL s args Ts own) (hK : va_K D cl tys s) (hP : so_P D cl N0 σ H) (hS : va_S (so_A N0) H0 H locs) {cA : ClassId} {n : Nat} {f : Nat → Int32} (ha : σ a = some (tg, .inl (cA, n, .inl f))) (t0 : Nat) (ht : tys[t0]? = some (cA, .int)) {j : Nat} {x : Int32} (hj : j < n) (hn : n < 2 ^ 31) (hdg : decode cc pc = .ok (.iastore, 1))
    (kk : ∀ (H1 : Heap) (locs1 : List Loc), so_P D cl N0 (so_up σ a (tg, .inl (cA, n, .inl (upd f j x)))) H1 → va_S (so_A N0) H0 H1 locs1 → W p l e R s m args below meth c H1 locs1 cells slots Q (F0 m (pc + 1) ls rest)) : W p l e R s m args below meth c H locs cells slots Q (F0 m pc ls (.int x :: .int (nI j) :: .ref a :: rest)) := by
  refine so_iast S hK hP hS ha t0 ht (vp_in_nI hj hn) hdg ?_
  rw [nI_clamp (by omega)]
  exact kk
theorem so_zastN (S : CallFix p m c cc nL s args Ts own) (hK : va_K D cl tys s) (hP : so_P D cl N0 σ H) (hS : va_S (so_A N0) H0 H locs) {cA : ClassId} {n : Nat} {f : Nat → Int32} (ha : σ a = some (tg, .inl (cA, n, .inl f))) (t0 : Nat) (ht : tys[t0]? = some (cA, .boolean)) {j : Nat} {x : Int32} (hx : vp_nar .boolean x = x) (hj : j < n) (hn : n < 2 ^ 31) (hdg : decode cc pc = .ok (.bastore, 1))
    (kk : ∀ (H1 : Heap) (locs1 : List Loc), so_P D cl N0 (so_up σ a (tg, .inl (cA, n, .inl (upd f j x)))) H1 → va_S (so_A N0) H0 H1 locs1 → W p l e R s m args below meth c H1 locs1 cells slots Q (F0 m (pc + 1) ls rest)) : W p l e R s m args below meth c H locs cells slots Q (F0 m pc ls (.int x :: .int (nI j) :: .ref a :: rest)) := by
  refine so_zast S hK hP hS ha t0 ht (vp_in_nI hj hn) hdg ?_
  rw [nI_clamp (by omega), hx]
  exact kk
theorem so_aastN (S : CallFix p m c cc nL s args Ts own) (hK : va_K D cl tys s) (hP : so_P D cl N0 σ H) (hS : va_S (so_A N0) H0 H locs) {cA : ClassId} {E : String} {n : Nat} {f : Nat → Option Nat} (ha : σ a = some (tg, .inl (cA, n, .inr (.inr (.inr (.inr f)))))) (t0 : Nat) (ht : tys[t0]? = some (cA, .object E)) {j : Nat} {r : Option Nat} (hr : ∀ v : Nat, r = some v → ∃ (tv ci : Nat) (q : vw_C) (vs : List Value), σ v = some (tv, .inr (ci, vs)) ∧ cl[ci]? = some q ∧ va_Nw (.castable q.1 E) s) (hj : j < n) (hn : n < 2 ^ 31) (hdg : decode cc pc = .ok (.aastore, 1))
    (kk : ∀ (H1 : Heap) (locs1 : List Loc), so_P D cl N0 (so_up σ a (tg, .inl (cA, n, .inr (.inr (.inr (.inr (va_up f j r))))))) H1 → va_S (so_A N0) H0 H1 locs1 → W p l e R s m args below meth c H1 locs1 cells slots Q (F0 m (pc + 1) ls rest)) : W p l e R s m args below meth c H locs cells slots Q (F0 m pc ls (va_rf r :: .int (nI j) :: .ref a :: rest)) := by
  refine so_aast S hK hP hS ha t0 ht hr (vp_in_nI hj hn) hdg ?_
  rw [nI_clamp (by omega)]
  exact kk
end CE
end
section
/-! Heap. -/
def has_O (f : Nat → Option Nat) (x : Int32) : Bool := if x < 0 then false else if 32 ≤ x then false else (f x.toNatClampNeg).isSome
theorem has_neg {f : Nat → Option Nat} {x : Int32} (h : x < 0) : has_O f x = false := if_pos h
theorem has_big {f : Nat → Option Nat} {x : Int32} (h : 32 ≤ x) : has_O f x = false := by
  unfold has_O
  rw [if_pos h]
  split <;> rfl
theorem has_nI {f : Nat → Option Nat} {j : Nat} (h : j < 32) : has_O f (nI j) = (f j).isSome := by
  unfold has_O
  rw [if_neg (nI_pos (by omega)), if_neg (show ¬ (32 : Int32) ≤ nI j from nI_ge (b := 32) h (by decide)), nI_clamp (by omega)]
theorem i_nlt {x y : Int32} (h : ¬ x < y) : y ≤ x := by rw [Int32.lt_iff_toInt_lt] at h; rw [Int32.le_iff_toInt_le]; omega
theorem i_nle {x y : Int32} (h : ¬ x ≤ y) : y < x := by rw [Int32.le_iff_toInt_le] at h; rw [Int32.lt_iff_toInt_lt]; omega
theorem i_lt_nle {x y : Int32} (h : x < y) : ¬ y ≤ x := by rw [Int32.lt_iff_toInt_lt] at h; rw [Int32.le_iff_toInt_le]; omega
theorem i_le_nlt {x y : Int32} (h : x ≤ y) : ¬ y < x := by rw [Int32.le_iff_toInt_le] at h; rw [Int32.lt_iff_toInt_lt]; omega
set_option maxHeartbeats 4000000 in
set_option maxRecDepth 100000 in
theorem c_He_has (l : Launch) {s0 : State} {D : va_G} {ca : Nat → ClassId} (hB : so_B tbl s0 D vcl (tyl ca)) {σ : so_S} {o th ho t1 t2 : Nat} {n cn : Int32} {f : Nat → Option Nat} (h1a : σ o = some (t1, oHe th ho n cn)) (h2 : σ th = some (t2, aR ca 3 32 f)) (x : Int32) : so_D l s0 D vcl y_He_has b_He_has 2 (some .boolean) 0 [.ref o, .int x] σ (fun v => v = some (.int (bI (has_O f x)))) := by
  refine so_ofR hB (by decide) (Nat.le_of_ble_eq_true rfl) ?_
  intro p e s m below meth c ls S K E hr hlk P hS hl
  have hl : lv_has ls 2 [(0, .ref o), (1, .int x)] := hl
  refine lv_iload_n S.1 S.2.1 d_He_has_0 rfl (lv_at hl 1 rfl) ?_
  refine lv_if_lt (tgt := 23) S.1 S.2.1 d_He_has_1 rfl (fun h1 => ?_) (fun h1 => ?_)
  · refine lv_iconst (v := 0) S.1 S.2.1 d_He_has_23 (by decide) ?_
    refine so_zretR S hr rfl hlk ?_ d_He_has_24
    first | rw [has_neg h1]; rfl | rw [has_big h7]; rfl | rw [has_nI hj, h16]; rfl
  · refine lv_iload_n S.1 S.2.1 d_He_has_4 rfl (lv_at hl 1 rfl) ?_
    refine lv_bipush (v := 32) S.1 S.2.1 d_He_has_5 (by decide) ?_
    refine lv_icmp_ge (tgt := 23) S.1 S.2.1 d_He_has_7 rfl (fun h7 => ?_) (fun h7 => ?_)
    · refine lv_iconst (v := 0) S.1 S.2.1 d_He_has_23 (by decide) ?_
      refine so_zretR S hr rfl hlk ?_ d_He_has_24
      first | rw [has_neg h1]; rfl | rw [has_big h7]; rfl | rw [has_nI hj, h16]; rfl
    · refine lv_aload_n S.1 S.2.1 d_He_has_10 rfl (lv_at hl 0 rfl) ?_
      refine gf_He_11_He S K P (by assumption) rfl d_He_has_11 ?_
      refine lv_iload_n S.1 S.2.1 d_He_has_14 rfl (lv_at hl 1 rfl) ?_
      obtain ⟨j, hj, rfl⟩ := ix_in (n := 32) (by decide) rfl h1 h7
      refine so_aaldN S K P h2 3 rfl hj (by decide) d_He_has_15 ?_
      refine lv_ifnullQ (tgt := 23) S.1 S.2.1 d_He_has_16 rfl (fun h16 => ?_) (fun q h16 => ?_)
      · refine lv_iconst (v := 0) S.1 S.2.1 d_He_has_23 (by decide) ?_
        refine so_zretR S hr rfl hlk ?_ d_He_has_24
        first | rw [has_neg h1]; rfl | rw [has_big h7]; rfl | rw [has_nI hj, h16]; rfl
      · refine lv_iconst (v := 1) S.1 S.2.1 d_He_has_19 (by decide) ?_
        refine lv_goto (tgt := 24) S.1 S.2.1 d_He_has_20 rfl ?_
        refine so_zretR S hr rfl hlk ?_ d_He_has_24
        first | rw [has_neg h1]; rfl | rw [has_big h7]; rfl | rw [has_nI hj, h16]; rfl
end
section
/-! The reference's cells: numbers z (by field), rows of numbers A, rows of truth values B (by field, then place). -/
abbrev Rf : Type := (Nat → Int32) × (Nat → Nat → Int32) × (Nat → Nat → Bool)
abbrev oMo (z : Nat → Int32) (ar : Nat → Nat) : va_E := .inr (10, [.int (z 0), .ref (ar 1), .ref (ar 2), .ref (ar 3), .ref (ar 4), .ref (ar 5), .ref (ar 6), .int (z 7), .ref (ar 8), .ref (ar 9), .ref (ar 10), .ref (ar 11), .int (z 12), .ref (ar 13), .int (z 14), .ref (ar 15), .ref (ar 16), .ref (ar 17)])
def mo_len : Nat → Nat
  | 1 => 32 | 2 => 32 | 3 => 32 | 4 => 32 | 5 => 32 | 6 => 32 | 8 => 160 | 9 => 160 | 10 => 160 | 11 => 5 | 13 => 64 | 15 => 5 | 16 => 5 | 17 => 5 | _ => 0
def mo_i (j : Nat) : Bool := j == 1 || j == 2 || j == 3 || j == 8 || j == 9 || j == 10 || j == 11 || j == 13 || j == 17
def mo_b (j : Nat) : Bool := j == 4 || j == 5 || j == 6 || j == 15 || j == 16
def MoR (ca : Nat → ClassId) (σ : so_S) (mo : Nat) (ar : Nat → Nat) (R : Rf) : Prop :=
  σ mo = some (50, oMo R.1 ar) ∧ (∀ j, mo_i j = true → σ (ar j) = some (50 + j, aI ca (mo_len j) (R.2.1 j))) ∧ (∀ j, mo_b j = true → σ (ar j) = some (50 + j, aZ ca (mo_len j) (fun i => bI (R.2.2 j i))))
/-- what isn't the reference's stays -/
def fM (σ σ1 : so_S) : Prop := ∀ (q : Nat) (x : so_E), σ q = some x → (x.1 < 50 ∨ 70 ≤ x.1) → σ1 q = some x
theorem fM.rf {σ : so_S} : fM σ σ := fun _ _ h _ => h
theorem fM.tr {a b c : so_S} (h : fM a b) (h2 : fM b c) : fM a c := fun q x hq hx => h2 q x (h q x hq hx) hx
theorem fM.up {σ σ1 : so_S} (h : fM σ σ1) {a : Nat} {x y : so_E} (ha : σ1 a = some x) (h1 : 50 ≤ x.1 ∧ x.1 < 70) : fM σ (so_up σ1 a y) := by
  intro q w hq hw
  have h2 := h q w hq hw
  rw [so_un (so_ne h2 ha (by omega))]
  exact h2
def sz (R : Rf) (k : Nat) (x : Int32) : Rf := (va_up R.1 k x, R.2)
def sa (R : Rf) (j i : Nat) (x : Int32) : Rf := (R.1, va_up R.2.1 j (upd (R.2.1 j) i x), R.2.2)
def sbb (R : Rf) (j i : Nat) (x : Bool) : Rf := (R.1, R.2.1, va_up R.2.2 j (va_up (R.2.2 j) i x))
theorem mo_i_r {j : Nat} (h : mo_i j = true) : 1 ≤ j ∧ j < 20 := by
  simp only [mo_i, Bool.or_eq_true, beq_iff_eq] at h
  omega
theorem mo_b_r {j : Nat} (h : mo_b j = true) : 1 ≤ j ∧ j < 20 := by
  simp only [mo_b, Bool.or_eq_true, beq_iff_eq] at h
  omega
theorem mo_ib {j k : Nat} (h : mo_i j = true) (h2 : mo_b k = true) : j ≠ k := by
  simp only [mo_i, mo_b, Bool.or_eq_true, beq_iff_eq] at h h2
  omega
section MO1
variable {ca : Nat → ClassId} {σ : so_S} {mo : Nat} {ar : Nat → Nat} {R : Rf}
theorem MoR.up_a (M : MoR ca σ mo ar R) (j i : Nat) (x : Int32) (hj : mo_i j = true) : MoR ca (so_up σ (ar j) (50 + j, aI ca (mo_len j) (upd (R.2.1 j) i x))) mo ar (sa R j i x) := by
  have hA := M.2.1 j hj
  have hr := mo_i_r hj
  refine ⟨?_, fun k hk => ?_, fun k hk => ?_⟩
  · rw [so_un (so_ne M.1 hA (by show 50 ≠ 50 + j; omega))]
    exact M.1
  · by_cases e : k = j
    · subst e
      rw [so_us]
      show _ = some (50 + k, aI ca (mo_len k) (va_up R.2.1 k (upd (R.2.1 k) i x) k))
      rw [va_up_self]
    · rw [so_un (so_ne (M.2.1 k hk) hA (by show 50 + k ≠ 50 + j; omega))]
      show _ = some (50 + k, aI ca (mo_len k) (va_up R.2.1 j (upd (R.2.1 j) i x) k))
      rw [va_up_ne _ _ e]
      exact M.2.1 k hk
  · have e := mo_ib hj hk
    rw [so_un (so_ne (M.2.2 k hk) hA (by show 50 + k ≠ 50 + j; omega))]
    exact M.2.2 k hk
theorem MoR.up_b (M : MoR ca σ mo ar R) (j i : Nat) (x : Bool) (hj : mo_b j = true) : MoR ca (so_up σ (ar j) (50 + j, aZ ca (mo_len j) (upd (fun i => bI (R.2.2 j i)) i (bI x)))) mo ar (sbb R j i x) := by
  have hA := M.2.2 j hj
  have hr := mo_b_r hj
  refine ⟨?_, fun k hk => ?_, fun k hk => ?_⟩
  · rw [so_un (so_ne M.1 hA (by show 50 ≠ 50 + j; omega))]
    exact M.1
  · have e := mo_ib hk hj
    rw [so_un (so_ne (M.2.1 k hk) hA (by show 50 + k ≠ 50 + j; omega))]
    exact M.2.1 k hk
  · by_cases e : k = j
    · subst e
      rw [so_us]
      show _ = some (50 + k, aZ ca (mo_len k) (fun q => bI (va_up R.2.2 k (va_up (R.2.2 k) i x) k q)))
      rw [va_up_self]
      congr 4
      funext q
      simp only [upd, va_up]
      split <;> rfl
    · rw [so_un (so_ne (M.2.2 k hk) hA (by show 50 + k ≠ 50 + j; omega))]
      show _ = some (50 + k, aZ ca (mo_len k) (fun q => bI (va_up R.2.2 j (va_up (R.2.2 j) i x) k q)))
      rw [va_up_ne _ _ e]
      exact M.2.2 k hk
theorem MoR.up_z (M : MoR ca σ mo ar R) (k : Nat) (x : Int32) : MoR ca (so_up σ mo (50, oMo (va_up R.1 k x) ar)) mo ar (sz R k x) := by
  refine ⟨so_us, fun j hj => ?_, fun j hj => ?_⟩
  · have hr := mo_i_r hj
    rw [so_un (so_ne (M.2.1 j hj) M.1 (by show 50 + j ≠ 50; omega))]
    exact M.2.1 j hj
  · have hr := mo_b_r hj
    rw [so_un (so_ne (M.2.2 j hj) M.1 (by show 50 + j ≠ 50; omega))]
    exact M.2.2 j hj
end MO1
end
section
/-! Rows over the reference's cells. -/
section MO2
variable {p : Program} {l : Launch} {e : Env} {Ro : Room} {s : State} {m : MethodId} {args : Array Value} {below : List Frame} {meth : Method} {c : Code} {H H0 : Heap} {locs : List Loc} {cells slots : Nat} {Q : State → Prop}
variable {cc : ByteArray} {pc nL N0 : Nat} {ls : Array Slot} {rest : List Value} {D : va_G} {σ σ0 : so_S} {Ts : List Cond} {own : String} {ca : Nat → ClassId} {mo : Nat} {ar : Nat → Nat} {R : Rf}
theorem mo_iald (S : CallFix p m c cc nL s args Ts own) (K : va_K D vcl (tyl ca) s) (P : so_P D vcl N0 σ H) (M : MoR ca σ mo ar R) (j : Nat) (hj : mo_i j = true) (i : Nat) {x : Int32} (hx : x = nI i) (hi : i < mo_len j) (hdg : decode cc pc = .ok (.iaload, 1))
    (kk : W p l e Ro s m args below meth c H locs cells slots Q (F0 m (pc + 1) ls (.int (R.2.1 j i) :: rest))) : W p l e Ro s m args below meth c H locs cells slots Q (F0 m pc ls (.int x :: .ref (ar j) :: rest)) := by
  subst hx
  exact so_ialdN S K P (M.2.1 j hj) 0 rfl hi (by unfold mo_len; split <;> decide) hdg kk
theorem mo_zald (S : CallFix p m c cc nL s args Ts own) (K : va_K D vcl (tyl ca) s) (P : so_P D vcl N0 σ H) (M : MoR ca σ mo ar R) (j : Nat) (hj : mo_b j = true) (i : Nat) {x : Int32} (hx : x = nI i) (hi : i < mo_len j) (hdg : decode cc pc = .ok (.baload, 1))
    (kk : W p l e Ro s m args below meth c H locs cells slots Q (F0 m (pc + 1) ls (.int (bI (R.2.2 j i)) :: rest))) : W p l e Ro s m args below meth c H locs cells slots Q (F0 m pc ls (.int x :: .ref (ar j) :: rest)) := by
  subst hx
  exact so_zaldN S K P (M.2.2 j hj) 1 rfl hi (by unfold mo_len; split <;> decide) hdg kk
theorem mo_iast (S : CallFix p m c cc nL s args Ts own) (K : va_K D vcl (tyl ca) s) (P : so_P D vcl N0 σ H) (hS : va_S (so_A N0) H0 H locs) (M : MoR ca σ mo ar R) (F : fM σ0 σ) (j : Nat) (hj : mo_i j = true) (i : Nat) {x y : Int32} (hx : x = nI i) (hi : i < mo_len j) (hdg : decode cc pc = .ok (.iastore, 1))
    (kk : ∀ (σ1 : so_S) (H1 : Heap) (locs1 : List Loc), so_P D vcl N0 σ1 H1 → va_S (so_A N0) H0 H1 locs1 → MoR ca σ1 mo ar (sa R j i y) → fM σ0 σ1 → W p l e Ro s m args below meth c H1 locs1 cells slots Q (F0 m (pc + 1) ls rest)) : W p l e Ro s m args below meth c H locs cells slots Q (F0 m pc ls (.int y :: .int x :: .ref (ar j) :: rest)) := by
  subst hx
  have hr := mo_i_r hj
  exact so_iastN S K P hS (M.2.1 j hj) 0 rfl hi (by unfold mo_len; split <;> decide) hdg (fun H1 locs1 P1 hS1 => kk _ H1 locs1 P1 hS1 (M.up_a j i y hj) (F.up (M.2.1 j hj) (by show 50 ≤ 50 + j ∧ 50 + j < 70; omega)))
theorem mo_zast (S : CallFix p m c cc nL s args Ts own) (K : va_K D vcl (tyl ca) s) (P : so_P D vcl N0 σ H) (hS : va_S (so_A N0) H0 H locs) (M : MoR ca σ mo ar R) (F : fM σ0 σ) (j : Nat) (hj : mo_b j = true) (i : Nat) {x y : Int32} (b : Bool) (hx : x = nI i) (hy : y = bI b) (hi : i < mo_len j) (hdg : decode cc pc = .ok (.bastore, 1))
    (kk : ∀ (σ1 : so_S) (H1 : Heap) (locs1 : List Loc), so_P D vcl N0 σ1 H1 → va_S (so_A N0) H0 H1 locs1 → MoR ca σ1 mo ar (sbb R j i b) → fM σ0 σ1 → W p l e Ro s m args below meth c H1 locs1 cells slots Q (F0 m (pc + 1) ls rest)) : W p l e Ro s m args below meth c H locs cells slots Q (F0 m pc ls (.int y :: .int x :: .ref (ar j) :: rest)) := by
  subst hx hy
  have hr := mo_b_r hj
  exact so_zastN S K P hS (M.2.2 j hj) 1 rfl (by cases b <;> rfl) hi (by unfold mo_len; split <;> decide) hdg (fun H1 locs1 P1 hS1 => kk _ H1 locs1 P1 hS1 (M.up_b j i b hj) (F.up (M.2.2 j hj) (by show 50 ≤ 50 + j ∧ 50 + j < 70; omega)))
/-- behind a call of a method that changes the reference -/
theorem mo_after {mc ms : Nat} {s0 : State} {st0 : List Value} {a : Array Value} {post : Option Value → Rf → Prop} (F : fM σ0 σ) (hr : va_Run p l e Ro s m args below meth c H locs cells slots mc ms (F0 m pc ls st0) rest (so_Q s0 D vcl (fun v σ1 => ∃ R1, post v R1 ∧ MoR ca σ1 mo ar R1 ∧ fM σ σ1) a) (so_A s0.heap.size)) (hS : va_S (so_A s0.heap.size) H0 H locs)
    (kk : ∀ (v : Option Value) (R1 : Rf) (σ1 : so_S) (H1 : Heap) (locs1 : List Loc), post v R1 → so_P D vcl s0.heap.size σ1 H1 → va_S (so_A s0.heap.size) H0 H1 locs1 → MoR ca σ1 mo ar R1 → fM σ0 σ1 → W p l e Ro s m args below meth c H1 locs1 (cells + mc) (slots + ms) Q (F0 m (pc + 3) ls (v.toList ++ rest))) : W p l e Ro s m args below meth c H locs cells slots Q (F0 m pc ls st0) :=
  so_call hr hS (fun v σ1 H1 locs1 ⟨R1, h1, h2, h3⟩ P1 hS1 => kk v R1 σ1 H1 locs1 h1 P1 hS1 h2 (F.tr h3))
end MO2
/-- a method of the reference: it answers v and leaves R1 -/
abbrev mo_C (l : Launch) (s0 : State) (D : va_G) (ca : Nat → ClassId) (mo : Nat) (ar : Nat → Nat) (σ : so_S) (y : MethodName) (b : ByteArray) (n : Nat) (r : Option FieldType) (k : Nat) (av : List Value) (post : Option Value → Rf → Prop) : Prop :=
  so_C l s0 D vcl y b n r k 0 0 (.ref mo :: av) σ (fun v σ1 => ∃ R1, post v R1 ∧ MoR ca σ1 mo ar R1 ∧ fM σ σ1)
abbrev mo_D (l : Launch) (s0 : State) (D : va_G) (mo : Nat) (σ : so_S) (y : MethodName) (b : ByteArray) (n : Nat) (r : Option FieldType) (k : Nat) (av : List Value) (post : Option Value → Prop) : Prop :=
  so_D l s0 D vcl y b n r k (.ref mo :: av) σ post
/-! the put of a number field, in the picture's words -/
theorem mo_zP0 {D : va_G} {N0 mo : Nat} {σ : so_S} {H : Heap} {z : Nat → Int32} {ar : Nat → Nat} {x : Int32} (P : so_P D vcl N0 (so_up σ mo (50, .inr (10, ([.int (z 0), .ref (ar 1), .ref (ar 2), .ref (ar 3), .ref (ar 4), .ref (ar 5), .ref (ar 6), .int (z 7), .ref (ar 8), .ref (ar 9), .ref (ar 10), .ref (ar 11), .int (z 12), .ref (ar 13), .int (z 14), .ref (ar 15), .ref (ar 16), .ref (ar 17)] : List Value).set 0 (.int x)))) H) : so_P D vcl N0 (so_up σ mo (50, oMo (va_up z 0 x) ar)) H := P
theorem mo_zP7 {D : va_G} {N0 mo : Nat} {σ : so_S} {H : Heap} {z : Nat → Int32} {ar : Nat → Nat} {x : Int32} (P : so_P D vcl N0 (so_up σ mo (50, .inr (10, ([.int (z 0), .ref (ar 1), .ref (ar 2), .ref (ar 3), .ref (ar 4), .ref (ar 5), .ref (ar 6), .int (z 7), .ref (ar 8), .ref (ar 9), .ref (ar 10), .ref (ar 11), .int (z 12), .ref (ar 13), .int (z 14), .ref (ar 15), .ref (ar 16), .ref (ar 17)] : List Value).set 7 (.int x)))) H) : so_P D vcl N0 (so_up σ mo (50, oMo (va_up z 7 x) ar)) H := P
theorem mo_zP12 {D : va_G} {N0 mo : Nat} {σ : so_S} {H : Heap} {z : Nat → Int32} {ar : Nat → Nat} {x : Int32} (P : so_P D vcl N0 (so_up σ mo (50, .inr (10, ([.int (z 0), .ref (ar 1), .ref (ar 2), .ref (ar 3), .ref (ar 4), .ref (ar 5), .ref (ar 6), .int (z 7), .ref (ar 8), .ref (ar 9), .ref (ar 10), .ref (ar 11), .int (z 12), .ref (ar 13), .int (z 14), .ref (ar 15), .ref (ar 16), .ref (ar 17)] : List Value).set 12 (.int x)))) H) : so_P D vcl N0 (so_up σ mo (50, oMo (va_up z 12 x) ar)) H := P
theorem mo_zP14 {D : va_G} {N0 mo : Nat} {σ : so_S} {H : Heap} {z : Nat → Int32} {ar : Nat → Nat} {x : Int32} (P : so_P D vcl N0 (so_up σ mo (50, .inr (10, ([.int (z 0), .ref (ar 1), .ref (ar 2), .ref (ar 3), .ref (ar 4), .ref (ar 5), .ref (ar 6), .int (z 7), .ref (ar 8), .ref (ar 9), .ref (ar 10), .ref (ar 11), .int (z 12), .ref (ar 13), .int (z 14), .ref (ar 15), .ref (ar 16), .ref (ar 17)] : List Value).set 14 (.int x)))) H) : so_P D vcl N0 (so_up σ mo (50, oMo (va_up z 14 x) ar)) H := P
section MO3
variable {p : Program} {l : Launch} {e : Env} {Ro : Room} {s : State} {m : MethodId} {args : Array Value} {below : List Frame} {meth : Method} {c : Code} {H H0 : Heap} {locs : List Loc} {cells slots : Nat} {Q : State → Prop}
variable {cc : ByteArray} {pc nL N0 : Nat} {ls : Array Slot} {rest : List Value} {D : va_G} {σ σ0 : so_S} {ca : Nat → ClassId} {mo : Nat} {ar : Nat → Nat} {R : Rf}
theorem mo_pz_41 (S : CallFix p m c cc nL s args tbl "HoldMapsModel") (K : va_K D vcl (tyl ca) s) (P : so_P D vcl N0 σ H) (hS : va_S (so_A N0) H0 H locs) (M : MoR ca σ mo ar R) (F : fM σ0 σ) {x : Int32} (hdg : decode cc pc = .ok (.putfield 41, 3)) (kk : ∀ (σ1 : so_S) (H1 : Heap) (locs1 : List Loc), so_P D vcl N0 σ1 H1 → va_S (so_A N0) H0 H1 locs1 → MoR ca σ1 mo ar (sz R 12 x) → fM σ0 σ1 → W p l e Ro s m args below meth c H1 locs1 cells slots Q (F0 m (pc + 3) ls rest)) : W p l e Ro s m args below meth c H locs cells slots Q (F0 m pc ls (.int x :: .ref mo :: rest)) := pf_Mo_41_Mo S K P hS M.1 (Nat.le_of_ble_eq_true rfl) rfl rfl hdg (fun H1 locs1 P1 hS1 => kk _ H1 locs1 (mo_zP12 P1) hS1 (M.up_z 12 x) (F.up M.1 ⟨Nat.le_refl _, Nat.le_of_ble_eq_true rfl⟩))
theorem mo_pz_57 (S : CallFix p m c cc nL s args tbl "HoldMapsModel") (K : va_K D vcl (tyl ca) s) (P : so_P D vcl N0 σ H) (hS : va_S (so_A N0) H0 H locs) (M : MoR ca σ mo ar R) (F : fM σ0 σ) {x : Int32} (hdg : decode cc pc = .ok (.putfield 57, 3)) (kk : ∀ (σ1 : so_S) (H1 : Heap) (locs1 : List Loc), so_P D vcl N0 σ1 H1 → va_S (so_A N0) H0 H1 locs1 → MoR ca σ1 mo ar (sz R 0 x) → fM σ0 σ1 → W p l e Ro s m args below meth c H1 locs1 cells slots Q (F0 m (pc + 3) ls rest)) : W p l e Ro s m args below meth c H locs cells slots Q (F0 m pc ls (.int x :: .ref mo :: rest)) := pf_Mo_57_Mo S K P hS M.1 (Nat.le_of_ble_eq_true rfl) rfl rfl hdg (fun H1 locs1 P1 hS1 => kk _ H1 locs1 (mo_zP0 P1) hS1 (M.up_z 0 x) (F.up M.1 ⟨Nat.le_refl _, Nat.le_of_ble_eq_true rfl⟩))
theorem mo_pz_93 (S : CallFix p m c cc nL s args tbl "HoldMapsModel") (K : va_K D vcl (tyl ca) s) (P : so_P D vcl N0 σ H) (hS : va_S (so_A N0) H0 H locs) (M : MoR ca σ mo ar R) (F : fM σ0 σ) {x : Int32} (hdg : decode cc pc = .ok (.putfield 93, 3)) (kk : ∀ (σ1 : so_S) (H1 : Heap) (locs1 : List Loc), so_P D vcl N0 σ1 H1 → va_S (so_A N0) H0 H1 locs1 → MoR ca σ1 mo ar (sz R 14 x) → fM σ0 σ1 → W p l e Ro s m args below meth c H1 locs1 cells slots Q (F0 m (pc + 3) ls rest)) : W p l e Ro s m args below meth c H locs cells slots Q (F0 m pc ls (.int x :: .ref mo :: rest)) := pf_Mo_93_Mo S K P hS M.1 (Nat.le_of_ble_eq_true rfl) rfl rfl hdg (fun H1 locs1 P1 hS1 => kk _ H1 locs1 (mo_zP14 P1) hS1 (M.up_z 14 x) (F.up M.1 ⟨Nat.le_refl _, Nat.le_of_ble_eq_true rfl⟩))
theorem mo_pz_147 (S : CallFix p m c cc nL s args tbl "HoldMapsModel") (K : va_K D vcl (tyl ca) s) (P : so_P D vcl N0 σ H) (hS : va_S (so_A N0) H0 H locs) (M : MoR ca σ mo ar R) (F : fM σ0 σ) {x : Int32} (hdg : decode cc pc = .ok (.putfield 147, 3)) (kk : ∀ (σ1 : so_S) (H1 : Heap) (locs1 : List Loc), so_P D vcl N0 σ1 H1 → va_S (so_A N0) H0 H1 locs1 → MoR ca σ1 mo ar (sz R 7 x) → fM σ0 σ1 → W p l e Ro s m args below meth c H1 locs1 cells slots Q (F0 m (pc + 3) ls rest)) : W p l e Ro s m args below meth c H locs cells slots Q (F0 m pc ls (.int x :: .ref mo :: rest)) := pf_Mo_147_Mo S K P hS M.1 (Nat.le_of_ble_eq_true rfl) rfl rfl hdg (fun H1 locs1 P1 hS1 => kk _ H1 locs1 (mo_zP7 P1) hS1 (M.up_z 7 x) (F.up M.1 ⟨Nat.le_refl _, Nat.le_of_ble_eq_true rfl⟩))
end MO3
end
section
/-! The reference's small methods. -/
def is_O (R : Rf) (x : Int32) : Bool := if x < 0 then false else if 32 ≤ x then false else R.2.2 4 x.toNatClampNeg
theorem is_neg {R : Rf} {x : Int32} (h : x < 0) : is_O R x = false := if_pos h
theorem is_big {R : Rf} {x : Int32} (h : 32 ≤ x) : is_O R x = false := by
  unfold is_O
  rw [if_pos h]
  split <;> rfl
theorem is_nI {R : Rf} {j : Nat} (h : j < 32) : is_O R (nI j) = R.2.2 4 j := by
  unfold is_O
  rw [if_neg (nI_pos (by omega)), if_neg (show ¬ (32 : Int32) ≤ nI j from nI_ge (b := 32) h (by decide)), nI_clamp (by omega)]
theorem is_cases {R : Rf} {x : Int32} (h : is_O R x = true) : ∃ j : Nat, j < 32 ∧ x = nI j ∧ R.2.2 4 j = true := by
  rcases pk_ix x (n := 32) (by decide) with h1 | h1 | ⟨j, h1, h2⟩
  · rw [is_neg h1] at h
    cases h
  · rw [is_big h1] at h
    cases h
  · subst h2
    rw [is_nI h1] at h
    exact ⟨j, h1, rfl, h⟩
def is_M (x : Int32) : Bool := if x < 0 then false else if 4 < x then false else true
theorem is_M_cases {x : Int32} (h : is_M x = true) : ∃ j : Nat, j < 5 ∧ x = nI j := by
  unfold is_M at h
  split at h
  · cases h
  · rename_i h0
    split at h
    · cases h
    · rename_i h1
      refine ix_in (n := 5) (M := 5) (by decide) rfl h0 (fun q => h1 ?_)
      rw [Int32.le_iff_toInt_le] at q
      rw [Int32.lt_iff_toInt_lt]
      have e5 : (5 : Int32).toInt = 5 := by decide
      have e4 : (4 : Int32).toInt = 4 := by decide
      omega
theorem bI_1 {b : Bool} (h : ¬ bI b = 0) : b = true := by
  cases b
  · exact absurd rfl h
  · rfl
set_option maxHeartbeats 4000000 in
set_option maxRecDepth 100000 in
theorem c_Mo_thrown (l : Launch) {s0 : State} {D : va_G} {ca : Nat → ClassId} (hB : so_B tbl s0 D vcl (tyl ca)) {σ : so_S} {mo : Nat} {ar : Nat → Nat} {R : Rf} (M : MoR ca σ mo ar R)  : mo_D l s0 D mo σ y_Mo_thrown b_Mo_thrown 1 (some .int) 0 [] (fun v => v = some (.int (R.1 0))) := by
  refine so_ofR hB (by decide) (Nat.le_of_ble_eq_true rfl) ?_
  intro p e s m below meth c ls S K E hr hlk P hS hl
  have hl : lv_has ls 1 [(0, .ref mo)] := hl
  refine lv_aload_n S.1 S.2.1 d_Mo_thrown_0 rfl (lv_at hl 0 rfl) ?_
  refine gf_Mo_57_Mo S K P M.1 rfl d_Mo_thrown_1 ?_
  refine so_iretR S hr hlk ?_ d_Mo_thrown_4
  rfl
set_option maxHeartbeats 4000000 in
set_option maxRecDepth 100000 in
theorem c_Mo_refuse (l : Launch) {s0 : State} {D : va_G} {ca : Nat → ClassId} (hB : so_B tbl s0 D vcl (tyl ca)) {σ : so_S} {mo : Nat} {ar : Nat → Nat} {R : Rf} (M : MoR ca σ mo ar R) (x : Int32) : mo_C l s0 D ca mo ar σ y_Mo_refuse b_Mo_refuse 2 (some .int) 0 [.int x] (fun v R1 => v = some (.int 0) ∧ R1 = sz R 0 x) := by
  refine so_of hB (by decide) (Nat.le_of_ble_eq_true rfl) ?_
  intro p e s m below meth c ls S K E hr hlk hnm P hS hl
  have hl : lv_has ls 2 [(0, .ref mo), (1, .int x)] := hl
  have F : fM σ σ := fM.rf
  refine lv_aload_n S.1 S.2.1 d_Mo_refuse_0 rfl (lv_at hl 0 rfl) ?_
  refine lv_iload_n S.1 S.2.1 d_Mo_refuse_1 rfl (lv_at hl 1 rfl) ?_
  refine mo_pz_57 S K P hS M F d_Mo_refuse_2 (fun σ H locs P hS M F => ?_)
  refine lv_iconst (v := 0) S.1 S.2.1 d_Mo_refuse_5 (by decide) ?_
  refine so_iret S hr hlk P hS (Nat.le_refl _) (Nat.le_refl _) ⟨_, ?_, M, F⟩ d_Mo_refuse_6
  exact ⟨rfl, rfl⟩
set_option maxHeartbeats 4000000 in
set_option maxRecDepth 100000 in
theorem c_Mo_isObject (l : Launch) {s0 : State} {D : va_G} {ca : Nat → ClassId} (hB : so_B tbl s0 D vcl (tyl ca)) {σ : so_S} {mo : Nat} {ar : Nat → Nat} {R : Rf} (M : MoR ca σ mo ar R) (x : Int32) : mo_D l s0 D mo σ y_Mo_isObject b_Mo_isObject 2 (some .boolean) 0 [.int x] (fun v => v = some (.int (bI (is_O R x)))) := by
  refine so_ofR hB (by decide) (Nat.le_of_ble_eq_true rfl) ?_
  intro p e s m below meth c ls S K E hr hlk P hS hl
  have hl : lv_has ls 2 [(0, .ref mo), (1, .int x)] := hl
  refine lv_iload_n S.1 S.2.1 d_Mo_isObject_0 rfl (lv_at hl 1 rfl) ?_
  refine lv_if_lt (tgt := 23) S.1 S.2.1 d_Mo_isObject_1 rfl (fun h1 => ?_) (fun h1 => ?_)
  · refine lv_iconst (v := 0) S.1 S.2.1 d_Mo_isObject_23 (by decide) ?_
    refine so_zretR S hr rfl hlk ?_ d_Mo_isObject_24
    first | rw [is_neg h1]; rfl | rw [is_big h7]; rfl | rw [is_nI hj, (bI_0 _).mp h16]; rfl | rw [is_nI hj, bI_1 h16]; rfl
  · refine lv_iload_n S.1 S.2.1 d_Mo_isObject_4 rfl (lv_at hl 1 rfl) ?_
    refine lv_bipush (v := 32) S.1 S.2.1 d_Mo_isObject_5 (by decide) ?_
    refine lv_icmp_ge (tgt := 23) S.1 S.2.1 d_Mo_isObject_7 rfl (fun h7 => ?_) (fun h7 => ?_)
    · refine lv_iconst (v := 0) S.1 S.2.1 d_Mo_isObject_23 (by decide) ?_
      refine so_zretR S hr rfl hlk ?_ d_Mo_isObject_24
      first | rw [is_neg h1]; rfl | rw [is_big h7]; rfl | rw [is_nI hj, (bI_0 _).mp h16]; rfl | rw [is_nI hj, bI_1 h16]; rfl
    · refine lv_aload_n S.1 S.2.1 d_Mo_isObject_10 rfl (lv_at hl 0 rfl) ?_
      refine gf_Mo_19_Mo S K P M.1 rfl d_Mo_isObject_11 ?_
      refine lv_iload_n S.1 S.2.1 d_Mo_isObject_14 rfl (lv_at hl 1 rfl) ?_
      obtain ⟨j, hj, rfl⟩ := ix_in (n := 32) (by decide) rfl h1 h7
      refine mo_zald S K P M 4 rfl j rfl (by show _ < 32; omega) d_Mo_isObject_15 ?_
      refine lv_if_eq (tgt := 23) S.1 S.2.1 d_Mo_isObject_16 rfl (fun h16 => ?_) (fun h16 => ?_)
      · refine lv_iconst (v := 0) S.1 S.2.1 d_Mo_isObject_23 (by decide) ?_
        refine so_zretR S hr rfl hlk ?_ d_Mo_isObject_24
        first | rw [is_neg h1]; rfl | rw [is_big h7]; rfl | rw [is_nI hj, (bI_0 _).mp h16]; rfl | rw [is_nI hj, bI_1 h16]; rfl
      · refine lv_iconst (v := 1) S.1 S.2.1 d_Mo_isObject_19 (by decide) ?_
        refine lv_goto (tgt := 24) S.1 S.2.1 d_Mo_isObject_20 rfl ?_
        refine so_zretR S hr rfl hlk ?_ d_Mo_isObject_24
        first | rw [is_neg h1]; rfl | rw [is_big h7]; rfl | rw [is_nI hj, (bI_0 _).mp h16]; rfl | rw [is_nI hj, bI_1 h16]; rfl
set_option maxHeartbeats 4000000 in
set_option maxRecDepth 100000 in
theorem c_Mo_change (l : Launch) {s0 : State} {D : va_G} {ca : Nat → ClassId} (hB : so_B tbl s0 D vcl (tyl ca)) {σ : so_S} {mo : Nat} {ar : Nat → Nat} {R : Rf} (M : MoR ca σ mo ar R) (mp : Nat) (hm : mp < 5) : mo_C l s0 D ca mo ar σ y_Mo_change b_Mo_change 2 none 0 [.int (nI mp)] (fun v R1 => v = none ∧ R1 = sbb R 16 mp true) := by
  refine so_of hB (by decide) (Nat.le_of_ble_eq_true rfl) ?_
  intro p e s m below meth c ls S K E hr hlk hnm P hS hl
  have hl : lv_has ls 2 [(0, .ref mo), (1, .int (nI mp))] := hl
  have F : fM σ σ := fM.rf
  refine lv_aload_n S.1 S.2.1 d_Mo_change_0 rfl (lv_at hl 0 rfl) ?_
  refine gf_Mo_51_Mo S K P M.1 rfl d_Mo_change_1 ?_
  refine lv_iload_n S.1 S.2.1 d_Mo_change_4 rfl (lv_at hl 1 rfl) ?_
  refine lv_iconst (v := 1) S.1 S.2.1 d_Mo_change_5 (by decide) ?_
  refine mo_zast S K P hS M F 16 rfl mp true rfl rfl (by show _ < 5; omega) d_Mo_change_6 (fun σ H locs P hS M F => ?_)
  refine so_vret S hr hlk P hS (Nat.le_refl _) (Nat.le_refl _) ⟨_, ?_, M, F⟩ d_Mo_change_7
  exact ⟨rfl, rfl⟩
def en_O (mp n : Nat) : Nat := 32 * mp + if mp = 2 then 16 else if mp = 3 then 8 else n
set_option maxHeartbeats 4000000 in
set_option maxRecDepth 100000 in
theorem c_Mo_endd (l : Launch) {s0 : State} {D : va_G} {ca : Nat → ClassId} (hB : so_B tbl s0 D vcl (tyl ca)) {σ : so_S} {mo : Nat} {ar : Nat → Nat} {R : Rf} (M : MoR ca σ mo ar R) (mp n : Nat) (hm : mp < 5) (hz : R.2.1 11 mp = nI n) : mo_D l s0 D mo σ y_Mo_endd b_Mo_endd 2 (some .int) 0 [.int (nI mp)] (fun v => v = some (.int (nI (en_O mp n)))) := by
  refine so_ofR hB (by decide) (Nat.le_of_ble_eq_true rfl) ?_
  intro p e s m below meth c ls S K E hr hlk P hS hl
  have hl : lv_has ls 2 [(0, .ref mo), (1, .int (nI mp))] := hl
  refine lv_bipush (v := 32) S.1 S.2.1 d_Mo_endd_0 (by decide) ?_
  refine lv_iload_n S.1 S.2.1 d_Mo_endd_2 rfl (lv_at hl 1 rfl) ?_
  refine lv_imul S.1 S.2.1 d_Mo_endd_3 ?_
  refine lv_iload_n S.1 S.2.1 d_Mo_endd_4 rfl (lv_at hl 1 rfl) ?_
  refine lv_iconst (v := 2) S.1 S.2.1 d_Mo_endd_5 (by decide) ?_
  refine lv_icmp_ne (tgt := 14) S.1 S.2.1 d_Mo_endd_6 rfl (fun h6 => ?_) (fun h6 => ?_)
  · refine lv_iload_n S.1 S.2.1 d_Mo_endd_14 rfl (lv_at hl 1 rfl) ?_
    refine lv_iconst (v := 3) S.1 S.2.1 d_Mo_endd_15 (by decide) ?_
    refine lv_icmp_ne (tgt := 24) S.1 S.2.1 d_Mo_endd_16 rfl (fun h16 => ?_) (fun h16 => ?_)
    · refine lv_aload_n S.1 S.2.1 d_Mo_endd_24 rfl (lv_at hl 0 rfl) ?_
      refine gf_Mo_38_Mo S K P M.1 rfl d_Mo_endd_25 ?_
      refine lv_iload_n S.1 S.2.1 d_Mo_endd_28 rfl (lv_at hl 1 rfl) ?_
      refine mo_iald S K P M 11 rfl mp rfl (by show _ < 5; omega) d_Mo_endd_29 ?_
      refine lv_iadd S.1 S.2.1 d_Mo_endd_30 ?_
      refine so_iretR S hr hlk ?_ d_Mo_endd_31
      have k2 : nI mp = 2 ↔ mp = 2 := nI_eq (b := 2) (by omega) (by decide)
      have k3 : nI mp = 3 ↔ mp = 3 := nI_eq (b := 3) (by omega) (by decide)
      have e0 : (32 : Int32) * nI mp = nI (32 * mp) := pk_mul 32 mp
      congr 2
      unfold en_O
      rw [e0]
      first
        | (have q : mp = 2 := by first | exact k2.mp h6 | exact k2.mp (Classical.not_not.mp h6)); rw [if_pos q]; exact nI_add _ 16
        | (have q2 : ¬ mp = 2 := fun z => h6 (k2.mpr z)); (have q : mp = 3 := by first | exact k3.mp h16 | exact k3.mp (Classical.not_not.mp h16)); rw [if_neg q2, if_pos q]; exact nI_add _ 8
        | (have q2 : ¬ mp = 2 := fun z => h6 (k2.mpr z)); (have q : ¬ mp = 3 := fun z => h16 (k3.mpr z)); rw [if_neg q2, if_neg q, hz]; exact nI_add _ n
    · refine lv_bipush (v := 8) S.1 S.2.1 d_Mo_endd_19 (by decide) ?_
      refine lv_goto (tgt := 30) S.1 S.2.1 d_Mo_endd_21 rfl ?_
      refine lv_iadd S.1 S.2.1 d_Mo_endd_30 ?_
      refine so_iretR S hr hlk ?_ d_Mo_endd_31
      have k2 : nI mp = 2 ↔ mp = 2 := nI_eq (b := 2) (by omega) (by decide)
      have k3 : nI mp = 3 ↔ mp = 3 := nI_eq (b := 3) (by omega) (by decide)
      have e0 : (32 : Int32) * nI mp = nI (32 * mp) := pk_mul 32 mp
      congr 2
      unfold en_O
      rw [e0]
      first
        | (have q : mp = 2 := by first | exact k2.mp h6 | exact k2.mp (Classical.not_not.mp h6)); rw [if_pos q]; exact nI_add _ 16
        | (have q2 : ¬ mp = 2 := fun z => h6 (k2.mpr z)); (have q : mp = 3 := by first | exact k3.mp h16 | exact k3.mp (Classical.not_not.mp h16)); rw [if_neg q2, if_pos q]; exact nI_add _ 8
        | (have q2 : ¬ mp = 2 := fun z => h6 (k2.mpr z)); (have q : ¬ mp = 3 := fun z => h16 (k3.mpr z)); rw [if_neg q2, if_neg q, hz]; exact nI_add _ n
  · refine lv_bipush (v := 16) S.1 S.2.1 d_Mo_endd_9 (by decide) ?_
    refine lv_goto (tgt := 30) S.1 S.2.1 d_Mo_endd_11 rfl ?_
    refine lv_iadd S.1 S.2.1 d_Mo_endd_30 ?_
    refine so_iretR S hr hlk ?_ d_Mo_endd_31
    have k2 : nI mp = 2 ↔ mp = 2 := nI_eq (b := 2) (by omega) (by decide)
    have k3 : nI mp = 3 ↔ mp = 3 := nI_eq (b := 3) (by omega) (by decide)
    have e0 : (32 : Int32) * nI mp = nI (32 * mp) := pk_mul 32 mp
    congr 2
    unfold en_O
    rw [e0]
    first
      | (have q : mp = 2 := by first | exact k2.mp h6 | exact k2.mp (Classical.not_not.mp h6)); rw [if_pos q]; exact nI_add _ 16
      | (have q2 : ¬ mp = 2 := fun z => h6 (k2.mpr z)); (have q : mp = 3 := by first | exact k3.mp h16 | exact k3.mp (Classical.not_not.mp h16)); rw [if_neg q2, if_pos q]; exact nI_add _ 8
      | (have q2 : ¬ mp = 2 := fun z => h6 (k2.mpr z)); (have q : ¬ mp = 3 := fun z => h16 (k3.mpr z)); rw [if_neg q2, if_neg q, hz]; exact nI_add _ n
set_option maxHeartbeats 4000000 in
set_option maxRecDepth 100000 in
theorem c_Mo_set (l : Launch) {s0 : State} {D : va_G} {ca : Nat → ClassId} (hB : so_B tbl s0 D vcl (tyl ca)) {σ : so_S} {mo : Nat} {ar : Nat → Nat} {R : Rf} (M : MoR ca σ mo ar R) (k : Nat) (hk : k < 160) (x y : Int32) : mo_C l s0 D ca mo ar σ y_Mo_set b_Mo_set 4 none 0 [.int (nI k), .int x, .int y] (fun v R1 => v = none ∧ R1 = sa (sa R 8 k x) 9 k y) := by
  refine so_of hB (by decide) (Nat.le_of_ble_eq_true rfl) ?_
  intro p e s m below meth c ls S K E hr hlk hnm P hS hl
  have hl : lv_has ls 4 [(0, .ref mo), (1, .int (nI k)), (2, .int x), (3, .int y)] := hl
  have F : fM σ σ := fM.rf
  refine lv_aload_n S.1 S.2.1 d_Mo_set_0 rfl (lv_at hl 0 rfl) ?_
  refine gf_Mo_29_Mo S K P M.1 rfl d_Mo_set_1 ?_
  refine lv_iload_n S.1 S.2.1 d_Mo_set_4 rfl (lv_at hl 1 rfl) ?_
  refine lv_iload_n S.1 S.2.1 d_Mo_set_5 rfl (lv_at hl 2 rfl) ?_
  refine mo_iast S K P hS M F 8 rfl k rfl (by show _ < 160; omega) d_Mo_set_6 (fun σ H locs P hS M F => ?_)
  refine lv_aload_n S.1 S.2.1 d_Mo_set_7 rfl (lv_at hl 0 rfl) ?_
  refine gf_Mo_32_Mo S K P M.1 rfl d_Mo_set_8 ?_
  refine lv_iload_n S.1 S.2.1 d_Mo_set_11 rfl (lv_at hl 1 rfl) ?_
  refine lv_iload_n S.1 S.2.1 d_Mo_set_12 rfl (lv_at hl 3 rfl) ?_
  refine mo_iast S K P hS M F 9 rfl k rfl (by show _ < 160; omega) d_Mo_set_13 (fun σ H locs P hS M F => ?_)
  refine so_vret S hr hlk P hS (Nat.le_refl _) (Nat.le_refl _) ⟨_, ?_, M, F⟩ d_Mo_set_14
  exact ⟨rfl, rfl⟩
def bk_O (b v : Int32) : Int32 := (v ^^^ (v >>> (4 &&& 31))) &&& (b - 1)
set_option maxHeartbeats 4000000 in
set_option maxRecDepth 100000 in
theorem c_Mo_bucketOf (l : Launch) {s0 : State} {D : va_G} {ca : Nat → ClassId} (hB : so_B tbl s0 D vcl (tyl ca)) {σ : so_S} {mo : Nat} {ar : Nat → Nat} {R : Rf} (M : MoR ca σ mo ar R) (k : Nat) (hk : k < 32) : mo_D l s0 D mo σ y_Mo_bucketOf b_Mo_bucketOf 2 (some .int) 0 [.int (nI k)] (fun v => v = some (.int (bk_O (R.1 12) (R.2.1 1 k)))) := by
  refine so_ofR hB (by decide) (Nat.le_of_ble_eq_true rfl) ?_
  intro p e s m below meth c ls S K E hr hlk P hS hl
  have hl : lv_has ls 2 [(0, .ref mo), (1, .int (nI k))] := hl
  refine lv_aload_n S.1 S.2.1 d_Mo_bucketOf_0 rfl (lv_at hl 0 rfl) ?_
  refine gf_Mo_7_Mo S K P M.1 rfl d_Mo_bucketOf_1 ?_
  refine lv_iload_n S.1 S.2.1 d_Mo_bucketOf_4 rfl (lv_at hl 1 rfl) ?_
  refine mo_iald S K P M 1 rfl k rfl (by show _ < 32; omega) d_Mo_bucketOf_5 ?_
  refine lv_aload_n S.1 S.2.1 d_Mo_bucketOf_6 rfl (lv_at hl 0 rfl) ?_
  refine gf_Mo_7_Mo S K P M.1 rfl d_Mo_bucketOf_7 ?_
  refine lv_iload_n S.1 S.2.1 d_Mo_bucketOf_10 rfl (lv_at hl 1 rfl) ?_
  refine mo_iald S K P M 1 rfl k rfl (by show _ < 32; omega) d_Mo_bucketOf_11 ?_
  refine lv_iconst (v := 4) S.1 S.2.1 d_Mo_bucketOf_12 (by decide) ?_
  refine lv_ishr S.1 S.2.1 d_Mo_bucketOf_13 ?_
  refine lv_ixor S.1 S.2.1 d_Mo_bucketOf_14 ?_
  refine lv_aload_n S.1 S.2.1 d_Mo_bucketOf_15 rfl (lv_at hl 0 rfl) ?_
  refine gf_Mo_41_Mo S K P M.1 rfl d_Mo_bucketOf_16 ?_
  refine lv_iconst (v := 1) S.1 S.2.1 d_Mo_bucketOf_19 (by decide) ?_
  refine lv_isub S.1 S.2.1 d_Mo_bucketOf_20 ?_
  refine lv_iand S.1 S.2.1 d_Mo_bucketOf_21 ?_
  refine so_iretR S hr hlk ?_ d_Mo_bucketOf_22
  rfl
set_option maxHeartbeats 4000000 in
set_option maxRecDepth 100000 in
theorem c_Mo_slotOf (l : Launch) {s0 : State} {D : va_G} {ca : Nat → ClassId} (hB : so_B tbl s0 D vcl (tyl ca)) {σ : so_S} (k : Nat) (hk : k < 32) : so_D l s0 D vcl y_Mo_slotOf b_Mo_slotOf 1 (some .int) 0 [.int (nI k)] σ (fun v => v = some (.int (nI (7 * k % 16)))) := by
  refine so_ofR hB (by decide) (Nat.le_of_ble_eq_true rfl) ?_
  intro p e s m below meth c ls S K E hr hlk P hS hl
  have hl : lv_has ls 1 [(0, .int (nI k))] := hl
  refine lv_bipush (v := 7) S.1 S.2.1 d_Mo_slotOf_0 (by decide) ?_
  refine lv_iload_n S.1 S.2.1 d_Mo_slotOf_2 rfl (lv_at hl 0 rfl) ?_
  refine lv_imul S.1 S.2.1 d_Mo_slotOf_3 ?_
  refine lv_bipush (v := 16) S.1 S.2.1 d_Mo_slotOf_4 (by decide) ?_
  refine lv_irem S.1 S.2.1 d_Mo_slotOf_6 (by decide) ?_
  refine so_iretR S hr hlk ?_ d_Mo_slotOf_7
  have e1 : (7 : Int32) * nI k = nI (7 * k) := pk_mul 7 k
  rw [e1]
  exact congrArg (fun z => some (Value.int z)) (pk_rem (a := 7 * k) (d := 16) (by omega) (by decide) (by decide))
set_option maxHeartbeats 4000000 in
set_option maxRecDepth 100000 in
theorem c_Mo_isMap (l : Launch) {s0 : State} {D : va_G} {ca : Nat → ClassId} (hB : so_B tbl s0 D vcl (tyl ca)) {σ : so_S} {mo : Nat} {ar : Nat → Nat} {R : Rf} (M : MoR ca σ mo ar R) (x : Int32) : mo_D l s0 D mo σ y_Mo_isMap b_Mo_isMap 2 (some .boolean) 0 [.int x] (fun v => v = some (.int (bI (is_M x)))) := by
  refine so_ofR hB (by decide) (Nat.le_of_ble_eq_true rfl) ?_
  intro p e s m below meth c ls S K E hr hlk P hS hl
  have hl : lv_has ls 2 [(0, .ref mo), (1, .int x)] := hl
  refine lv_iload_n S.1 S.2.1 d_Mo_isMap_0 rfl (lv_at hl 1 rfl) ?_
  refine lv_if_lt (tgt := 13) S.1 S.2.1 d_Mo_isMap_1 rfl (fun h1 => ?_) (fun h1 => ?_)
  · refine lv_iconst (v := 0) S.1 S.2.1 d_Mo_isMap_13 (by decide) ?_
    refine so_zretR S hr rfl hlk ?_ d_Mo_isMap_14
    unfold is_M; first | rw [if_pos h1]; rfl | rw [if_neg h1, if_pos h6]; rfl | rw [if_neg h1, if_neg h6]; rfl
  · refine lv_iload_n S.1 S.2.1 d_Mo_isMap_4 rfl (lv_at hl 1 rfl) ?_
    refine lv_iconst (v := 4) S.1 S.2.1 d_Mo_isMap_5 (by decide) ?_
    refine lv_icmp_gt (tgt := 13) S.1 S.2.1 d_Mo_isMap_6 rfl (fun h6 => ?_) (fun h6 => ?_)
    · refine lv_iconst (v := 0) S.1 S.2.1 d_Mo_isMap_13 (by decide) ?_
      refine so_zretR S hr rfl hlk ?_ d_Mo_isMap_14
      unfold is_M; first | rw [if_pos h1]; rfl | rw [if_neg h1, if_pos h6]; rfl | rw [if_neg h1, if_neg h6]; rfl
    · refine lv_iconst (v := 1) S.1 S.2.1 d_Mo_isMap_9 (by decide) ?_
      refine lv_goto (tgt := 14) S.1 S.2.1 d_Mo_isMap_10 rfl ?_
      refine so_zretR S hr rfl hlk ?_ d_Mo_isMap_14
      unfold is_M; first | rw [if_pos h1]; rfl | rw [if_neg h1, if_pos h6]; rfl | rw [if_neg h1, if_neg h6]; rfl
set_option maxHeartbeats 4000000 in
set_option maxRecDepth 100000 in
theorem c_Mo_hold (l : Launch) {s0 : State} {D : va_G} {ca : Nat → ClassId} (hB : so_B tbl s0 D vcl (tyl ca)) {σ : so_S} {mo : Nat} {ar : Nat → Nat} {R : Rf} (M : MoR ca σ mo ar R) (x : Int32) (hx : x < 0 ∨ ∃ j : Nat, j < 32 ∧ x = nI j) : mo_C l s0 D ca mo ar σ y_Mo_hold b_Mo_hold 2 none 0 [.int x] (fun v R1 => v = none ∧ ((x < 0 ∧ R1 = R) ∨ ∃ j : Nat, j < 32 ∧ x = nI j ∧ R1 = sbb R 6 j true)) := by
  refine so_of hB (by decide) (Nat.le_of_ble_eq_true rfl) ?_
  intro p e s m below meth c ls S K E hr hlk hnm P hS hl
  have hl : lv_has ls 2 [(0, .ref mo), (1, .int x)] := hl
  have F : fM σ σ := fM.rf
  refine lv_iload_n S.1 S.2.1 d_Mo_hold_0 rfl (lv_at hl 1 rfl) ?_
  refine lv_if_lt (tgt := 11) S.1 S.2.1 d_Mo_hold_1 rfl (fun h1 => ?_) (fun h1 => ?_)
  · refine so_vret S hr hlk P hS (Nat.le_refl _) (Nat.le_refl _) ⟨_, ?_, M, F⟩ d_Mo_hold_11
    first | exact ⟨rfl, Or.inr ⟨j, hj, rfl, rfl⟩⟩ | exact ⟨rfl, Or.inl ⟨h1, rfl⟩⟩
  · obtain ⟨j, hj, rfl⟩ := hx.resolve_left h1
    refine lv_aload_n S.1 S.2.1 d_Mo_hold_4 rfl (lv_at hl 0 rfl) ?_
    refine gf_Mo_26_Mo S K P M.1 rfl d_Mo_hold_5 ?_
    refine lv_iload_n S.1 S.2.1 d_Mo_hold_8 rfl (lv_at hl 1 rfl) ?_
    refine lv_iconst (v := 1) S.1 S.2.1 d_Mo_hold_9 (by decide) ?_
    refine mo_zast S K P hS M F 6 rfl j true rfl rfl (by show _ < 32; omega) d_Mo_hold_10 (fun σ H locs P hS M F => ?_)
    refine so_vret S hr hlk P hS (Nat.le_refl _) (Nat.le_refl _) ⟨_, ?_, M, F⟩ d_Mo_hold_11
    first | exact ⟨rfl, Or.inr ⟨j, hj, rfl, rfl⟩⟩ | exact ⟨rfl, Or.inl ⟨h1, rfl⟩⟩
end
section
/-! Loops: by a number that falls; the machine's goal is found by unification. -/
theorem so_lp {α : Type} {Wf : Array Slot → Heap → List Loc → so_S → α → Prop} (I : Nat → Array Slot → Heap → List Loc → so_S → α → Prop)
    (hs : ∀ (n : Nat) (ls : Array Slot) (H : Heap) (locs : List Loc) (σ : so_S) (a : α), I n ls H locs σ a → (∀ (n1 : Nat) (ls1 : Array Slot) (H1 : Heap) (locs1 : List Loc) (σ1 : so_S) (a1 : α), n1 < n → I n1 ls1 H1 locs1 σ1 a1 → Wf ls1 H1 locs1 σ1 a1) → Wf ls H locs σ a) :
    ∀ (n : Nat) (ls : Array Slot) (H : Heap) (locs : List Loc) (σ : so_S) (a : α), I n ls H locs σ a → Wf ls H locs σ a := by
  intro n
  induction n using Nat.strongRecOn with
  | ind n ih => exact fun ls H locs σ a h => hs n ls H locs σ a h (fun n1 ls1 H1 locs1 σ1 a1 hn h1 => ih n1 hn ls1 H1 locs1 σ1 a1 h1)
theorem so_lpR {α : Type} {Wf : Array Slot → α → Prop} (I : Nat → Array Slot → α → Prop)
    (hs : ∀ (n : Nat) (ls : Array Slot) (a : α), I n ls a → (∀ (n1 : Nat) (ls1 : Array Slot) (a1 : α), n1 < n → I n1 ls1 a1 → Wf ls1 a1) → Wf ls a) :
    ∀ (n : Nat) (ls : Array Slot) (a : α), I n ls a → Wf ls a := by
  intro n
  induction n using Nat.strongRecOn with
  | ind n ih => exact fun ls a h => hs n ls a h (fun n1 ls1 a1 hn h1 => ih n1 hn ls1 a1 h1)
/-- what the machine stands on in a loop of the reference's -/
def mo_I (ca : Nat → ClassId) (D : va_G) (s0 s : State) (mo : Nat) (ar : Nat → Nat) (σ0 : so_S) (ls : Array Slot) (nL : Nat) (lv : List (Nat × Value)) (H : Heap) (locs : List Loc) (σ : so_S) (R : Rf) : Prop :=
  lv_has ls nL lv ∧ so_P D vcl s0.heap.size σ H ∧ va_S (so_A s0.heap.size) s.heap H locs ∧ MoR ca σ mo ar R ∧ fM σ0 σ
end
section
/-! The reference's reads that call; find, open, close. -/
def sm_O (R : Rf) (mp : Nat) (st : Int32) (key : Nat) : Bool := if mp = 2 then decide (st = nI key) else if mp = 3 then decide (st = R.2.1 1 key) else decide (R.2.1 1 st.toNatClampNeg = R.2.1 1 key)
set_option maxHeartbeats 4000000 in
set_option maxRecDepth 100000 in
theorem c_Mo_isSame (l : Launch) {s0 : State} {D : va_G} {ca : Nat → ClassId} (hB : so_B tbl s0 D vcl (tyl ca)) {σ : so_S} {mo : Nat} {ar : Nat → Nat} {R : Rf} (M : MoR ca σ mo ar R) (mp key : Nat) (hm : mp < 5) (hk : key < 32) (sx : Int32) (hs : mp ≠ 2 → mp ≠ 3 → ∃ st : Nat, st < 32 ∧ sx = nI st) : mo_D l s0 D mo σ y_Mo_isSame b_Mo_isSame 4 (some .boolean) 0 [.int (nI mp), .int sx, .int (nI key)] (fun v => v = some (.int (bI (sm_O R mp sx key)))) := by
  refine so_ofR hB (by decide) (Nat.le_of_ble_eq_true rfl) ?_
  intro p e s m below meth c ls S K E hr hlk P hS hl
  have hl : lv_has ls 4 [(0, .ref mo), (1, .int (nI mp)), (2, .int sx), (3, .int (nI key))] := hl
  have k2 : nI mp = 2 ↔ mp = 2 := nI_eq (b := 2) (by omega) (by decide)
  have k3 : nI mp = 3 ↔ mp = 3 := nI_eq (b := 3) (by omega) (by decide)
  refine lv_iload_n S.1 S.2.1 d_Mo_isSame_0 rfl (lv_at hl 1 rfl) ?_
  refine lv_iconst (v := 2) S.1 S.2.1 d_Mo_isSame_1 (by decide) ?_
  refine lv_icmp_ne (tgt := 16) S.1 S.2.1 d_Mo_isSame_2 rfl (fun h2 => ?_) (fun h2 => ?_)
  · refine lv_iload_n S.1 S.2.1 d_Mo_isSame_16 rfl (lv_at hl 1 rfl) ?_
    refine lv_iconst (v := 3) S.1 S.2.1 d_Mo_isSame_17 (by decide) ?_
    refine lv_icmp_ne (tgt := 39) S.1 S.2.1 d_Mo_isSame_18 rfl (fun h18 => ?_) (fun h18 => ?_)
    · have n2 : ¬ mp = 2 := fun z => h2 (k2.mpr z)
      have n3 : ¬ mp = 3 := fun z => h18 (k3.mpr z)
      obtain ⟨st, hst, rfl⟩ := hs n2 n3
      refine lv_aload_n S.1 S.2.1 d_Mo_isSame_39 rfl (lv_at hl 0 rfl) ?_
      refine gf_Mo_7_Mo S K P M.1 rfl d_Mo_isSame_40 ?_
      refine lv_iload_n S.1 S.2.1 d_Mo_isSame_43 rfl (lv_at hl 2 rfl) ?_
      refine mo_iald S K P M 1 rfl st rfl (by show _ < 32; omega) d_Mo_isSame_44 ?_
      refine lv_aload_n S.1 S.2.1 d_Mo_isSame_45 rfl (lv_at hl 0 rfl) ?_
      refine gf_Mo_7_Mo S K P M.1 rfl d_Mo_isSame_46 ?_
      refine lv_iload_n S.1 S.2.1 d_Mo_isSame_49 rfl (lv_at hl 3 rfl) ?_
      refine mo_iald S K P M 1 rfl key rfl (by show _ < 32; omega) d_Mo_isSame_50 ?_
      refine lv_icmp_ne (tgt := 58) S.1 S.2.1 d_Mo_isSame_51 rfl (fun h51 => ?_) (fun h51 => ?_)
      · refine lv_iconst (v := 0) S.1 S.2.1 d_Mo_isSame_58 (by decide) ?_
        refine so_zretR S hr rfl hlk ?_ d_Mo_isSame_59
        unfold sm_O
        first
          | (rw [if_pos (k2.mp h2), decide_eq_true h7]; rfl; done)
          | (rw [if_pos (k2.mp h2), decide_eq_false h7]; rfl; done)
          | (rw [if_neg (fun z => h2 (k2.mpr z)), if_pos (k3.mp h18), decide_eq_true h28]; rfl; done)
          | (rw [if_neg (fun z => h2 (k2.mpr z)), if_pos (k3.mp h18), decide_eq_false h28]; rfl; done)
          | (rw [if_neg n2, if_neg n3, nI_clamp (by omega), decide_eq_true h51]; rfl; done)
          | (rw [if_neg n2, if_neg n3, nI_clamp (by omega), decide_eq_false h51]; rfl; done)
      · refine lv_iconst (v := 1) S.1 S.2.1 d_Mo_isSame_54 (by decide) ?_
        refine lv_goto (tgt := 59) S.1 S.2.1 d_Mo_isSame_55 rfl ?_
        refine so_zretR S hr rfl hlk ?_ d_Mo_isSame_59
        unfold sm_O
        first
          | (rw [if_pos (k2.mp h2), decide_eq_true h7]; rfl; done)
          | (rw [if_pos (k2.mp h2), decide_eq_false h7]; rfl; done)
          | (rw [if_neg (fun z => h2 (k2.mpr z)), if_pos (k3.mp h18), decide_eq_true h28]; rfl; done)
          | (rw [if_neg (fun z => h2 (k2.mpr z)), if_pos (k3.mp h18), decide_eq_false h28]; rfl; done)
          | (rw [if_neg n2, if_neg n3, nI_clamp (by omega), decide_eq_true h51]; rfl; done)
          | (rw [if_neg n2, if_neg n3, nI_clamp (by omega), decide_eq_false h51]; rfl; done)
    · refine lv_iload_n S.1 S.2.1 d_Mo_isSame_21 rfl (lv_at hl 2 rfl) ?_
      refine lv_aload_n S.1 S.2.1 d_Mo_isSame_22 rfl (lv_at hl 0 rfl) ?_
      refine gf_Mo_7_Mo S K P M.1 rfl d_Mo_isSame_23 ?_
      refine lv_iload_n S.1 S.2.1 d_Mo_isSame_26 rfl (lv_at hl 3 rfl) ?_
      refine mo_iald S K P M 1 rfl key rfl (by show _ < 32; omega) d_Mo_isSame_27 ?_
      refine lv_icmp_ne (tgt := 35) S.1 S.2.1 d_Mo_isSame_28 rfl (fun h28 => ?_) (fun h28 => ?_)
      · refine lv_iconst (v := 0) S.1 S.2.1 d_Mo_isSame_35 (by decide) ?_
        refine lv_goto (tgt := 59) S.1 S.2.1 d_Mo_isSame_36 rfl ?_
        refine so_zretR S hr rfl hlk ?_ d_Mo_isSame_59
        unfold sm_O
        first
          | (rw [if_pos (k2.mp h2), decide_eq_true h7]; rfl; done)
          | (rw [if_pos (k2.mp h2), decide_eq_false h7]; rfl; done)
          | (rw [if_neg (fun z => h2 (k2.mpr z)), if_pos (k3.mp h18), decide_eq_true h28]; rfl; done)
          | (rw [if_neg (fun z => h2 (k2.mpr z)), if_pos (k3.mp h18), decide_eq_false h28]; rfl; done)
          | (rw [if_neg n2, if_neg n3, nI_clamp (by omega), decide_eq_true h51]; rfl; done)
          | (rw [if_neg n2, if_neg n3, nI_clamp (by omega), decide_eq_false h51]; rfl; done)
      · refine lv_iconst (v := 1) S.1 S.2.1 d_Mo_isSame_31 (by decide) ?_
        refine lv_goto (tgt := 59) S.1 S.2.1 d_Mo_isSame_32 rfl ?_
        refine so_zretR S hr rfl hlk ?_ d_Mo_isSame_59
        unfold sm_O
        first
          | (rw [if_pos (k2.mp h2), decide_eq_true h7]; rfl; done)
          | (rw [if_pos (k2.mp h2), decide_eq_false h7]; rfl; done)
          | (rw [if_neg (fun z => h2 (k2.mpr z)), if_pos (k3.mp h18), decide_eq_true h28]; rfl; done)
          | (rw [if_neg (fun z => h2 (k2.mpr z)), if_pos (k3.mp h18), decide_eq_false h28]; rfl; done)
          | (rw [if_neg n2, if_neg n3, nI_clamp (by omega), decide_eq_true h51]; rfl; done)
          | (rw [if_neg n2, if_neg n3, nI_clamp (by omega), decide_eq_false h51]; rfl; done)
  · refine lv_iload_n S.1 S.2.1 d_Mo_isSame_5 rfl (lv_at hl 2 rfl) ?_
    refine lv_iload_n S.1 S.2.1 d_Mo_isSame_6 rfl (lv_at hl 3 rfl) ?_
    refine lv_icmp_ne (tgt := 14) S.1 S.2.1 d_Mo_isSame_7 rfl (fun h7 => ?_) (fun h7 => ?_)
    · refine lv_iconst (v := 0) S.1 S.2.1 d_Mo_isSame_14 (by decide) ?_
      refine so_zretR S hr rfl hlk ?_ d_Mo_isSame_15
      unfold sm_O
      first
        | (rw [if_pos (k2.mp h2), decide_eq_true h7]; rfl; done)
        | (rw [if_pos (k2.mp h2), decide_eq_false h7]; rfl; done)
        | (rw [if_neg (fun z => h2 (k2.mpr z)), if_pos (k3.mp h18), decide_eq_true h28]; rfl; done)
        | (rw [if_neg (fun z => h2 (k2.mpr z)), if_pos (k3.mp h18), decide_eq_false h28]; rfl; done)
        | (rw [if_neg n2, if_neg n3, nI_clamp (by omega), decide_eq_true h51]; rfl; done)
        | (rw [if_neg n2, if_neg n3, nI_clamp (by omega), decide_eq_false h51]; rfl; done)
    · refine lv_iconst (v := 1) S.1 S.2.1 d_Mo_isSame_10 (by decide) ?_
      refine lv_goto (tgt := 15) S.1 S.2.1 d_Mo_isSame_11 rfl ?_
      refine so_zretR S hr rfl hlk ?_ d_Mo_isSame_15
      unfold sm_O
      first
        | (rw [if_pos (k2.mp h2), decide_eq_true h7]; rfl; done)
        | (rw [if_pos (k2.mp h2), decide_eq_false h7]; rfl; done)
        | (rw [if_neg (fun z => h2 (k2.mpr z)), if_pos (k3.mp h18), decide_eq_true h28]; rfl; done)
        | (rw [if_neg (fun z => h2 (k2.mpr z)), if_pos (k3.mp h18), decide_eq_false h28]; rfl; done)
        | (rw [if_neg n2, if_neg n3, nI_clamp (by omega), decide_eq_true h51]; rfl; done)
        | (rw [if_neg n2, if_neg n3, nI_clamp (by omega), decide_eq_false h51]; rfl; done)
def ky_O (R : Rf) (mp : Nat) (x : Int32) : Bool := is_O R x && (decide (mp ≠ 3) || decide (R.2.1 1 x.toNatClampNeg ≤ 7))
set_option maxHeartbeats 4000000 in
set_option maxRecDepth 100000 in
theorem c_Mo_isKey (l : Launch) {s0 : State} {D : va_G} {ca : Nat → ClassId} (hB : so_B tbl s0 D vcl (tyl ca)) {σ : so_S} {mo : Nat} {ar : Nat → Nat} {R : Rf} (M : MoR ca σ mo ar R) (mp : Nat) (hm : mp < 5) (x : Int32) : mo_D l s0 D mo σ y_Mo_isKey b_Mo_isKey 3 (some .boolean) 1 [.int (nI mp), .int x] (fun v => v = some (.int (bI (ky_O R mp x)))) := by
  refine so_ofR hB (by decide) (Nat.le_of_ble_eq_true rfl) ?_
  intro p e s m below meth c ls S K E hr hlk P hS hl
  have hl : lv_has ls 3 [(0, .ref mo), (1, .int (nI mp)), (2, .int x)] := hl
  have k2 : nI mp = 2 ↔ mp = 2 := nI_eq (b := 2) (by omega) (by decide)
  have k3 : nI mp = 3 ↔ mp = 3 := nI_eq (b := 3) (by omega) (by decide)
  refine lv_aload_n S.1 S.2.1 d_Mo_isKey_0 rfl (lv_at hl 0 rfl) ?_
  refine lv_iload_n S.1 S.2.1 d_Mo_isKey_1 rfl (lv_at hl 2 rfl) ?_
  refine so_callR (cv_Mo_64_Mo S hB K E P hS M.1 (c_Mo_isObject l hB M x) rfl (by decide) (Nat.le_refl _) (Nat.le_refl _) hl.1 rfl (Nat.le_of_ble_eq_true rfl) d_Mo_isKey_2) (fun v hv => ?_)
  subst hv
  refine lv_if_eq (tgt := 28) S.1 S.2.1 d_Mo_isKey_5 rfl (fun h5 => ?_) (fun h5 => ?_)
  · refine lv_iconst (v := 0) S.1 S.2.1 d_Mo_isKey_28 (by decide) ?_
    refine so_zretR S hr rfl hlk ?_ d_Mo_isKey_29
    unfold ky_O
    first
      | (rw [(bI_0 _).mp h5]; rfl; done)
      | (rw [hx5, decide_eq_true (show mp ≠ 3 from fun z => h10 (k3.mpr z))]; rfl; done)
      | (rw [hx5, nI_clamp (by omega), decide_eq_false (show ¬ mp ≠ 3 from fun z => z (k3.mp h10)), decide_eq_true (i_nlt h21)]; rfl; done)
      | (rw [hx5, nI_clamp (by omega), decide_eq_false (show ¬ mp ≠ 3 from fun z => z (k3.mp h10)), decide_eq_false (i_lt_nle h21)]; rfl; done)
  · have hx5 := bI_1 h5
    obtain ⟨j, hj, rfl, -⟩ := is_cases hx5
    refine lv_iload_n S.1 S.2.1 d_Mo_isKey_8 rfl (lv_at hl 1 rfl) ?_
    refine lv_iconst (v := 3) S.1 S.2.1 d_Mo_isKey_9 (by decide) ?_
    refine lv_icmp_ne (tgt := 24) S.1 S.2.1 d_Mo_isKey_10 rfl (fun h10 => ?_) (fun h10 => ?_)
    · refine lv_iconst (v := 1) S.1 S.2.1 d_Mo_isKey_24 (by decide) ?_
      refine lv_goto (tgt := 29) S.1 S.2.1 d_Mo_isKey_25 rfl ?_
      refine so_zretR S hr rfl hlk ?_ d_Mo_isKey_29
      unfold ky_O
      first
        | (rw [(bI_0 _).mp h5]; rfl; done)
        | (rw [hx5, decide_eq_true (show mp ≠ 3 from fun z => h10 (k3.mpr z))]; rfl; done)
        | (rw [hx5, nI_clamp (by omega), decide_eq_false (show ¬ mp ≠ 3 from fun z => z (k3.mp h10)), decide_eq_true (i_nlt h21)]; rfl; done)
        | (rw [hx5, nI_clamp (by omega), decide_eq_false (show ¬ mp ≠ 3 from fun z => z (k3.mp h10)), decide_eq_false (i_lt_nle h21)]; rfl; done)
    · refine lv_aload_n S.1 S.2.1 d_Mo_isKey_13 rfl (lv_at hl 0 rfl) ?_
      refine gf_Mo_7_Mo S K P M.1 rfl d_Mo_isKey_14 ?_
      refine lv_iload_n S.1 S.2.1 d_Mo_isKey_17 rfl (lv_at hl 2 rfl) ?_
      refine mo_iald S K P M 1 rfl j rfl (by show _ < 32; omega) d_Mo_isKey_18 ?_
      refine lv_bipush (v := 7) S.1 S.2.1 d_Mo_isKey_19 (by decide) ?_
      refine lv_icmp_gt (tgt := 28) S.1 S.2.1 d_Mo_isKey_21 rfl (fun h21 => ?_) (fun h21 => ?_)
      · refine lv_iconst (v := 0) S.1 S.2.1 d_Mo_isKey_28 (by decide) ?_
        refine so_zretR S hr rfl hlk ?_ d_Mo_isKey_29
        unfold ky_O
        first
          | (rw [(bI_0 _).mp h5]; rfl; done)
          | (rw [hx5, decide_eq_true (show mp ≠ 3 from fun z => h10 (k3.mpr z))]; rfl; done)
          | (rw [hx5, nI_clamp (by omega), decide_eq_false (show ¬ mp ≠ 3 from fun z => z (k3.mp h10)), decide_eq_true (i_nlt h21)]; rfl; done)
          | (rw [hx5, nI_clamp (by omega), decide_eq_false (show ¬ mp ≠ 3 from fun z => z (k3.mp h10)), decide_eq_false (i_lt_nle h21)]; rfl; done)
      · refine lv_iconst (v := 1) S.1 S.2.1 d_Mo_isKey_24 (by decide) ?_
        refine lv_goto (tgt := 29) S.1 S.2.1 d_Mo_isKey_25 rfl ?_
        refine so_zretR S hr rfl hlk ?_ d_Mo_isKey_29
        unfold ky_O
        first
          | (rw [(bI_0 _).mp h5]; rfl; done)
          | (rw [hx5, decide_eq_true (show mp ≠ 3 from fun z => h10 (k3.mpr z))]; rfl; done)
          | (rw [hx5, nI_clamp (by omega), decide_eq_false (show ¬ mp ≠ 3 from fun z => z (k3.mp h10)), decide_eq_true (i_nlt h21)]; rfl; done)
          | (rw [hx5, nI_clamp (by omega), decide_eq_false (show ¬ mp ≠ 3 from fun z => z (k3.mp h10)), decide_eq_false (i_lt_nle h21)]; rfl; done)
set_option maxHeartbeats 4000000 in
set_option maxRecDepth 100000 in
theorem c_Mo_size (l : Launch) {s0 : State} {D : va_G} {ca : Nat → ClassId} (hB : so_B tbl s0 D vcl (tyl ca)) {σ : so_S} {mo : Nat} {ar : Nat → Nat} {R : Rf} (M : MoR ca σ mo ar R) (x : Int32) : mo_C l s0 D ca mo ar σ y_Mo_size b_Mo_size 2 (some .int) 1 [.int x] (fun v R1 => R1 = sz R 0 0 ∧ v = some (.int (if is_M x = true then R.2.1 11 x.toNatClampNeg else -1))) := by
  refine so_of hB (by decide) (Nat.le_of_ble_eq_true rfl) ?_
  intro p e s m below meth c ls S K E hr hlk hnm P hS hl
  have hl : lv_has ls 2 [(0, .ref mo), (1, .int x)] := hl
  have F : fM σ σ := fM.rf
  refine lv_aload_n S.1 S.2.1 d_Mo_size_0 rfl (lv_at hl 0 rfl) ?_
  refine lv_iconst (v := 0) S.1 S.2.1 d_Mo_size_1 (by decide) ?_
  refine mo_pz_57 S K P hS M F d_Mo_size_2 (fun σ H locs P hS M F => ?_)
  refine lv_aload_n S.1 S.2.1 d_Mo_size_5 rfl (lv_at hl 0 rfl) ?_
  refine lv_iload_n S.1 S.2.1 d_Mo_size_6 rfl (lv_at hl 1 rfl) ?_
  refine so_callR (cv_Mo_112_Mo S hB K E P hS M.1 (c_Mo_isMap l hB M x) rfl (by decide) (Nat.le_refl _) (Nat.le_refl _) hl.1 rfl (Nat.le_of_ble_eq_true rfl) d_Mo_size_7) (fun v hv => ?_)
  subst hv
  refine lv_if_eq (tgt := 22) S.1 S.2.1 d_Mo_size_10 rfl (fun h10 => ?_) (fun h10 => ?_)
  · refine lv_iconst (v := (-1)) S.1 S.2.1 d_Mo_size_22 (by decide) ?_
    refine so_iret S hr hlk P hS (Nat.le_refl _) (Nat.le_refl _) ⟨_, ?_, M, F⟩ d_Mo_size_23
    refine ⟨rfl, ?_⟩
    first
      | (rw [if_neg (by rw [(bI_0 _).mp h10]; decide)]; done)
      | (rw [if_pos hx, nI_clamp (by omega)]; rfl; done)
  · have hx := bI_1 h10
    obtain ⟨j, hj, rfl⟩ := is_M_cases hx
    refine lv_aload_n S.1 S.2.1 d_Mo_size_13 rfl (lv_at hl 0 rfl) ?_
    refine gf_Mo_38_Mo S K P M.1 rfl d_Mo_size_14 ?_
    refine lv_iload_n S.1 S.2.1 d_Mo_size_17 rfl (lv_at hl 1 rfl) ?_
    refine mo_iald S K P M 11 rfl j rfl (by show _ < 5; omega) d_Mo_size_18 ?_
    refine lv_goto (tgt := 23) S.1 S.2.1 d_Mo_size_19 rfl ?_
    refine so_iret S hr hlk P hS (Nat.le_refl _) (Nat.le_refl _) ⟨_, ?_, M, F⟩ d_Mo_size_23
    refine ⟨rfl, ?_⟩
    first
      | (rw [if_neg (by rw [(bI_0 _).mp h10]; decide)]; done)
      | (rw [if_pos hx, nI_clamp (by omega)]; rfl; done)
set_option maxHeartbeats 4000000 in
set_option maxRecDepth 100000 in
theorem c_Mo_value (l : Launch) {s0 : State} {D : va_G} {ca : Nat → ClassId} (hB : so_B tbl s0 D vcl (tyl ca)) {σ : so_S} {mo : Nat} {ar : Nat → Nat} {R : Rf} (M : MoR ca σ mo ar R) (x : Int32) : mo_C l s0 D ca mo ar σ y_Mo_value b_Mo_value 2 (some .int) 1 [.int x] (fun v R1 => R1 = sz R 0 0 ∧ v = some (.int (if is_O R x = true then R.2.1 1 x.toNatClampNeg else -1))) := by
  refine so_of hB (by decide) (Nat.le_of_ble_eq_true rfl) ?_
  intro p e s m below meth c ls S K E hr hlk hnm P hS hl
  have hl : lv_has ls 2 [(0, .ref mo), (1, .int x)] := hl
  have F : fM σ σ := fM.rf
  refine lv_aload_n S.1 S.2.1 d_Mo_value_0 rfl (lv_at hl 0 rfl) ?_
  refine lv_iconst (v := 0) S.1 S.2.1 d_Mo_value_1 (by decide) ?_
  refine mo_pz_57 S K P hS M F d_Mo_value_2 (fun σ H locs P hS M F => ?_)
  refine lv_aload_n S.1 S.2.1 d_Mo_value_5 rfl (lv_at hl 0 rfl) ?_
  refine lv_iload_n S.1 S.2.1 d_Mo_value_6 rfl (lv_at hl 1 rfl) ?_
  refine so_callR (cv_Mo_64_Mo S hB K E P hS M.1 (c_Mo_isObject l hB M x) rfl (by decide) (Nat.le_refl _) (Nat.le_refl _) hl.1 rfl (Nat.le_of_ble_eq_true rfl) d_Mo_value_7) (fun v hv => ?_)
  subst hv
  refine lv_if_eq (tgt := 22) S.1 S.2.1 d_Mo_value_10 rfl (fun h10 => ?_) (fun h10 => ?_)
  · refine lv_iconst (v := (-1)) S.1 S.2.1 d_Mo_value_22 (by decide) ?_
    refine so_iret S hr hlk P hS (Nat.le_refl _) (Nat.le_refl _) ⟨_, ?_, M, F⟩ d_Mo_value_23
    refine ⟨rfl, ?_⟩
    first
      | (rw [if_neg (show ¬ is_O R x = true by rw [show is_O R x = false from (bI_0 _).mp h10]; decide)]; done)
      | (rw [if_pos hx, nI_clamp (by omega)]; rfl; done)
  · have hx : is_O R x = true := bI_1 h10
    obtain ⟨j, hj, rfl, -⟩ := is_cases hx
    refine lv_aload_n S.1 S.2.1 d_Mo_value_13 rfl (lv_at hl 0 rfl) ?_
    refine gf_Mo_7_Mo S K P M.1 rfl d_Mo_value_14 ?_
    refine lv_iload_n S.1 S.2.1 d_Mo_value_17 rfl (lv_at hl 1 rfl) ?_
    refine mo_iald S K P M 1 rfl j rfl (by show _ < 32; omega) d_Mo_value_18 ?_
    refine lv_goto (tgt := 23) S.1 S.2.1 d_Mo_value_19 rfl ?_
    refine so_iret S hr hlk P hS (Nat.le_refl _) (Nat.le_refl _) ⟨_, ?_, M, F⟩ d_Mo_value_23
    refine ⟨rfl, ?_⟩
    first
      | (rw [if_neg (show ¬ is_O R x = true by rw [show is_O R x = false from (bI_0 _).mp h10]; decide)]; done)
      | (rw [if_pos hx, nI_clamp (by omega)]; rfl; done)
def mt_O (R : Rf) (mp key i : Nat) : Bool := decide (¬ R.2.1 8 i < 0) && sm_O R mp (R.2.1 8 i) key
def fn_O (mt : Nat → Bool) (lo : Nat) : Nat → Int32
  | 0 => -1
  | n + 1 => if mt (lo + n) = true then nI (lo + n) else fn_O mt lo n
set_option maxHeartbeats 4000000 in
set_option maxRecDepth 100000 in
theorem c_Mo_find (l : Launch) {s0 : State} {D : va_G} {ca : Nat → ClassId} (hB : so_B tbl s0 D vcl (tyl ca)) {σ : so_S} {mo : Nat} {ar : Nat → Nat} {R : Rf} (M : MoR ca σ mo ar R) (mp key n : Nat) (hm : mp < 5) (hkey : key < 32) (hz : R.2.1 11 mp = nI n) (hen : en_O mp n ≤ 160) (hok : ∀ i : Nat, 32 * mp ≤ i → i < en_O mp n → ¬ R.2.1 8 i < 0 → mp ≠ 2 → mp ≠ 3 → ∃ st : Nat, st < 32 ∧ R.2.1 8 i = nI st) : mo_D l s0 D mo σ y_Mo_find b_Mo_find 5 (some .int) 1 [.int (nI mp), .int (nI key)] (fun v => v = some (.int (fn_O (mt_O R mp key) (32 * mp) (en_O mp n - 32 * mp)))) := by
  refine so_ofR hB (by decide) (Nat.le_of_ble_eq_true rfl) ?_
  intro p e s m below meth c ls S K E hr hlk P hS hl
  have hl : lv_has ls 5 [(0, .ref mo), (1, .int (nI mp)), (2, .int (nI key))] := hl
  refine lv_iconst (v := (-1)) S.1 S.2.1 d_Mo_find_0 (by decide) ?_
  refine lv_istore_n S.1 S.2.1 d_Mo_find_1 rfl hl (by decide) rfl (fun ls hl => ?_)
  refine lv_bipush (v := 32) S.1 S.2.1 d_Mo_find_2 (by decide) ?_
  refine lv_iload_n S.1 S.2.1 d_Mo_find_4 rfl (lv_at hl 2 rfl) ?_
  refine lv_imul S.1 S.2.1 d_Mo_find_5 ?_
  refine lv_istore S.1 S.2.1 d_Mo_find_6 hl (by decide) rfl (fun ls hl => ?_)
  have e0 : (32 : Int32) * nI mp = nI (32 * mp) := pk_mul 32 mp
  rw [e0] at hl
  refine so_lpR (Wf := fun ls (_ : Nat) => W p l e _ s m _ below meth c _ _ _ _ _ (F0 m 8 ls [])) (fun n1 ls i => n1 = en_O mp n - i ∧ 32 * mp ≤ i ∧ i ≤ en_O mp n ∧ lv_has ls 5 [(4, .int (nI i)), (3, .int (fn_O (mt_O R mp key) (32 * mp) (i - 32 * mp))), (0, .ref mo), (1, .int (nI mp)), (2, .int (nI key))]) ?_ _ ls (32 * mp) ⟨rfl, Nat.le_refl _, by unfold en_O; omega, by rw [Nat.sub_self]; exact hl⟩
  clear hl
  intro n1 ls i ⟨hn1, hi1, hi2, hl⟩ ih
  refine lv_iload S.1 S.2.1 d_Mo_find_8 (lv_at hl 0 rfl) ?_
  refine lv_aload_n S.1 S.2.1 d_Mo_find_10 rfl (lv_at hl 2 rfl) ?_
  refine lv_iload_n S.1 S.2.1 d_Mo_find_11 rfl (lv_at hl 3 rfl) ?_
  refine so_callR (cv_Mo_68_Mo S hB K E P hS M.1 (c_Mo_endd l hB M mp n hm hz) rfl (by decide) (Nat.le_refl _) (Nat.le_refl _) hl.1 rfl (Nat.le_of_ble_eq_true rfl) d_Mo_find_12) (fun v hv => ?_)
  subst hv
  refine lv_icmp_ge (tgt := 57) S.1 S.2.1 d_Mo_find_15 rfl (fun h15 => ?_) (fun h15 => ?_)
  · refine lv_iload_n S.1 S.2.1 d_Mo_find_57 rfl (lv_at hl 1 rfl) ?_
    refine so_iretR S hr hlk ?_ d_Mo_find_58
    have hge : i = en_O mp n := by
      have := (nI_leI (by omega) (by omega)).mp h15
      omega
    subst hge
    rfl
  · have hlt : i < en_O mp n := Nat.not_le.mp fun q => h15 (nI_le q (by omega))
    have eiN : nI i + Int32.ofInt 1 = nI (i + 1) := nI_1 i
    refine lv_aload_n S.1 S.2.1 d_Mo_find_18 rfl (lv_at hl 2 rfl) ?_
    refine gf_Mo_29_Mo S K P M.1 rfl d_Mo_find_19 ?_
    refine lv_iload S.1 S.2.1 d_Mo_find_22 (lv_at hl 0 rfl) ?_
    refine mo_iald S K P M 8 rfl i rfl (by show i < 160; omega) d_Mo_find_24 ?_
    refine lv_if_lt (tgt := 49) S.1 S.2.1 d_Mo_find_25 rfl (fun h25 => ?_) (fun h25 => ?_)
    · refine lv_iload_n S.1 S.2.1 d_Mo_find_49 rfl (lv_at hl 1 rfl) ?_
      refine lv_istore_n S.1 S.2.1 d_Mo_find_50 rfl hl (by decide) rfl (fun ls hl => ?_)
      refine lv_iinc (k := 1) S.1 S.2.1 d_Mo_find_51 hl rfl rfl (by decide) rfl (fun ls hl => ?_)
      refine lv_goto (tgt := 8) S.1 S.2.1 d_Mo_find_54 rfl ?_
      rw [eiN] at hl
      refine ih _ ls (i + 1) ?_ ⟨rfl, by omega, by omega, ?_⟩
      · omega
      · have e1 : i + 1 - 32 * mp = (i - 32 * mp) + 1 := by omega
        have e2 : 32 * mp + (i - 32 * mp) = i := by omega
        rw [e1]
        simp only [fn_O, e2]
        rw [if_neg (show ¬ mt_O R mp key i = true from by unfold mt_O; rw [decide_eq_false (show ¬ ¬ R.2.1 8 i < 0 from fun z => z h25), Bool.false_and]; exact Bool.false_ne_true)]
        exact hl
    · refine lv_aload_n S.1 S.2.1 d_Mo_find_28 rfl (lv_at hl 2 rfl) ?_
      refine lv_iload_n S.1 S.2.1 d_Mo_find_29 rfl (lv_at hl 3 rfl) ?_
      refine lv_aload_n S.1 S.2.1 d_Mo_find_30 rfl (lv_at hl 2 rfl) ?_
      refine gf_Mo_29_Mo S K P M.1 rfl d_Mo_find_31 ?_
      refine lv_iload S.1 S.2.1 d_Mo_find_34 (lv_at hl 0 rfl) ?_
      refine mo_iald S K P M 8 rfl i rfl (by show i < 160; omega) d_Mo_find_36 ?_
      refine lv_iload_n S.1 S.2.1 d_Mo_find_37 rfl (lv_at hl 4 rfl) ?_
      refine so_callR (cv_Mo_71_Mo S hB K E P hS M.1 (c_Mo_isSame l hB M mp key hm hkey _ (hok i hi1 (by omega) h25)) rfl (by decide) (Nat.le_refl _) (Nat.le_refl _) hl.1 rfl (Nat.le_of_ble_eq_true rfl) d_Mo_find_38) (fun v hv => ?_)
      subst hv
      refine lv_if_eq (tgt := 49) S.1 S.2.1 d_Mo_find_41 rfl (fun h41 => ?_) (fun h41 => ?_)
      · refine lv_iload_n S.1 S.2.1 d_Mo_find_49 rfl (lv_at hl 1 rfl) ?_
        refine lv_istore_n S.1 S.2.1 d_Mo_find_50 rfl hl (by decide) rfl (fun ls hl => ?_)
        refine lv_iinc (k := 1) S.1 S.2.1 d_Mo_find_51 hl rfl rfl (by decide) rfl (fun ls hl => ?_)
        refine lv_goto (tgt := 8) S.1 S.2.1 d_Mo_find_54 rfl ?_
        rw [eiN] at hl
        refine ih _ ls (i + 1) ?_ ⟨rfl, by omega, by omega, ?_⟩
        · omega
        · have e1 : i + 1 - 32 * mp = (i - 32 * mp) + 1 := by omega
          have e2 : 32 * mp + (i - 32 * mp) = i := by omega
          rw [e1]
          simp only [fn_O, e2]
          rw [if_neg (show ¬ mt_O R mp key i = true from by unfold mt_O; rw [(bI_0 _).mp h41, Bool.and_false]; exact Bool.false_ne_true)]
          exact hl
      · refine lv_iload S.1 S.2.1 d_Mo_find_44 (lv_at hl 0 rfl) ?_
        refine lv_goto (tgt := 50) S.1 S.2.1 d_Mo_find_46 rfl ?_
        refine lv_istore_n S.1 S.2.1 d_Mo_find_50 rfl hl (by decide) rfl (fun ls hl => ?_)
        refine lv_iinc (k := 1) S.1 S.2.1 d_Mo_find_51 hl rfl rfl (by decide) rfl (fun ls hl => ?_)
        refine lv_goto (tgt := 8) S.1 S.2.1 d_Mo_find_54 rfl ?_
        rw [eiN] at hl
        refine ih _ ls (i + 1) ?_ ⟨rfl, by omega, by omega, ?_⟩
        · omega
        · have e1 : i + 1 - 32 * mp = (i - 32 * mp) + 1 := by omega
          have e2 : 32 * mp + (i - 32 * mp) = i := by omega
          rw [e1]
          simp only [fn_O, e2]
          rw [if_pos (show mt_O R mp key i = true from by unfold mt_O; rw [bI_1 h41, decide_eq_true h25]; rfl)]
          exact hl
end
section
/-! The reference's open and close: places move up, places move down. -/
theorem nI_p {i : Nat} (h : 1 ≤ i) : nI i - 1 = nI (i - 1) := by
  obtain ⟨j, rfl⟩ : ∃ j, i = j + 1 := ⟨i - 1, by omega⟩
  exact nI_pred j
theorem nI_m {i : Nat} (h : 1 ≤ i) : nI i + Int32.ofInt (-1) = nI (i - 1) := by
  obtain ⟨j, rfl⟩ : ∃ j, i = j + 1 := ⟨i - 1, by omega⟩
  exact pk_m1 j
theorem nI_a (i : Nat) : nI i + Int32.ofInt 1 = nI (i + 1) := nI_1 i
def shf (f : Nat → Int32) (i e : Nat) : Nat → Int32 := fun t => if t ≤ i then f t else if t ≤ e then f (t - 1) else f t
theorem shf_0 (f : Nat → Int32) (e : Nat) : shf f e e = f := by
  funext t
  unfold shf
  split
  · rfl
  · rfl
theorem shf_s (f : Nat → Int32) {i e : Nat} (h1 : 1 ≤ i) (h2 : i ≤ e) : upd (shf f i e) i (shf f i e (i - 1)) = shf f (i - 1) e := by
  funext t
  unfold upd shf
  by_cases e1 : t = i
  · subst e1
    rw [if_pos rfl, if_pos (by omega), if_neg (by omega), if_pos h2]
  · rw [if_neg e1]
    by_cases e2 : t ≤ i
    · rw [if_pos e2, if_pos (by omega)]
    · rw [if_neg e2, if_neg (show ¬ t ≤ i - 1 by omega)]
def sh_R (R : Rf) (i e : Nat) : Rf := (R.1, va_up (va_up (va_up R.2.1 8 (shf (R.2.1 8) i e)) 9 (shf (R.2.1 9) i e)) 10 (shf (R.2.1 10) i e), R.2.2)
theorem up_id {α : Type} (f : Nat → α) (k : Nat) : va_up f k (f k) = f := by
  funext j
  unfold va_up
  split
  · rename_i h; rw [h]
  · rfl
theorem sh_0 (R : Rf) (e : Nat) : sh_R R e e = R := by
  obtain ⟨z, A, B⟩ := R
  unfold sh_R
  simp only [shf_0, up_id]
theorem sh_s (R : Rf) {i e : Nat} (h1 : 1 ≤ i) (h2 : i ≤ e) : sa (sa (sa (sh_R R i e) 8 i ((sh_R R i e).2.1 8 (i - 1))) 9 i ((sh_R R i e).2.1 9 (i - 1))) 10 i ((sh_R R i e).2.1 10 (i - 1)) = sh_R R (i - 1) e := by
  have a8 : (sh_R R i e).2.1 8 = shf (R.2.1 8) i e := rfl
  have a9 : (sh_R R i e).2.1 9 = shf (R.2.1 9) i e := rfl
  have a10 : (sh_R R i e).2.1 10 = shf (R.2.1 10) i e := rfl
  refine Prod.ext rfl (Prod.ext ?_ rfl)
  show va_up (va_up (va_up (sh_R R i e).2.1 8 (upd ((sh_R R i e).2.1 8) i ((sh_R R i e).2.1 8 (i - 1)))) 9 (upd ((sh_R R i e).2.1 9) i ((sh_R R i e).2.1 9 (i - 1)))) 10 (upd ((sh_R R i e).2.1 10) i ((sh_R R i e).2.1 10 (i - 1))) = va_up (va_up (va_up R.2.1 8 (shf (R.2.1 8) (i - 1) e)) 9 (shf (R.2.1 9) (i - 1) e)) 10 (shf (R.2.1 10) (i - 1) e)
  rw [a8, a9, a10, shf_s _ h1 h2, shf_s _ h1 h2, shf_s _ h1 h2]
  funext j
  unfold va_up
  by_cases j10 : j = 10
  · rw [if_pos j10, if_pos j10]
  · rw [if_neg j10, if_neg j10]
    by_cases j9 : j = 9
    · rw [if_pos j9, if_pos j9]
    · rw [if_neg j9, if_neg j9]
      by_cases j8 : j = 8
      · rw [if_pos j8, if_pos j8]
      · rw [if_neg j8, if_neg j8]
        show va_up (va_up (va_up R.2.1 8 _) 9 _) 10 _ j = R.2.1 j
        rw [va_up_ne _ _ j10, va_up_ne _ _ j9, va_up_ne _ _ j8]
def op_R (R : Rf) (mp k n : Nat) (x y : Int32) : Rf := sa (sa (sa (sh_R R k (32 * mp + n)) 8 k x) 9 k y) 11 mp (nI (n + 1))
theorem en_r {mp n : Nat} (h2 : mp ≠ 2) (h3 : mp ≠ 3) : en_O mp n = 32 * mp + n := by
  unfold en_O
  rw [if_neg h2, if_neg h3]
set_option maxHeartbeats 4000000 in
set_option maxRecDepth 100000 in
theorem c_Mo_openn (l : Launch) {s0 : State} {D : va_G} {ca : Nat → ClassId} (hB : so_B tbl s0 D vcl (tyl ca)) {σ : so_S} {mo : Nat} {ar : Nat → Nat} {R : Rf} (M : MoR ca σ mo ar R) (mp k n : Nat) (hm : mp < 5) (h2m : mp ≠ 2) (h3m : mp ≠ 3) (hz : R.2.1 11 mp = nI n) (hn : n < 32) (hk1 : 32 * mp ≤ k) (hk2 : k ≤ 32 * mp + n) (x y : Int32) : mo_C l s0 D ca mo ar σ y_Mo_openn b_Mo_openn 6 none 1 [.int (nI mp), .int (nI k), .int x, .int y] (fun v R1 => v = none ∧ R1 = op_R R mp k n x y) := by
  refine so_of hB (by decide) (Nat.le_of_ble_eq_true rfl) ?_
  intro p e s m below meth c ls S K E hr hlk hnm P hS hl
  have hl : lv_has ls 6 [(0, .ref mo), (1, .int (nI mp)), (2, .int (nI k)), (3, .int x), (4, .int y)] := hl
  have F : fM σ σ := fM.rf
  refine lv_aload_n S.1 S.2.1 d_Mo_openn_0 rfl (lv_at hl 0 rfl) ?_
  refine lv_iload_n S.1 S.2.1 d_Mo_openn_1 rfl (lv_at hl 1 rfl) ?_
  refine so_callR (cv_Mo_68_Mo S hB K E P hS M.1 (c_Mo_endd l hB M mp n hm hz) rfl (by decide) (Nat.le_refl _) (Nat.le_refl _) hl.1 rfl (Nat.le_of_ble_eq_true rfl) d_Mo_openn_2) (fun v hv => ?_)
  subst hv
  refine lv_istore S.1 S.2.1 d_Mo_openn_5 hl (by decide) rfl (fun ls hl => ?_)
  rw [en_r h2m h3m] at hl
  refine so_lp (Wf := fun ls H locs σ1 (_ : Nat) => W p l e _ s m _ below meth c H locs _ _ _ (F0 m 7 ls [])) (fun n1 ls H locs σ1 i => n1 = i ∧ k ≤ i ∧ i ≤ 32 * mp + n ∧ mo_I ca D s0 s mo ar σ ls 6 [(5, .int (nI i)), (0, .ref mo), (1, .int (nI mp)), (2, .int (nI k)), (3, .int x), (4, .int y)] H locs σ1 (sh_R R i (32 * mp + n))) ?_ _ ls s.heap [] σ (32 * mp + n) ⟨rfl, hk2, Nat.le_refl _, hl, P, hS, by rw [sh_0]; exact M, F⟩
  clear hl P hS M F
  intro n1 ls H locs σ1 i ⟨hn1, hi1, hi2, hl, P, hS, M, F⟩ ih
  refine lv_iload S.1 S.2.1 d_Mo_openn_7 (lv_at hl 0 rfl) ?_
  refine lv_iload_n S.1 S.2.1 d_Mo_openn_9 rfl (lv_at hl 3 rfl) ?_
  refine lv_icmp_le (tgt := 59) S.1 S.2.1 d_Mo_openn_10 rfl (fun h10 => ?_) (fun h10 => ?_)
  · have hik : i = k := by
      have := (nI_leI (by omega) (by omega)).mp h10
      omega
    subst hik
    refine lv_aload_n S.1 S.2.1 d_Mo_openn_59 rfl (lv_at hl 1 rfl) ?_
    refine lv_iload_n S.1 S.2.1 d_Mo_openn_60 rfl (lv_at hl 3 rfl) ?_
    refine lv_iload_n S.1 S.2.1 d_Mo_openn_61 rfl (lv_at hl 4 rfl) ?_
    refine lv_iload S.1 S.2.1 d_Mo_openn_62 (lv_at hl 5 rfl) ?_
    refine mo_after F (cv_Mo_75_Mo S hB K E P hS M.1 (c_Mo_set l hB M i (by omega) x y) rfl (by decide) (Nat.le_refl _) (Nat.le_refl _) hl.1 rfl (Nat.le_of_ble_eq_true rfl) d_Mo_openn_64) hS (fun v R1 σ H locs hp P hS M F => ?_)
    obtain ⟨rfl, rfl⟩ := hp
    refine lv_aload_n S.1 S.2.1 d_Mo_openn_67 rfl (lv_at hl 1 rfl) ?_
    refine gf_Mo_38_Mo S K P M.1 rfl d_Mo_openn_68 ?_
    refine lv_iload_n S.1 S.2.1 d_Mo_openn_71 rfl (lv_at hl 2 rfl) ?_
    refine lv_dup2_11 S.1 S.2.1 d_Mo_openn_72 rfl rfl ?_
    refine mo_iald S K P M 11 rfl mp rfl (by show _ < 5; omega) d_Mo_openn_73 ?_
    refine lv_iconst (v := 1) S.1 S.2.1 d_Mo_openn_74 (by decide) ?_
    refine lv_iadd S.1 S.2.1 d_Mo_openn_75 ?_
    refine mo_iast S K P hS M F 11 rfl mp rfl (by show _ < 5; omega) d_Mo_openn_76 (fun σ H locs P hS M F => ?_)
    refine so_vret S hr hlk P hS (Nat.le_refl _) (Nat.le_refl _) ⟨_, ?_, M, F⟩ d_Mo_openn_77
    refine ⟨rfl, ?_⟩
    have e9 : (sa (sa (sh_R R i (32 * mp + n)) 8 i x) 9 i y).2.1 11 mp + 1 = nI (n + 1) := by
      show R.2.1 11 mp + 1 = nI (n + 1)
      rw [hz, nI_1]
    rw [e9]
    rfl
  · have hki : k < i := Nat.not_le.mp fun q => h10 (nI_le q (by omega))
    refine lv_aload_n S.1 S.2.1 d_Mo_openn_13 rfl (lv_at hl 1 rfl) ?_
    refine lv_iload S.1 S.2.1 d_Mo_openn_14 (lv_at hl 0 rfl) ?_
    refine lv_aload_n S.1 S.2.1 d_Mo_openn_16 rfl (lv_at hl 1 rfl) ?_
    refine gf_Mo_29_Mo S K P M.1 rfl d_Mo_openn_17 ?_
    refine lv_iload S.1 S.2.1 d_Mo_openn_20 (lv_at hl 0 rfl) ?_
    refine lv_iconst (v := 1) S.1 S.2.1 d_Mo_openn_22 (by decide) ?_
    refine lv_isub S.1 S.2.1 d_Mo_openn_23 ?_
    refine mo_iald S K P M 8 rfl (i - 1) (nI_p (by omega)) (by show i - 1 < 160; omega) d_Mo_openn_24 ?_
    refine lv_aload_n S.1 S.2.1 d_Mo_openn_25 rfl (lv_at hl 1 rfl) ?_
    refine gf_Mo_32_Mo S K P M.1 rfl d_Mo_openn_26 ?_
    refine lv_iload S.1 S.2.1 d_Mo_openn_29 (lv_at hl 0 rfl) ?_
    refine lv_iconst (v := 1) S.1 S.2.1 d_Mo_openn_31 (by decide) ?_
    refine lv_isub S.1 S.2.1 d_Mo_openn_32 ?_
    refine mo_iald S K P M 9 rfl (i - 1) (nI_p (by omega)) (by show i - 1 < 160; omega) d_Mo_openn_33 ?_
    refine mo_after F (cv_Mo_75_Mo S hB K E P hS M.1 (c_Mo_set l hB M i (by omega) _ _) rfl (by decide) (Nat.le_refl _) (Nat.le_refl _) hl.1 rfl (Nat.le_of_ble_eq_true rfl) d_Mo_openn_34) hS (fun v R1 σ H locs hp P hS M F => ?_)
    obtain ⟨rfl, rfl⟩ := hp
    refine lv_aload_n S.1 S.2.1 d_Mo_openn_37 rfl (lv_at hl 1 rfl) ?_
    refine gf_Mo_35_Mo S K P M.1 rfl d_Mo_openn_38 ?_
    refine lv_iload S.1 S.2.1 d_Mo_openn_41 (lv_at hl 0 rfl) ?_
    refine lv_aload_n S.1 S.2.1 d_Mo_openn_43 rfl (lv_at hl 1 rfl) ?_
    refine gf_Mo_35_Mo S K P M.1 rfl d_Mo_openn_44 ?_
    refine lv_iload S.1 S.2.1 d_Mo_openn_47 (lv_at hl 0 rfl) ?_
    refine lv_iconst (v := 1) S.1 S.2.1 d_Mo_openn_49 (by decide) ?_
    refine lv_isub S.1 S.2.1 d_Mo_openn_50 ?_
    refine mo_iald S K P M 10 rfl (i - 1) (nI_p (by omega)) (by show i - 1 < 160; omega) d_Mo_openn_51 ?_
    refine mo_iast S K P hS M F 10 rfl i rfl (by show i < 160; omega) d_Mo_openn_52 (fun σ H locs P hS M F => ?_)
    refine lv_iinc (k := 0) S.1 S.2.1 d_Mo_openn_53 hl rfl rfl (by decide) rfl (fun ls hl => ?_)
    refine lv_goto (tgt := 7) S.1 S.2.1 d_Mo_openn_56 rfl ?_
    rw [nI_m (by omega)] at hl
    refine ih (i - 1) ls H locs σ (i - 1) (by omega) ⟨rfl, by omega, by omega, hl, P, hS, ?_, F⟩
    rw [← sh_s R (by omega) hi2]
    exact M
def dwn (f : Nat → Int32) (k i : Nat) : Nat → Int32 := fun t => if k ≤ t ∧ t < i then f (t + 1) else f t
theorem dwn_0 (f : Nat → Int32) (k : Nat) : dwn f k k = f := by
  funext t
  unfold dwn
  rw [if_neg (by omega)]
theorem dwn_s (f : Nat → Int32) {k i : Nat} (h : k ≤ i) : upd (dwn f k i) i (dwn f k i (i + 1)) = dwn f k (i + 1) := by
  funext t
  unfold upd dwn
  by_cases e1 : t = i
  · subst e1
    rw [if_pos rfl, if_neg (by omega), if_pos (by omega)]
  · rw [if_neg e1]
    by_cases e2 : k ≤ t ∧ t < i
    · rw [if_pos e2, if_pos (by omega)]
    · rw [if_neg e2, if_neg (by omega)]
def dw_R (R : Rf) (k i : Nat) : Rf := (R.1, va_up (va_up (va_up R.2.1 8 (dwn (R.2.1 8) k i)) 9 (dwn (R.2.1 9) k i)) 10 (dwn (R.2.1 10) k i), R.2.2)
theorem dw_0 (R : Rf) (k : Nat) : dw_R R k k = R := by
  obtain ⟨z, A, B⟩ := R
  unfold dw_R
  simp only [dwn_0, up_id]
theorem dw_s (R : Rf) {k i : Nat} (h : k ≤ i) : sa (sa (sa (dw_R R k i) 8 i ((dw_R R k i).2.1 8 (i + 1))) 9 i ((dw_R R k i).2.1 9 (i + 1))) 10 i ((dw_R R k i).2.1 10 (i + 1)) = dw_R R k (i + 1) := by
  have a8 : (dw_R R k i).2.1 8 = dwn (R.2.1 8) k i := rfl
  have a9 : (dw_R R k i).2.1 9 = dwn (R.2.1 9) k i := rfl
  have a10 : (dw_R R k i).2.1 10 = dwn (R.2.1 10) k i := rfl
  refine Prod.ext rfl (Prod.ext ?_ rfl)
  show va_up (va_up (va_up (dw_R R k i).2.1 8 (upd ((dw_R R k i).2.1 8) i ((dw_R R k i).2.1 8 (i + 1)))) 9 (upd ((dw_R R k i).2.1 9) i ((dw_R R k i).2.1 9 (i + 1)))) 10 (upd ((dw_R R k i).2.1 10) i ((dw_R R k i).2.1 10 (i + 1))) = va_up (va_up (va_up R.2.1 8 (dwn (R.2.1 8) k (i + 1))) 9 (dwn (R.2.1 9) k (i + 1))) 10 (dwn (R.2.1 10) k (i + 1))
  rw [a8, a9, a10, dwn_s _ h, dwn_s _ h, dwn_s _ h]
  funext j
  unfold va_up
  by_cases j10 : j = 10
  · rw [if_pos j10, if_pos j10]
  · rw [if_neg j10, if_neg j10]
    by_cases j9 : j = 9
    · rw [if_pos j9, if_pos j9]
    · rw [if_neg j9, if_neg j9]
      by_cases j8 : j = 8
      · rw [if_pos j8, if_pos j8]
      · rw [if_neg j8, if_neg j8]
        show va_up (va_up (va_up R.2.1 8 _) 9 _) 10 _ j = R.2.1 j
        rw [va_up_ne _ _ j10, va_up_ne _ _ j9, va_up_ne _ _ j8]
def cl_R (R : Rf) (mp k n : Nat) : Rf := sa (dw_R (sa R 11 mp (nI (n - 1))) k (32 * mp + (n - 1))) 8 (32 * mp + (n - 1)) (-1)
set_option maxHeartbeats 4000000 in
set_option maxRecDepth 100000 in
theorem c_Mo_close (l : Launch) {s0 : State} {D : va_G} {ca : Nat → ClassId} (hB : so_B tbl s0 D vcl (tyl ca)) {σ : so_S} {mo : Nat} {ar : Nat → Nat} {R : Rf} (M : MoR ca σ mo ar R) (mp k n : Nat) (hm : mp < 5) (h2m : mp ≠ 2) (h3m : mp ≠ 3) (hz : R.2.1 11 mp = nI n) (hn1 : 1 ≤ n) (hn : n ≤ 32) (hk1 : 32 * mp ≤ k) (hk2 : k < 32 * mp + n) : mo_C l s0 D ca mo ar σ y_Mo_close b_Mo_close 4 none 1 [.int (nI mp), .int (nI k)] (fun v R1 => v = none ∧ R1 = cl_R R mp k n) := by
  refine so_of hB (by decide) (Nat.le_of_ble_eq_true rfl) ?_
  intro p e s m below meth c ls S K E hr hlk hnm P hS hl
  have hl : lv_has ls 4 [(0, .ref mo), (1, .int (nI mp)), (2, .int (nI k))] := hl
  have F : fM σ σ := fM.rf
  obtain ⟨σ0, hσ0⟩ : ∃ q, q = σ := ⟨σ, rfl⟩
  rw [← hσ0]
  rw [← hσ0] at F
  replace F : fM σ0 σ := by rw [hσ0]; exact fM.rf
  refine lv_aload_n S.1 S.2.1 d_Mo_close_0 rfl (lv_at hl 0 rfl) ?_
  refine gf_Mo_38_Mo S K P M.1 rfl d_Mo_close_1 ?_
  refine lv_iload_n S.1 S.2.1 d_Mo_close_4 rfl (lv_at hl 1 rfl) ?_
  refine lv_dup2_11 S.1 S.2.1 d_Mo_close_5 rfl rfl ?_
  refine mo_iald S K P M 11 rfl mp rfl (by show _ < 5; omega) d_Mo_close_6 ?_
  refine lv_iconst (v := 1) S.1 S.2.1 d_Mo_close_7 (by decide) ?_
  refine lv_isub S.1 S.2.1 d_Mo_close_8 ?_
  refine mo_iast S K P hS M F 11 rfl mp rfl (by show _ < 5; omega) d_Mo_close_9 (fun σ H locs P hS M F => ?_)
  refine lv_iload_n S.1 S.2.1 d_Mo_close_10 rfl (lv_at hl 2 rfl) ?_
  refine lv_istore_n S.1 S.2.1 d_Mo_close_11 rfl hl (by decide) rfl (fun ls hl => ?_)
  have e7 : R.2.1 11 mp - 1 = nI (n - 1) := by rw [hz, nI_p hn1]
  rw [e7] at M
  have hz1 : (sa R 11 mp (nI (n - 1))).2.1 11 mp = nI (n - 1) := by simp [sa, va_up, upd]
  generalize hRe : sa R 11 mp (nI (n - 1)) = R0 at M hz1
  refine so_lp (Wf := fun ls H locs σ1 (_ : Nat) => W p l e _ s m _ below meth c H locs _ _ _ (F0 m 12 ls [])) (fun n1 ls H locs σ1 i => n1 = 32 * mp + n - i ∧ k ≤ i ∧ i ≤ 32 * mp + (n - 1) ∧ mo_I ca D s0 s mo ar σ0 ls 4 [(3, .int (nI i)), (0, .ref mo), (1, .int (nI mp)), (2, .int (nI k))] H locs σ1 (dw_R R0 k i)) ?_ _ ls H locs σ k ⟨rfl, Nat.le_refl _, by omega, hl, P, hS, by rw [dw_0]; exact M, F⟩
  clear hl P hS M F
  intro n1 ls H locs σ1 i ⟨hn2, hi1, hi2, hl, P, hS, M, F⟩ ih
  have hz2 : (dw_R R0 k i).2.1 11 mp = nI (n - 1) := hz1
  refine lv_iload_n S.1 S.2.1 d_Mo_close_12 rfl (lv_at hl 0 rfl) ?_
  refine lv_aload_n S.1 S.2.1 d_Mo_close_13 rfl (lv_at hl 1 rfl) ?_
  refine lv_iload_n S.1 S.2.1 d_Mo_close_14 rfl (lv_at hl 2 rfl) ?_
  refine so_callR (cv_Mo_68_Mo S hB K E P hS M.1 (c_Mo_endd l hB M mp (n - 1) hm hz2) rfl (by decide) (Nat.le_refl _) (Nat.le_refl _) hl.1 rfl (Nat.le_of_ble_eq_true rfl) d_Mo_close_15) (fun v hv => ?_)
  subst hv
  refine lv_icmp_ge (tgt := 62) S.1 S.2.1 d_Mo_close_18 rfl (fun h18 => ?_) (fun h18 => ?_)
  · have hik : 32 * mp + (n - 1) = i := by
      rw [en_r h2m h3m] at h18
      have := (nI_leI (by omega) (by omega)).mp h18
      omega
    refine lv_aload_n S.1 S.2.1 d_Mo_close_62 rfl (lv_at hl 1 rfl) ?_
    refine gf_Mo_29_Mo S K P M.1 rfl d_Mo_close_63 ?_
    refine lv_aload_n S.1 S.2.1 d_Mo_close_66 rfl (lv_at hl 1 rfl) ?_
    refine lv_iload_n S.1 S.2.1 d_Mo_close_67 rfl (lv_at hl 2 rfl) ?_
    refine so_callR (cv_Mo_68_Mo S hB K E P hS M.1 (c_Mo_endd l hB M mp (n - 1) hm hz2) rfl (by decide) (Nat.le_refl _) (Nat.le_refl _) hl.1 rfl (Nat.le_of_ble_eq_true rfl) d_Mo_close_68) (fun v hv => ?_)
    subst hv
    rw [en_r h2m h3m]
    refine lv_iconst (v := (-1)) S.1 S.2.1 d_Mo_close_71 (by decide) ?_
    refine mo_iast S K P hS M F 8 rfl i (by rw [hik]) (by show i < 160; omega) d_Mo_close_72 (fun σ H locs P hS M F => ?_)
    refine so_vret S hr hlk P hS (Nat.le_refl _) (Nat.le_refl _) ⟨_, ?_, M, F⟩ d_Mo_close_73
    refine ⟨rfl, ?_⟩
    rw [← hik, ← hRe]
    rfl
  · have hki : i < 32 * mp + (n - 1) := Nat.not_le.mp fun q => h18 (by rw [en_r h2m h3m]; exact nI_le q (by omega))
    refine lv_aload_n S.1 S.2.1 d_Mo_close_21 rfl (lv_at hl 1 rfl) ?_
    refine lv_iload_n S.1 S.2.1 d_Mo_close_22 rfl (lv_at hl 0 rfl) ?_
    refine lv_aload_n S.1 S.2.1 d_Mo_close_23 rfl (lv_at hl 1 rfl) ?_
    refine gf_Mo_29_Mo S K P M.1 rfl d_Mo_close_24 ?_
    refine lv_iload_n S.1 S.2.1 d_Mo_close_27 rfl (lv_at hl 0 rfl) ?_
    refine lv_iconst (v := 1) S.1 S.2.1 d_Mo_close_28 (by decide) ?_
    refine lv_iadd S.1 S.2.1 d_Mo_close_29 ?_
    refine mo_iald S K P M 8 rfl (i + 1) (nI_1 i) (by show i + 1 < 160; omega) d_Mo_close_30 ?_
    refine lv_aload_n S.1 S.2.1 d_Mo_close_31 rfl (lv_at hl 1 rfl) ?_
    refine gf_Mo_32_Mo S K P M.1 rfl d_Mo_close_32 ?_
    refine lv_iload_n S.1 S.2.1 d_Mo_close_35 rfl (lv_at hl 0 rfl) ?_
    refine lv_iconst (v := 1) S.1 S.2.1 d_Mo_close_36 (by decide) ?_
    refine lv_iadd S.1 S.2.1 d_Mo_close_37 ?_
    refine mo_iald S K P M 9 rfl (i + 1) (nI_1 i) (by show i + 1 < 160; omega) d_Mo_close_38 ?_
    refine mo_after F (cv_Mo_75_Mo S hB K E P hS M.1 (c_Mo_set l hB M i (by omega) _ _) rfl (by decide) (Nat.le_refl _) (Nat.le_refl _) hl.1 rfl (Nat.le_of_ble_eq_true rfl) d_Mo_close_39) hS (fun v R1 σ H locs hp P hS M F => ?_)
    obtain ⟨rfl, rfl⟩ := hp
    refine lv_aload_n S.1 S.2.1 d_Mo_close_42 rfl (lv_at hl 1 rfl) ?_
    refine gf_Mo_35_Mo S K P M.1 rfl d_Mo_close_43 ?_
    refine lv_iload_n S.1 S.2.1 d_Mo_close_46 rfl (lv_at hl 0 rfl) ?_
    refine lv_aload_n S.1 S.2.1 d_Mo_close_47 rfl (lv_at hl 1 rfl) ?_
    refine gf_Mo_35_Mo S K P M.1 rfl d_Mo_close_48 ?_
    refine lv_iload_n S.1 S.2.1 d_Mo_close_51 rfl (lv_at hl 0 rfl) ?_
    refine lv_iconst (v := 1) S.1 S.2.1 d_Mo_close_52 (by decide) ?_
    refine lv_iadd S.1 S.2.1 d_Mo_close_53 ?_
    refine mo_iald S K P M 10 rfl (i + 1) (nI_1 i) (by show i + 1 < 160; omega) d_Mo_close_54 ?_
    refine mo_iast S K P hS M F 10 rfl i rfl (by show i < 160; omega) d_Mo_close_55 (fun σ H locs P hS M F => ?_)
    refine lv_iinc (k := 0) S.1 S.2.1 d_Mo_close_56 hl rfl rfl (by decide) rfl (fun ls hl => ?_)
    refine lv_goto (tgt := 12) S.1 S.2.1 d_Mo_close_59 rfl ?_
    rw [nI_a] at hl
    refine ih (32 * mp + n - (i + 1)) ls H locs σ (i + 1) (by omega) ⟨rfl, by omega, by omega, hl, P, hS, ?_, F⟩
    rw [← dw_s R0 hi1]
    exact M
end
